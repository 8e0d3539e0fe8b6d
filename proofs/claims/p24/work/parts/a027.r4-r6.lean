section
theorem dX4_linear_0 : decode cX4_linear 0 = .ok (.aload_n 0, 1) := dk_42 (by decide +kernel)
theorem dX4_linear_1 : decode cX4_linear 1 = .ok (.iconst 0, 1) := dk_3 (by decide +kernel)
theorem dX4_linear_2 : decode cX4_linear 2 = .ok (.invokevirtual 233, 3) := dk_182 (by decide +kernel)
theorem dX4_linear_5 : decode cX4_linear 5 = .ok (.aload_n 0, 1) := dk_42 (by decide +kernel)
theorem dX4_linear_6 : decode cX4_linear 6 = .ok (.iconst 1, 1) := dk_4 (by decide +kernel)
theorem dX4_linear_7 : decode cX4_linear 7 = .ok (.invokevirtual 217, 3) := dk_182 (by decide +kernel)
theorem dX4_linear_10 : decode cX4_linear 10 = .ok (.istore_n 1, 1) := dk_60 (by decide +kernel)
theorem dX4_linear_11 : decode cX4_linear 11 = .ok (.aload_n 0, 1) := dk_42 (by decide +kernel)
theorem dX4_linear_12 : decode cX4_linear 12 = .ok (.invokevirtual 237, 3) := dk_182 (by decide +kernel)
theorem dX4_linear_15 : decode cX4_linear 15 = .ok (.istore_n 2, 1) := dk_61 (by decide +kernel)
theorem dX4_linear_16 : decode cX4_linear 16 = .ok (.aload_n 0, 1) := dk_42 (by decide +kernel)
theorem dX4_linear_17 : decode cX4_linear 17 = .ok (.getfield 11, 3) := dk_180 (by decide +kernel)
theorem dX4_linear_20 : decode cX4_linear 20 = .ok (.iload_n 1, 1) := dk_27 (by decide +kernel)
theorem dX4_linear_21 : decode cX4_linear 21 = .ok (.iconst 3, 1) := dk_6 (by decide +kernel)
theorem dX4_linear_22 : decode cX4_linear 22 = .ok (.iadd, 1) := dk_96 (by decide +kernel)
theorem dX4_linear_23 : decode cX4_linear 23 = .ok (.iload_n 2, 1) := dk_28 (by decide +kernel)
theorem dX4_linear_24 : decode cX4_linear 24 = .ok (.iastore, 1) := dk_79 (by decide +kernel)
theorem dX4_linear_25 : decode cX4_linear 25 = .ok (.iconst 0, 1) := dk_3 (by decide +kernel)
theorem dX4_linear_26 : decode cX4_linear 26 = .ok (.istore_n 3, 1) := dk_62 (by decide +kernel)
theorem dX4_linear_27 : decode cX4_linear 27 = .ok (.iload_n 3, 1) := dk_29 (by decide +kernel)
theorem dX4_linear_28 : decode cX4_linear 28 = .ok (.sipush 4000, 3) := dk_17 (by decide +kernel)
theorem dX4_linear_31 : decode cX4_linear 31 = .ok (.if_icmp .ge 78, 3) := dk_162 (by decide +kernel)
theorem dX4_linear_34 : decode cX4_linear 34 = .ok (.aload_n 0, 1) := dk_42 (by decide +kernel)
theorem dX4_linear_35 : decode cX4_linear 35 = .ok (.getfield 19, 3) := dk_180 (by decide +kernel)
theorem dX4_linear_38 : decode cX4_linear 38 = .ok (.getfield 51, 3) := dk_180 (by decide +kernel)
theorem dX4_linear_41 : decode cX4_linear 41 = .ok (.bipush 43, 2) := dk_16 (by decide +kernel)
theorem dX4_linear_43 : decode cX4_linear 43 = .ok (.if_icmp .eq 15, 3) := dk_159 (by decide +kernel)
theorem dX4_linear_46 : decode cX4_linear 46 = .ok (.aload_n 0, 1) := dk_42 (by decide +kernel)
theorem dX4_linear_47 : decode cX4_linear 47 = .ok (.getfield 19, 3) := dk_180 (by decide +kernel)
theorem dX4_linear_50 : decode cX4_linear 50 = .ok (.getfield 51, 3) := dk_180 (by decide +kernel)
theorem dX4_linear_53 : decode cX4_linear 53 = .ok (.bipush 45, 2) := dk_16 (by decide +kernel)
theorem dX4_linear_55 : decode cX4_linear 55 = .ok (.if_icmp .ne 54, 3) := dk_160 (by decide +kernel)
theorem dX4_linear_58 : decode cX4_linear 58 = .ok (.aload_n 0, 1) := dk_42 (by decide +kernel)
theorem dX4_linear_59 : decode cX4_linear 59 = .ok (.getfield 19, 3) := dk_180 (by decide +kernel)
theorem dX4_linear_62 : decode cX4_linear 62 = .ok (.getfield 51, 3) := dk_180 (by decide +kernel)
theorem dX4_linear_65 : decode cX4_linear 65 = .ok (.istore 4, 2) := dk_54 (by decide +kernel)
theorem dX4_linear_67 : decode cX4_linear 67 = .ok (.aload_n 0, 1) := dk_42 (by decide +kernel)
theorem dX4_linear_68 : decode cX4_linear 68 = .ok (.getfield 19, 3) := dk_180 (by decide +kernel)
theorem dX4_linear_71 : decode cX4_linear 71 = .ok (.getfield 67, 3) := dk_180 (by decide +kernel)
theorem dX4_linear_74 : decode cX4_linear 74 = .ok (.istore 5, 2) := dk_54 (by decide +kernel)
theorem dX4_linear_76 : decode cX4_linear 76 = .ok (.aload_n 0, 1) := dk_42 (by decide +kernel)
theorem dX4_linear_77 : decode cX4_linear 77 = .ok (.getfield 19, 3) := dk_180 (by decide +kernel)
theorem dX4_linear_80 : decode cX4_linear 80 = .ok (.invokevirtual 119, 3) := dk_182 (by decide +kernel)
theorem dX4_linear_83 : decode cX4_linear 83 = .ok (.aload_n 0, 1) := dk_42 (by decide +kernel)
theorem dX4_linear_84 : decode cX4_linear 84 = .ok (.invokevirtual 237, 3) := dk_182 (by decide +kernel)
theorem dX4_linear_87 : decode cX4_linear 87 = .ok (.istore 6, 2) := dk_54 (by decide +kernel)
theorem dX4_linear_89 : decode cX4_linear 89 = .ok (.aload_n 0, 1) := dk_42 (by decide +kernel)
theorem dX4_linear_90 : decode cX4_linear 90 = .ok (.iload_n 2, 1) := dk_28 (by decide +kernel)
theorem dX4_linear_91 : decode cX4_linear 91 = .ok (.iload 6, 2) := dk_21 (by decide +kernel)
theorem dX4_linear_93 : decode cX4_linear 93 = .ok (.iload 4, 2) := dk_21 (by decide +kernel)
theorem dX4_linear_95 : decode cX4_linear 95 = .ok (.iload 5, 2) := dk_21 (by decide +kernel)
theorem dX4_linear_97 : decode cX4_linear 97 = .ok (.invokevirtual 240, 3) := dk_182 (by decide +kernel)
theorem dX4_linear_100 : decode cX4_linear 100 = .ok (.iload 6, 2) := dk_21 (by decide +kernel)
theorem dX4_linear_102 : decode cX4_linear 102 = .ok (.istore_n 2, 1) := dk_61 (by decide +kernel)
theorem dX4_linear_103 : decode cX4_linear 103 = .ok (.iinc 3 1, 3) := dk_132 (by decide +kernel)
theorem dX4_linear_106 : decode cX4_linear 106 = .ok (.goto (-79), 3) := dk_167 (by decide +kernel)
theorem dX4_linear_109 : decode cX4_linear 109 = .ok (.aload_n 0, 1) := dk_42 (by decide +kernel)
theorem dX4_linear_110 : decode cX4_linear 110 = .ok (.dup, 1) := dk_89 (by decide +kernel)
theorem dX4_linear_111 : decode cX4_linear 111 = .ok (.getfield 57, 3) := dk_180 (by decide +kernel)
theorem dX4_linear_114 : decode cX4_linear 114 = .ok (.iconst 1, 1) := dk_4 (by decide +kernel)
theorem dX4_linear_115 : decode cX4_linear 115 = .ok (.isub, 1) := dk_100 (by decide +kernel)
theorem dX4_linear_116 : decode cX4_linear 116 = .ok (.putfield 57, 3) := dk_181 (by decide +kernel)
theorem dX4_linear_119 : decode cX4_linear 119 = .ok (.iload_n 1, 1) := dk_27 (by decide +kernel)
theorem dX4_linear_120 : decode cX4_linear 120 = .ok (.ireturn, 1) := dk_172 (by decide +kernel)
theorem iwsMX4_linear_in4 : ∀ w ∈ wsX40, w ∈ wsMX4_linear := fun w h => List.mem_cons_of_mem _ (iwsGR_in4 w h)
theorem iwsMX4_linear_in9 : ∀ w ∈ wsX90, w ∈ wsMX4_linear := fun w h => List.mem_cons_of_mem _ (iwsGR_in9 w h)
theorem gwsMX4_linear_0 : GoodIn wsMX4_linear (wsV RX4 233 RX4 yX4_deeper wsMX4_deeper) := goodIn_sub (fun w h => List.mem_cons_of_mem _ (gwsGR_0 w h)) (gdV (by decide +kernel) gdwsMX4_deeper)
theorem gwsMX4_linear_1 : GoodIn wsMX4_linear (wsV RX4 217 RX4 yX4_node wsMX4_node) := goodIn_sub (fun w h => List.mem_cons_of_mem _ (gwsGR_1 w h)) (gdV (by decide +kernel) gdwsMX4_node)
theorem gwsMX4_linear_2 : GoodIn wsMX4_linear (wsV RX4 237 RX4 yX4_term wsMX4_term) := goodIn_rec (hd := [.methodLink RX4 237 yX4_term, .instanceMethod yX4_term, .selects RX4 yX4_term yX4_term, .initialized RX4]) (by decide +kernel) (by decide +kernel) gdwsGR
theorem gwsMX4_linear_3 : GoodIn wsMX4_linear (wsV RX4 119 RX9 yX9_advance wsMX9_advance) := goodIn_sub (fun w h => List.mem_cons_of_mem _ (gwsGR_2 w h)) (gdV (by decide +kernel) gdwsMX9_advance)
theorem gwsMX4_linear_4 : GoodIn wsMX4_linear (wsV RX4 240 RX4 yX4_link wsMX4_link) := goodIn_sub (fun w h => List.mem_cons_of_mem _ (gwsGR_3 w h)) (gdV (by decide +kernel) gdwsMX4_link)
theorem hm_m_X4_linear_0 : (.fieldLink RX4 19 "OptimaWorks$Reader" "words" "LOptimaWorks$Words;" : Cond) ∈ wsMX4_linear := by decide +kernel
theorem hm_m_X4_linear_1 : (.fieldLink RX4 51 "OptimaWorks$Words" "kind" "I" : Cond) ∈ wsMX4_linear := by decide +kernel
theorem hm_m_X4_linear_2 : (.fieldLink RX4 67 "OptimaWorks$Words" "at" "I" : Cond) ∈ wsMX4_linear := by decide +kernel
theorem hm_m_X4_linear_3 : (.fieldLink RX4 57 "OptimaWorks$Reader" "depth" "I" : Cond) ∈ wsMX4_linear := by decide +kernel
set_option maxHeartbeats 4000000 in
set_option maxRecDepth 100000 in
/-- a LINEAR read -/
theorem m_X4_linear (l : Launch) (hst : l.stackTraces = false) (ev : Nat) (ih_X4_term : Cm_X4_term l (ev + 1)) : Cm_X4_linear l (ev + 1) := by
  intro dC dI hJ aJ kJ hT hM hL iJ_used iJ_depth jJ_ownName gJ_binder iJ_binders iJ_firstSet iJ_secondSet aL kL iL_names gL_key fL_kind fL_one fL_two fL_base iL_params fL_paramOver dL_paramOver nL_params fL_paramUnder dL_paramUnder nL_pu gL_over gL_under fL_bound iL_nameAt iL_startAt iL_steps jL_scaleOver jL_scaleUnder hF aF kF dF_tree nF_tree fF_tree aT kT fT_tape dT_tape nT_tape iT_length iT_fault iT_place iT_kind iT_at iT_number jT_name iT_next lv b_iJ_used b_iJ_depth b_iJ_binders b_iJ_firstSet b_iJ_secondSet b_iL_names b_fL_kind b_fL_two b_fL_base b_iL_params b_nL_params b_nm b_pm b_pu b_nF_tree b_fT_tape b_nT_tape b_iT_length b_iT_at b_iT_number b_iT_next b_len hu1 hu2 hu7 hp1 hp2 hp3 hlv hdp sz
  refine vx_ofW (cc := cX4_linear) (maxL := 7) (ret := (some .int)) (by decide) rfl ?_
  intro p e s m args below meth c s₁ B hml htab hv
  obtain ⟨rfl, hsz, hP, hK, hD0, hE⟩ := hv
  have hx := B.exec
  have hb := B.bytes
  have hr := B.returns
  have hts := atoms_spec (ws := wsMX4_linear) B.pre
  have hown : s.vm.findClass RX4 = some m.cls := findClass_of_methodNamed B.named
  have hlocks := B.notSynchronized
  subst hsz
  have hD := hD0.self (sz := s.heap.size)
  generalize hAe : va_A (WJ hJ aJ kJ hT hM hL (.ref dF_tree) iJ_used iJ_depth jJ_ownName gJ_binder iJ_binders iJ_firstSet iJ_secondSet ++ (WL hL aL kL hT hM (.ref dF_tree) iL_names gL_key fL_kind fL_one fL_two fL_base iL_params fL_paramOver dL_paramOver nL_params fL_paramUnder dL_paramUnder nL_pu gL_over gL_under fL_bound iL_nameAt iL_startAt iL_steps jL_scaleOver jL_scaleUnder ++ (WF hF aF kF dF_tree nF_tree fF_tree ++ (WT hT aT kT fT_tape dT_tape nT_tape iT_length iT_fault iT_place iT_kind iT_at iT_number jT_name iT_next)))) s.heap.size = A at hD hE ⊢
  have hA : ∀ q : Nat, s.heap.size ≤ q → A q := fun q h => by rw [← hAe]; exact Or.inr h
  have hS : va_S A s.heap s.heap [] := va_S.rf
  have hl := lv_entry ([.ref (hJ 0)]) (n := 7) (Nat.le_of_ble_eq_true rfl)
  rw [lg_entry_eq]
  generalize (lg_sl ([.ref (hJ 0)]) ++ List.replicate (7 - (lg_sl ([.ref (hJ 0)])).length) Slot.unset).toArray = ls at hl ⊢
  have hl : lv_has ls 7 [(0, .ref (hJ 0))] := hl
  refine lv_aload_n hx hb dX4_linear_0 rfl (lv_at hl 0 rfl) ?_
  refine lv_iconst (v := 0) hx hb dX4_linear_1 (by decide) ?_
  refine W.known (fun hz0 _ => ?_)
  have p9 := cj_4_0_1_3 (WJ hJ aJ kJ hT hM hL (.ref dF_tree) iJ_used iJ_depth jJ_ownName gJ_binder iJ_binders iJ_firstSet iJ_secondSet) (WL hL aL kL hT hM (.ref dF_tree) iL_names gL_key fL_kind fL_one fL_two fL_base iL_params fL_paramOver dL_paramOver nL_params fL_paramUnder dL_paramUnder nL_pu gL_over gL_under fL_bound iL_nameAt iL_startAt iL_steps jL_scaleOver jL_scaleUnder) (WF hF aF kF dF_tree nF_tree fF_tree) (WT hT aT kT fT_tape dT_tape nT_tape iT_length iT_fault iT_place iT_kind iT_at iT_number jT_name iT_next)
  have hPc := hP.mem (fun q h => p9.mem_iff.mpr (List.mem_append_left _ h))
  have hDc := (hD.perm p9).left
  have hKc : va_K (dC, dI) vwCl (tJ kJ ++ (tL kL ++ (tT kT))) _ := hK.sub [0, 1, 2, 3, 4, 5, 6, 7, 8, 9, 10, 12] rfl
  have hFc := freeG p9 hD hS hA
  refine vx_callv (vx_runV (As := [.int 0]) (rest := []) ⟨hx, hb, hml, hown, hts⟩ (m_X4_deeper l hst dC dI hJ aJ kJ hT hM hL (.ref dF_tree) iJ_used iJ_depth jJ_ownName gJ_binder iJ_binders iJ_firstSet iJ_secondSet aL kL (.ref dF_tree) iL_names gL_key fL_kind fL_one fL_two fL_base iL_params fL_paramOver dL_paramOver nL_params fL_paramUnder dL_paramUnder nL_pu gL_over gL_under fL_bound iL_nameAt iL_startAt iL_steps jL_scaleOver jL_scaleUnder aT kT fT_tape dT_tape nT_tape iT_length iT_fault iT_place iT_kind iT_at iT_number jT_name iT_next 0 (b_iJ_used) (b_iJ_depth) (b_iJ_binders) (b_iJ_firstSet) (b_iJ_secondSet) (b_iL_names) b_fL_kind b_fL_two b_fL_base (b_iL_params) (by first | exact b_nL_params | with_reducible assumption | exact ⟨by omega, by omega⟩ | assumption) (by first | with_reducible assumption | omega | (rw [iI_t (by omega) (by omega)]; omega) | assumption) (by first | with_reducible assumption | omega | (rw [iI_t (by omega) (by omega)]; omega) | assumption) (by first | with_reducible assumption | omega | (rw [iI_t (by omega) (by omega)]; omega) | assumption) b_fT_tape (by first | exact b_nT_tape | with_reducible assumption | exact ⟨by omega, by omega⟩ | assumption) (b_iT_length) (b_iT_at) (b_iT_number) (b_iT_next) (by first | with_reducible assumption | omega | assumption) s.heap.size) (cwV 1 hts gwsMX4_linear_0 rfl rfl rfl (by decide +kernel) ⟨by first | decide +kernel | (dsimp only [headSpec] <;> omega), by first | decide +kernel | (dsimp only [headSpec] <;> omega)⟩) (fz_preE (va_recv hK hP (ci := 4) (q0 := 0) rfl rfl) hPc hKc hDc (fun a U g mk qE => qE.call) (fun U hU9 hW => by rw [hU9]; exact (((hE : CE A s s.heap).kept hS.2.1).narrow (fun q h => hFc q h)).warm hW)) rfl rfl hl.1 rfl (lv_room (Nat.le_of_ble_eq_true rfl)) dX4_linear_2 ⟨by first | decide +kernel | (dsimp only [headSpec] <;> omega), by first | decide +kernel | (dsimp only [headSpec] <;> omega)⟩) hS (fun q _ h => hFc q h) hFc (fun q _ h => hFc q h) (fun E ce q9 u t9_ H locs ht hvm hw9 hB9 hz1 hk1 hS hc1 hc2 hc3 => ?_) (fun u t9_ H locs ht hvm hw9 hB9 hz1 hk1 hS => ?_)
  · revert u hw9 hB9
    refine fz_p3 ?_
    intro iJ_depth_1 iT_fault_1 iT_place_1 hw9 hB9
    try dsimp only at hw9 hB9
    revert hB9
    refine fz_a2 ?_
    intro hEx hB9
    have b_iJ_depth_1 := hw9
    try dsimp only at b_iJ_depth_1
    have p8 := cj_4_0_1_3 (WJ hJ aJ kJ hT hM hL (.ref dF_tree) iJ_used iJ_depth_1 jJ_ownName gJ_binder iJ_binders iJ_firstSet iJ_secondSet) (WL hL aL kL hT hM (.ref dF_tree) iL_names gL_key fL_kind fL_one fL_two fL_base iL_params fL_paramOver dL_paramOver nL_params fL_paramUnder dL_paramUnder nL_pu gL_over gL_under fL_bound iL_nameAt iL_startAt iL_steps jL_scaleOver jL_scaleUnder) (WF hF aF kF dF_tree nF_tree fF_tree) (WT hT aT kT fT_tape dT_tape nT_tape iT_length iT_fault_1 iT_place_1 iT_kind iT_at iT_number jT_name iT_next)
    obtain ⟨hP, hD⟩ := frameG p9 p8 hP hD hk1 hFc (fz_P ht hB9.1) hB9.2
    exact vx_out (fun x hx9 => (htab x hx9).elim) hlocks hc1 hc2 hc3 (fun t9_ ht hvm => ⟨(iJ_used, iJ_depth_1, gJ_binder, iJ_binders, fF_tree, iT_fault_1, iT_place_1, iT_kind, iT_at, iT_number, jT_name, iT_next), ⟨(b_iJ_used), (by (try dsimp only); exact (by first | exact b_iJ_depth_1 | with_reducible assumption | exact ⟨by omega, by omega⟩ | assumption)), (b_iJ_binders), (b_iT_at), (b_iT_number), (b_iT_next)⟩, ⟨(by have h9 := hEx; exact h9), by rw [ht]; exact hP, hD⟩, hS.F ht⟩) hS.2.2 (by decide +kernel) (by decide +kernel)
  revert u hw9 hB9
  refine fz_p3 ?_
  intro iJ_depth_1 iT_fault_1 iT_place_1 hw9 hB9
  try dsimp only at hw9 hB9
  revert hw9
  refine fz_a2 ?_
  intro b_iJ_depth_1 f1_0
  have hz8 := hB9.2.2
  rw [ht] at hz8
  have hz9 : H.size ≤ s.heap.size + 0 := by rw [hz8]; exact hz0
  refine W.tight (cells2 := 0) (slots2 := 0) hz9 (nS_0 hz9) ?_
  clear hz8 hz9
  have p8 := cj_4_0_1_3 (WJ hJ aJ kJ hT hM hL (.ref dF_tree) iJ_used iJ_depth_1 jJ_ownName gJ_binder iJ_binders iJ_firstSet iJ_secondSet) (WL hL aL kL hT hM (.ref dF_tree) iL_names gL_key fL_kind fL_one fL_two fL_base iL_params fL_paramOver dL_paramOver nL_params fL_paramUnder dL_paramUnder nL_pu gL_over gL_under fL_bound iL_nameAt iL_startAt iL_steps jL_scaleOver jL_scaleUnder) (WF hF aF kF dF_tree nF_tree fF_tree) (WT hT aT kT fT_tape dT_tape nT_tape iT_length iT_fault_1 iT_place_1 iT_kind iT_at iT_number jT_name iT_next)
  obtain ⟨hP, hD⟩ := frameG p9 p8 hP hD hk1 hFc (fz_P ht hB9.1) hB9.2.1
  refine lv_aload_n hx hb dX4_linear_5 rfl (lv_at hl 0 rfl) ?_
  refine lv_iconst (v := 1) hx hb dX4_linear_6 (by decide) ?_
  refine W.known (fun hz0 _ => ?_)
  have p9 := cj_4_0_2_3 (WJ hJ aJ kJ hT hM hL (.ref dF_tree) iJ_used iJ_depth_1 jJ_ownName gJ_binder iJ_binders iJ_firstSet iJ_secondSet) (WL hL aL kL hT hM (.ref dF_tree) iL_names gL_key fL_kind fL_one fL_two fL_base iL_params fL_paramOver dL_paramOver nL_params fL_paramUnder dL_paramUnder nL_pu gL_over gL_under fL_bound iL_nameAt iL_startAt iL_steps jL_scaleOver jL_scaleUnder) (WF hF aF kF dF_tree nF_tree fF_tree) (WT hT aT kT fT_tape dT_tape nT_tape iT_length iT_fault_1 iT_place_1 iT_kind iT_at iT_number jT_name iT_next)
  have hPc := hP.mem (fun q h => p9.mem_iff.mpr (List.mem_append_left _ h))
  have hDc := (hD.perm p9).left
  have hKc : va_K (dC, dI) vwCl (tJ kJ ++ (tF kF ++ (tT kT))) _ := hK.sub [0, 11, 12] rfl
  have hFc := freeG p9 hD hS hA
  refine vx_calli (vx_runV (As := [.int 1]) (rest := []) ⟨hx, hb, hml, hown, hts⟩ (m_X4_node l hst dC dI hJ aJ kJ hT hM hL iJ_used iJ_depth_1 jJ_ownName gJ_binder iJ_binders iJ_firstSet iJ_secondSet hF aF kF dF_tree nF_tree fF_tree aT kT fT_tape dT_tape nT_tape iT_length iT_fault_1 iT_place_1 iT_kind iT_at iT_number jT_name iT_next 1 (b_iJ_used) (b_iJ_depth_1) (b_iJ_binders) (b_iJ_firstSet) (b_iJ_secondSet) (by first | exact b_nF_tree | with_reducible assumption | exact ⟨by omega, by omega⟩ | assumption) b_fT_tape (by first | exact b_nT_tape | with_reducible assumption | exact ⟨by omega, by omega⟩ | assumption) (b_iT_length) (b_iT_at) (b_iT_number) (b_iT_next) (by first | with_reducible assumption | omega | assumption) (by first | with_reducible assumption | omega | (rw [iI_t (by omega) (by omega)]; omega) | decide | assumption) (by first | with_reducible assumption | omega | (rw [iI_t (by omega) (by omega)]; omega) | decide | assumption) (by first | with_reducible assumption | omega | (rw [iI_t (by omega) (by omega)]; omega) | decide | assumption) H.size) (cwV 1 hts gwsMX4_linear_1 rfl rfl rfl (by decide +kernel) ⟨by first | decide +kernel | (dsimp only [headSpec] <;> omega), by first | decide +kernel | (dsimp only [headSpec] <;> omega)⟩) (fz_preE (va_recv hK hP (ci := 4) (q0 := 0) rfl rfl) hPc hKc hDc (fun a U g mk qE => qE.call) (fun U hU9 hW => by rw [hU9]; exact (((hE : CE A s s.heap).kept hS.2.1).narrow (fun q h => hFc q h)).warm hW)) rfl rfl hl.1 rfl (lv_room (Nat.le_of_ble_eq_true rfl)) dX4_linear_7 ⟨by first | decide +kernel | (dsimp only [headSpec] <;> omega), by first | decide +kernel | (dsimp only [headSpec] <;> omega)⟩) hS (fun q _ h => hFc q h) hFc (fun q _ h => hFc q h) (fun E ce q9 u t9_ H locs ht hvm hw9 hB9 hz1 hk1 hS hc1 hc2 hc3 => ?_) (fun r2 u t9_ H locs ht hvm hw9 hB9 hz1 hk1 hS => ?_)
  · revert u hw9 hB9
    refine fz_p4 ?_
    intro iJ_used_2 fF_tree_2 iT_fault_2 iT_place_2 hw9 hB9
    try dsimp only at hw9 hB9
    revert hB9
    refine fz_a2 ?_
    intro hEx hB9
    have b_iJ_used_2 := hw9
    try dsimp only at b_iJ_used_2
    have p8 := cj_4_0_2_3 (WJ hJ aJ kJ hT hM hL (.ref dF_tree) iJ_used_2 iJ_depth_1 jJ_ownName gJ_binder iJ_binders iJ_firstSet iJ_secondSet) (WL hL aL kL hT hM (.ref dF_tree) iL_names gL_key fL_kind fL_one fL_two fL_base iL_params fL_paramOver dL_paramOver nL_params fL_paramUnder dL_paramUnder nL_pu gL_over gL_under fL_bound iL_nameAt iL_startAt iL_steps jL_scaleOver jL_scaleUnder) (WF hF aF kF dF_tree nF_tree fF_tree_2) (WT hT aT kT fT_tape dT_tape nT_tape iT_length iT_fault_2 iT_place_2 iT_kind iT_at iT_number jT_name iT_next)
    obtain ⟨hP, hD⟩ := frameG p9 p8 hP hD hk1 hFc (fz_P ht hB9.1) hB9.2
    exact vx_out (fun x hx9 => (htab x hx9).elim) hlocks hc1 hc2 hc3 (fun t9_ ht hvm => ⟨(iJ_used_2, iJ_depth_1, gJ_binder, iJ_binders, fF_tree_2, iT_fault_2, iT_place_2, iT_kind, iT_at, iT_number, jT_name, iT_next), ⟨(by (try dsimp only); exact (by first | exact b_iJ_used_2 | with_reducible assumption | exact ⟨by omega, by omega⟩ | assumption)), (b_iJ_depth_1), (b_iJ_binders), (b_iT_at), (b_iT_number), (b_iT_next)⟩, ⟨(by have h9 := hEx; exact h9), by rw [ht]; exact hP, hD⟩, hS.F ht⟩) hS.2.2 (by decide +kernel) (by decide +kernel)
  revert u hw9 hB9
  refine fz_p4 ?_
  intro iJ_used_2 fF_tree_2 iT_fault_2 iT_place_2 hw9 hB9
  try dsimp only at hw9 hB9
  revert hw9
  refine fz_a5 ?_
  intro b_iJ_used_2 f2_0 f2_1 f2_2 f2_3
  have hz8 := hB9.2.2
  rw [ht] at hz8
  have hz9 : H.size ≤ s.heap.size + 0 := by rw [hz8]; exact hz0
  refine W.tight (cells2 := 0) (slots2 := 0) hz9 (nS_0 hz9) ?_
  clear hz8 hz9
  have p8 := cj_4_0_2_3 (WJ hJ aJ kJ hT hM hL (.ref dF_tree) iJ_used_2 iJ_depth_1 jJ_ownName gJ_binder iJ_binders iJ_firstSet iJ_secondSet) (WL hL aL kL hT hM (.ref dF_tree) iL_names gL_key fL_kind fL_one fL_two fL_base iL_params fL_paramOver dL_paramOver nL_params fL_paramUnder dL_paramUnder nL_pu gL_over gL_under fL_bound iL_nameAt iL_startAt iL_steps jL_scaleOver jL_scaleUnder) (WF hF aF kF dF_tree nF_tree fF_tree_2) (WT hT aT kT fT_tape dT_tape nT_tape iT_length iT_fault_2 iT_place_2 iT_kind iT_at iT_number jT_name iT_next)
  obtain ⟨hP, hD⟩ := frameG p9 p8 hP hD hk1 hFc (fz_P ht hB9.1) hB9.2.1
  have hNw := f2_3
  refine lv_istore_n hx hb dX4_linear_10 rfl hl (by decide) rfl (fun ls (hl : lv_has ls _ ([(1, .int r2), (0, .ref (hJ 0))])) => ?_)
  refine lv_aload_n hx hb dX4_linear_11 rfl (lv_at hl 1 rfl) ?_
  refine W.known (fun hz0 _ => ?_)
  have hFc := allFree hD hS hA
  refine vx_calli (vx_runV (As := []) (rest := []) ⟨hx, hb, hml, hown, hts⟩ (ih_X4_term dC dI hJ aJ kJ hT hM hL iJ_used_2 iJ_depth_1 jJ_ownName gJ_binder iJ_binders iJ_firstSet iJ_secondSet aL kL iL_names gL_key fL_kind fL_one fL_two fL_base iL_params fL_paramOver dL_paramOver nL_params fL_paramUnder dL_paramUnder nL_pu gL_over gL_under fL_bound iL_nameAt iL_startAt iL_steps jL_scaleOver jL_scaleUnder hF aF kF dF_tree nF_tree fF_tree_2 aT kT fT_tape dT_tape nT_tape iT_length iT_fault_2 iT_place_2 iT_kind iT_at iT_number jT_name iT_next lv (b_iJ_used_2) (b_iJ_depth_1) (b_iJ_binders) (b_iJ_firstSet) (b_iJ_secondSet) (b_iL_names) b_fL_kind b_fL_two b_fL_base (b_iL_params) (by first | exact b_nL_params | with_reducible assumption | exact ⟨by omega, by omega⟩ | assumption) (by first | with_reducible assumption | omega | (rw [iI_t (by omega) (by omega)]; omega) | assumption) (by first | with_reducible assumption | omega | (rw [iI_t (by omega) (by omega)]; omega) | assumption) (by first | with_reducible assumption | omega | (rw [iI_t (by omega) (by omega)]; omega) | assumption) (by first | exact b_nF_tree | with_reducible assumption | exact ⟨by omega, by omega⟩ | assumption) b_fT_tape (by first | exact b_nT_tape | with_reducible assumption | exact ⟨by omega, by omega⟩ | assumption) (b_iT_length) (b_iT_at) (b_iT_number) (b_iT_next) (by first | with_reducible assumption | omega | assumption) (by first | with_reducible assumption | omega | (rw [iI_t (by omega) (by omega)]; omega) | decide | assumption) (by first | with_reducible assumption | omega | (rw [iI_t (by omega) (by omega)]; omega) | decide | assumption) (by first | with_reducible assumption | omega | (rw [iI_t (by omega) (by omega)]; omega) | decide | assumption) (by first | with_reducible assumption | omega | (rw [iI_t (by omega) (by omega)]; omega) | decide | assumption) (by first | with_reducible assumption | omega | (rw [iI_t (by omega) (by omega)]; omega) | decide | assumption) (by first | with_reducible assumption | omega | (rw [iI_t (by omega) (by omega)]; omega) | decide | assumption) (by first | with_reducible assumption | omega | (rw [iI_t (by omega) (by omega)]; omega) | decide | assumption) (by first | with_reducible assumption | omega | (rw [iI_t (by omega) (by omega)]; omega) | decide | assumption) H.size) (cwV 0 hts gwsMX4_linear_2 rfl rfl rfl (by decide +kernel) ⟨by first | decide +kernel | (dsimp only [headSpec] <;> omega), by first | decide +kernel | (dsimp only [headSpec] <;> omega)⟩) (fz_preE (va_recv hK hP (ci := 4) (q0 := 0) rfl rfl) hP hK hD (fun a U g mk qE => qE.call) (fun U hU9 hW => by rw [hU9]; exact (((hE : CE A s s.heap).kept hS.2.1).narrow (fun q h => hFc q h)).warm hW)) rfl rfl hl.1 rfl (lv_room (Nat.le_of_ble_eq_true rfl)) dX4_linear_12 ⟨by first | decide +kernel | (dsimp only [headSpec] <;> omega), by first | decide +kernel | (dsimp only [headSpec] <;> omega)⟩) hS (fun q _ h => hFc q h) hFc (fun q _ h => hFc q h) (fun E ce q9 u t9_ H locs ht hvm hw9 hB9 hz1 hk1 hS hc1 hc2 hc3 => ?_) (fun r3 u t9_ H locs ht hvm hw9 hB9 hz1 hk1 hS => ?_)
  · revert u hw9 hB9
    refine fz_p12 ?_
    intro iJ_used_3 iJ_depth_3 gJ_binder_3 iJ_binders_3 fF_tree_3 iT_fault_3 iT_place_3 iT_kind_3 iT_at_3 iT_number_3 jT_name_3 iT_next_3 hw9 hB9
    try dsimp only at hw9 hB9
    revert hB9
    refine fz_a2 ?_
    intro hEx hB9
    revert hw9
    refine fz_a6 ?_
    intro b_iJ_used_3 b_iJ_depth_3 b_iJ_binders_3 b_iT_at_3 b_iT_number_3 b_iT_next_3
    have hP : va_P (dC, dI) vwCl (WJ hJ aJ kJ hT hM hL (.ref dF_tree) iJ_used_3 iJ_depth_3 jJ_ownName gJ_binder_3 iJ_binders_3 iJ_firstSet iJ_secondSet ++ (WL hL aL kL hT hM (.ref dF_tree) iL_names gL_key fL_kind fL_one fL_two fL_base iL_params fL_paramOver dL_paramOver nL_params fL_paramUnder dL_paramUnder nL_pu gL_over gL_under fL_bound iL_nameAt iL_startAt iL_steps jL_scaleOver jL_scaleUnder ++ (WF hF aF kF dF_tree nF_tree fF_tree_3 ++ (WT hT aT kT fT_tape dT_tape nT_tape iT_length iT_fault_3 iT_place_3 iT_kind_3 iT_at_3 iT_number_3 jT_name_3 iT_next_3)))) H := fz_P ht hB9.1
    have hD := fz_sd hP (hB9.2.weaken (fun _ q _ h => hFc q.1 h)) rfl
    exact vx_out (fun x hx9 => (htab x hx9).elim) hlocks hc1 hc2 hc3 (fun t9_ ht hvm => ⟨(iJ_used_3, iJ_depth_3, gJ_binder_3, iJ_binders_3, fF_tree_3, iT_fault_3, iT_place_3, iT_kind_3, iT_at_3, iT_number_3, jT_name_3, iT_next_3), ⟨(b_iJ_used_3), (b_iJ_depth_3), (b_iJ_binders_3), (b_iT_at_3), (b_iT_number_3), (b_iT_next_3)⟩, ⟨(by have h9 := hEx; exact h9), by rw [ht]; exact hP, hD⟩, hS.F ht⟩) hS.2.2 (by decide +kernel) (by decide +kernel)
  revert u hw9 hB9
  refine fz_p12 ?_
  intro iJ_used_3 iJ_depth_3 gJ_binder_3 iJ_binders_3 fF_tree_3 iT_fault_3 iT_place_3 iT_kind_3 iT_at_3 iT_number_3 jT_name_3 iT_next_3 hw9 hB9
  try dsimp only at hw9 hB9
  revert hw9
  refine fz_a16 ?_
  intro b_iJ_used_3 b_iJ_depth_3 b_iJ_binders_3 b_iT_at_3 b_iT_number_3 b_iT_next_3 f3_0 f3_1 f3_2 f3_3 f3_4 f3_5 f3_6 f3_7 f3_8 f3_9
  have hz8 := hB9.2.2
  rw [ht] at hz8
  have hz9 : H.size ≤ s.heap.size + 0 := by rw [hz8]; exact hz0
  refine W.tight (cells2 := 0) (slots2 := 0) hz9 (nS_0 hz9) ?_
  clear hz8 hz9
  have hP : va_P (dC, dI) vwCl (WJ hJ aJ kJ hT hM hL (.ref dF_tree) iJ_used_3 iJ_depth_3 jJ_ownName gJ_binder_3 iJ_binders_3 iJ_firstSet iJ_secondSet ++ (WL hL aL kL hT hM (.ref dF_tree) iL_names gL_key fL_kind fL_one fL_two fL_base iL_params fL_paramOver dL_paramOver nL_params fL_paramUnder dL_paramUnder nL_pu gL_over gL_under fL_bound iL_nameAt iL_startAt iL_steps jL_scaleOver jL_scaleUnder ++ (WF hF aF kF dF_tree nF_tree fF_tree_3 ++ (WT hT aT kT fT_tape dT_tape nT_tape iT_length iT_fault_3 iT_place_3 iT_kind_3 iT_at_3 iT_number_3 jT_name_3 iT_next_3)))) H := fz_P ht hB9.1
  have hD := fz_sd hP (hB9.2.1.weaken (fun _ q _ h => hFc q.1 h)) rfl
  have hF1 := f3_1
  refine lv_istore_n hx hb dX4_linear_15 rfl hl (by decide) rfl (fun ls (hl : lv_has ls _ ([(2, .int r3), (1, .int r2), (0, .ref (hJ 0))])) => ?_)
  refine lv_aload_n hx hb dX4_linear_16 rfl (lv_at hl 2 rfl) ?_
  refine va_get (D := (dC, dI)) (ci := 4) (v := .ref dF_tree) (C := RX4) (T := TX4) (N := 11) hx hb hts iwsMX4_linear_in4 hown hK hP 0 rfl rfl 3 (by decide) (hts (.fieldLink RX4 11 "OptimaWorks$Reader" "tree" "[I") (by decide +kernel)) (fun _ h9 => h9) rfl dX4_linear_17 ?_
  refine lv_iload_n hx hb dX4_linear_20 rfl (lv_at hl 1 rfl) ?_
  refine lv_iconst (v := 3) hx hb dX4_linear_21 (by decide) ?_
  refine lv_iadd hx hb dX4_linear_22 ?_
  refine lv_topi (fun y4 hy4 => ?_)
  obtain rfl : (iI (r2.toInt + 3)) = y4 := (hy4.trans (iI_add2 (iI_of _) (by decide : (3 : Int32) = iI 3))).symm
  refine lv_iload_n hx hb dX4_linear_23 rfl (lv_at hl 0 rfl) ?_
  refine va_iast (cA := kF 0) (n := nF_tree) (f := fF_tree_3) hx hb hK hP hD hS 13 11 rfl rfl (vp_iI (by omega) (by omega) (by omega)) dX4_linear_24 (fun H locs hP hD hS => ?_)
  obtain ⟨u5, hu5⟩ : ∃ f9, f9 = upd fF_tree_3 ((iI (r2.toInt + 3))).toNatClampNeg r3 := ⟨_, rfl⟩
  have hP : va_P (dC, dI) vwCl (WJ hJ aJ kJ hT hM hL (.ref dF_tree) iJ_used_3 iJ_depth_3 jJ_ownName gJ_binder_3 iJ_binders_3 iJ_firstSet iJ_secondSet ++ (WL hL aL kL hT hM (.ref dF_tree) iL_names gL_key fL_kind fL_one fL_two fL_base iL_params fL_paramOver dL_paramOver nL_params fL_paramUnder dL_paramUnder nL_pu gL_over gL_under fL_bound iL_nameAt iL_startAt iL_steps jL_scaleOver jL_scaleUnder ++ (WF hF aF kF dF_tree nF_tree u5 ++ (WT hT aT kT fT_tape dT_tape nT_tape iT_length iT_fault_3 iT_place_3 iT_kind_3 iT_at_3 iT_number_3 jT_name_3 iT_next_3)))) H := by rw [hu5]; exact hP
  have hD : va_D A (WJ hJ aJ kJ hT hM hL (.ref dF_tree) iJ_used_3 iJ_depth_3 jJ_ownName gJ_binder_3 iJ_binders_3 iJ_firstSet iJ_secondSet ++ (WL hL aL kL hT hM (.ref dF_tree) iL_names gL_key fL_kind fL_one fL_two fL_base iL_params fL_paramOver dL_paramOver nL_params fL_paramUnder dL_paramUnder nL_pu gL_over gL_under fL_bound iL_nameAt iL_startAt iL_steps jL_scaleOver jL_scaleUnder ++ (WF hF aF kF dF_tree nF_tree u5 ++ (WT hT aT kT fT_tape dT_tape nT_tape iT_length iT_fault_3 iT_place_3 iT_kind_3 iT_at_3 iT_number_3 jT_name_3 iT_next_3)))) := by rw [hu5]; exact hD
  have b_u5 : WrL fF_tree_3 u5 (r2.toInt + 3) r3.toInt := by rw [hu5]; exact WrL.ofx rfl (by omega) (by omega)
  clear hu5
  refine lv_iconst (v := 0) hx hb dX4_linear_25 (by decide) ?_
  refine lv_istore_n hx hb dX4_linear_26 rfl hl (by decide) rfl (fun ls (hl : lv_has ls _ ([(3, .int 0), (2, .int r3), (1, .int r2), (0, .ref (hJ 0))])) => ?_)
  have hl : lv_has _ _ ([(3, .int 0), (2, .int r3), (1, .int r2), (0, .ref (hJ 0))]) := lv_sub hl [0, 1, 2, 3] rfl
  refine (fun (loop : ∀ (n9 : Nat) (iJ_used_x27 : Int32) (iJ_depth_x27 : Int32) (gJ_binder_x27 : Nat → Int64) (iJ_binders_x27 : Int32) (fF_tree_x27 : Nat → Int32) (iT_fault_x27 : Int32) (iT_place_x27 : Int32) (iT_kind_x27 : Int32) (iT_at_x27 : Int32) (iT_number_x27 : Int32) (jT_name_x27 : Int64) (iT_next_x27 : Int32) (l3_x27 : Int32) (l2_x27 : Int32) (H : Heap) (locs : List Loc) (ls : Array Slot), (0 ≤ iJ_used_x27.toInt ∧ iJ_used_x27.toInt ≤ 72200) → (0 ≤ iJ_depth_x27.toInt ∧ iJ_depth_x27.toInt ≤ 25) → (0 ≤ iJ_binders_x27.toInt ∧ iJ_binders_x27.toInt ≤ 64) → (0 ≤ iT_at_x27.toInt ∧ iT_at_x27.toInt ≤ 1282) → (0 ≤ iT_number_x27.toInt ∧ iT_number_x27.toInt ≤ 999999) → (0 ≤ iT_next_x27.toInt ∧ iT_next_x27.toInt ≤ 1282) → (0 ≤ l3_x27.toInt ∧ l3_x27.toInt ≤ 4000) → (iT_at.toInt ≤ iT_at_x27.toInt) → (iT_at_x27.toInt ≤ iT_next_x27.toInt) → (iT_next_x27.toInt ≤ iT_length.toInt) → ((iT_kind_x27.toInt = 44 ∨ iT_kind_x27.toInt = 61) → iT_at_x27.toInt < iT_next_x27.toInt) → (iJ_used.toInt + 14 ≤ iJ_used_x27.toInt) → (iJ_used_x27.toInt ≤ ((nF_tree : Nat) : Int)) → (iJ_used_x27.toInt % 7 = 0) → (iJ_depth_x27.toInt = iJ_depth.toInt + 1) → ((UnL fF_tree fF_tree_x27 fL_kind fL_one fL_two iL_names.toInt iJ_used.toInt 1 iJ_used_x27.toInt [(twL fF_tree_x27 (iJ_used.toInt + 3), 2, lv), (l2_x27.toInt, 2, lv)]) ∧ twL fF_tree_x27 (l2_x27.toInt + 6) = 0) → (7 ≤ l2_x27.toInt ∧ l2_x27.toInt + 7 ≤ iJ_used_x27.toInt ∧ l2_x27.toInt % 7 = 0) → (4000 - l3_x27.toInt < ((n9 : Nat) : Int)) → va_P (dC, dI) vwCl (WJ hJ aJ kJ hT hM hL (.ref dF_tree) iJ_used_x27 iJ_depth_x27 jJ_ownName gJ_binder_x27 iJ_binders_x27 iJ_firstSet iJ_secondSet ++ (WL hL aL kL hT hM (.ref dF_tree) iL_names gL_key fL_kind fL_one fL_two fL_base iL_params fL_paramOver dL_paramOver nL_params fL_paramUnder dL_paramUnder nL_pu gL_over gL_under fL_bound iL_nameAt iL_startAt iL_steps jL_scaleOver jL_scaleUnder ++ (WF hF aF kF dF_tree nF_tree fF_tree_x27 ++ (WT hT aT kT fT_tape dT_tape nT_tape iT_length iT_fault_x27 iT_place_x27 iT_kind_x27 iT_at_x27 iT_number_x27 jT_name_x27 iT_next_x27)))) H → va_D A (WJ hJ aJ kJ hT hM hL (.ref dF_tree) iJ_used_x27 iJ_depth_x27 jJ_ownName gJ_binder_x27 iJ_binders_x27 iJ_firstSet iJ_secondSet ++ (WL hL aL kL hT hM (.ref dF_tree) iL_names gL_key fL_kind fL_one fL_two fL_base iL_params fL_paramOver dL_paramOver nL_params fL_paramUnder dL_paramUnder nL_pu gL_over gL_under fL_bound iL_nameAt iL_startAt iL_steps jL_scaleOver jL_scaleUnder ++ (WF hF aF kF dF_tree nF_tree fF_tree_x27 ++ (WT hT aT kT fT_tape dT_tape nT_tape iT_length iT_fault_x27 iT_place_x27 iT_kind_x27 iT_at_x27 iT_number_x27 jT_name_x27 iT_next_x27)))) → va_S A s.heap H locs → lv_has ls 7 [(3, .int l3_x27), (2, .int l2_x27), (1, .int r2), (0, .ref (hJ 0))] → W p l e _ s m _ below meth c H locs 0 0 _ (F0 m 27 ls [])) => loop (4001) iJ_used_3 iJ_depth_3 gJ_binder_3 iJ_binders_3 u5 iT_fault_3 iT_place_3 iT_kind_3 iT_at_3 iT_number_3 jT_name_3 iT_next_3 0 r3 _ _ _ (b_iJ_used_3) (b_iJ_depth_3) (b_iJ_binders_3) (b_iT_at_3) (b_iT_number_3) (b_iT_next_3) (show 0 ≤ (0 : Int32).toInt ∧ (0 : Int32).toInt ≤ 4000 from by decide) (show iT_at.toInt ≤ iT_at_3.toInt from by omega) (show iT_at_3.toInt ≤ iT_next_3.toInt from by first | done | assumption | omega | (rw [iI_t (by omega) (by omega)]; omega)) (show iT_next_3.toInt ≤ iT_length.toInt from by first | done | assumption | omega | (rw [iI_t (by omega) (by omega)]; omega)) (show (iT_kind_3.toInt = 44 ∨ iT_kind_3.toInt = 61) → iT_at_3.toInt < iT_next_3.toInt from by first | done | assumption | omega | (rw [iI_t (by omega) (by omega)]; omega)) (show iJ_used.toInt + 14 ≤ iJ_used_3.toInt from by omega) (show iJ_used_3.toInt ≤ ((nF_tree : Nat) : Int) from by first | done | assumption | omega | (rw [iI_t (by omega) (by omega)]; omega)) (show iJ_used_3.toInt % 7 = 0 from by omega) (show iJ_depth_3.toInt = iJ_depth.toInt + 1 from by omega) (show (UnL fF_tree u5 fL_kind fL_one fL_two iL_names.toInt iJ_used.toInt 1 iJ_used_3.toInt [(twL u5 (iJ_used.toInt + 3), 2, lv), (r3.toInt, 2, lv)]) ∧ twL u5 (r3.toInt + 6) = 0 from UnL.first hNw hu1 hu7 (by omega) hF1 b_u5 (by omega) (by omega)) (show 7 ≤ r3.toInt ∧ r3.toInt + 7 ≤ iJ_used_3.toInt ∧ r3.toInt % 7 = 0 from by omega) ((by have e9 : (0 : Int32).toInt = 0 := (by decide : (0 : Int32).toInt = 0); omega)) hP hD hS hl) ?_
  intro n9
  induction n9 with
  | zero => intro iJ_used_x27 iJ_depth_x27 gJ_binder_x27 iJ_binders_x27 fF_tree_x27 iT_fault_x27 iT_place_x27 iT_kind_x27 iT_at_x27 iT_number_x27 jT_name_x27 iT_next_x27 l3_x27 l2_x27 H locs ls b_iJ_used_x27 b_iJ_depth_x27 b_iJ_binders_x27 b_iT_at_x27 b_iT_number_x27 b_iT_next_x27 b_l3_x27 hq0 hq1 hq2 hq3 hu1x hu2x hu7x hdx hun hlr hf9; exact False.elim (by omega)
  | succ n9 ihx27 =>
    intro iJ_used_x27 iJ_depth_x27 gJ_binder_x27 iJ_binders_x27 fF_tree_x27 iT_fault_x27 iT_place_x27 iT_kind_x27 iT_at_x27 iT_number_x27 jT_name_x27 iT_next_x27 l3_x27 l2_x27 H locs ls b_iJ_used_x27 b_iJ_depth_x27 b_iJ_binders_x27 b_iT_at_x27 b_iT_number_x27 b_iT_next_x27 b_l3_x27 hq0 hq1 hq2 hq3 hu1x hu2x hu7x hdx hun hlr hfx27 hP hD hS hl
    refine lv_iload_n hx hb dX4_linear_27 rfl (lv_at hl 0 rfl) ?_
    refine lv_sipush (v := 4000) hx hb dX4_linear_28 (by decide) ?_
    refine W.cut (pc := 109) (fun H locs ls stk =>  stk = [] ∧ va_P (dC, dI) vwCl (WJ hJ aJ kJ hT hM hL (.ref dF_tree) iJ_used_x27 iJ_depth_x27 jJ_ownName gJ_binder_x27 iJ_binders_x27 iJ_firstSet iJ_secondSet ++ (WL hL aL kL hT hM (.ref dF_tree) iL_names gL_key fL_kind fL_one fL_two fL_base iL_params fL_paramOver dL_paramOver nL_params fL_paramUnder dL_paramUnder nL_pu gL_over gL_under fL_bound iL_nameAt iL_startAt iL_steps jL_scaleOver jL_scaleUnder ++ (WF hF aF kF dF_tree nF_tree fF_tree_x27 ++ (WT hT aT kT fT_tape dT_tape nT_tape iT_length iT_fault_x27 iT_place_x27 iT_kind_x27 iT_at_x27 iT_number_x27 jT_name_x27 iT_next_x27)))) H ∧ va_D A (WJ hJ aJ kJ hT hM hL (.ref dF_tree) iJ_used_x27 iJ_depth_x27 jJ_ownName gJ_binder_x27 iJ_binders_x27 iJ_firstSet iJ_secondSet ++ (WL hL aL kL hT hM (.ref dF_tree) iL_names gL_key fL_kind fL_one fL_two fL_base iL_params fL_paramOver dL_paramOver nL_params fL_paramUnder dL_paramUnder nL_pu gL_over gL_under fL_bound iL_nameAt iL_startAt iL_steps jL_scaleOver jL_scaleUnder ++ (WF hF aF kF dF_tree nF_tree fF_tree_x27 ++ (WT hT aT kT fT_tape dT_tape nT_tape iT_length iT_fault_x27 iT_place_x27 iT_kind_x27 iT_at_x27 iT_number_x27 jT_name_x27 iT_next_x27)))) ∧ va_S A s.heap H locs ∧ lv_has ls 7 [(3, .int l3_x27), (2, .int l2_x27), (1, .int r2), (0, .ref (hJ 0))]) (fun join4 => ?_) ?_
    · refine lv_icmp_ge (tgt := 109) hx hb dX4_linear_31 (by decide) (fun c_31 => ?_) (fun c_31 => ?_)
      · have t_31 : l3_x27.toInt ≥ 4000 := toI_ge c_31 rfl (by decide : (4000 : Int32).toInt = 4000)
        have hl : lv_has _ _ ([(3, .int l3_x27), (2, .int l2_x27), (1, .int r2), (0, .ref (hJ 0))]) := lv_sub hl [0, 1, 2, 3] rfl
        exact join4 _ _ _ _ ⟨rfl, hP, hD, hS, hl⟩
      · have t_31 : ¬ l3_x27.toInt ≥ 4000 := toI_nge c_31 rfl (by decide : (4000 : Int32).toInt = 4000)
        refine lv_aload_n hx hb dX4_linear_34 rfl (lv_at hl 3 rfl) ?_
        refine va_get (D := (dC, dI)) (ci := 4) (v := .ref (hT 0)) (C := RX4) (T := TX4) (N := 11) hx hb hts iwsMX4_linear_in4 hown hK hP 0 rfl rfl 0 (by decide) (hts _ hm_m_X4_linear_0) (fun _ h9 => h9) rfl dX4_linear_35 ?_
        refine va_get (D := (dC, dI)) (ci := 9) (v := .int iT_kind_x27) (C := RX9) (T := TX9) (N := 9) hx hb hts iwsMX4_linear_in9 hown hK hP 14 rfl rfl 4 (by decide) (hts _ hm_m_X4_linear_1) (fun _ h9 => h9) rfl dX4_linear_38 ?_
        refine lv_bipush (v := 43) hx hb dX4_linear_41 (by decide) ?_
        refine lv_icmp_eq (tgt := 58) hx hb dX4_linear_43 (by decide) (fun c_43 => ?_) (fun c_43 => ?_)
        · have t_43 : iT_kind_x27.toInt = 43 := toI_eq c_43 rfl (by decide : (43 : Int32).toInt = 43)
          refine lv_aload_n hx hb dX4_linear_58 rfl (lv_at hl 3 rfl) ?_
          refine va_get (D := (dC, dI)) (ci := 4) (v := .ref (hT 0)) (C := RX4) (T := TX4) (N := 11) hx hb hts iwsMX4_linear_in4 hown hK hP 0 rfl rfl 0 (by decide) (hts _ hm_m_X4_linear_0) (fun _ h9 => h9) rfl dX4_linear_59 ?_
          refine va_get (D := (dC, dI)) (ci := 9) (v := .int iT_kind_x27) (C := RX9) (T := TX9) (N := 9) hx hb hts iwsMX4_linear_in9 hown hK hP 14 rfl rfl 4 (by decide) (hts _ hm_m_X4_linear_1) (fun _ h9 => h9) rfl dX4_linear_62 ?_
          refine lv_istore hx hb dX4_linear_65 hl (by decide) rfl (fun ls (hl : lv_has ls _ ([(4, .int iT_kind_x27), (3, .int l3_x27), (2, .int l2_x27), (1, .int r2), (0, .ref (hJ 0))])) => ?_)
          refine lv_aload_n hx hb dX4_linear_67 rfl (lv_at hl 4 rfl) ?_
          refine va_get (D := (dC, dI)) (ci := 4) (v := .ref (hT 0)) (C := RX4) (T := TX4) (N := 11) hx hb hts iwsMX4_linear_in4 hown hK hP 0 rfl rfl 0 (by decide) (hts _ hm_m_X4_linear_0) (fun _ h9 => h9) rfl dX4_linear_68 ?_
          refine va_get (D := (dC, dI)) (ci := 9) (v := .int iT_at_x27) (C := RX9) (T := TX9) (N := 9) hx hb hts iwsMX4_linear_in9 hown hK hP 14 rfl rfl 5 (by decide) (hts _ hm_m_X4_linear_2) (fun _ h9 => h9) rfl dX4_linear_71 ?_
          refine lv_istore hx hb dX4_linear_74 hl (by decide) rfl (fun ls (hl : lv_has ls _ ([(5, .int iT_at_x27), (4, .int iT_kind_x27), (3, .int l3_x27), (2, .int l2_x27), (1, .int r2), (0, .ref (hJ 0))])) => ?_)
          refine lv_aload_n hx hb dX4_linear_76 rfl (lv_at hl 5 rfl) ?_
          refine va_get (D := (dC, dI)) (ci := 4) (v := .ref (hT 0)) (C := RX4) (T := TX4) (N := 11) hx hb hts iwsMX4_linear_in4 hown hK hP 0 rfl rfl 0 (by decide) (hts _ hm_m_X4_linear_0) (fun _ h9 => h9) rfl dX4_linear_77 ?_
          have p9 := cj_4_3 (WJ hJ aJ kJ hT hM hL (.ref dF_tree) iJ_used_x27 iJ_depth_x27 jJ_ownName gJ_binder_x27 iJ_binders_x27 iJ_firstSet iJ_secondSet) (WL hL aL kL hT hM (.ref dF_tree) iL_names gL_key fL_kind fL_one fL_two fL_base iL_params fL_paramOver dL_paramOver nL_params fL_paramUnder dL_paramUnder nL_pu gL_over gL_under fL_bound iL_nameAt iL_startAt iL_steps jL_scaleOver jL_scaleUnder) (WF hF aF kF dF_tree nF_tree fF_tree_x27) (WT hT aT kT fT_tape dT_tape nT_tape iT_length iT_fault_x27 iT_place_x27 iT_kind_x27 iT_at_x27 iT_number_x27 jT_name_x27 iT_next_x27)
          have hPc := hP.mem (fun q h => p9.mem_iff.mpr (List.mem_append_left _ h))
          have hDc := (hD.perm p9).left
          have hKc : va_K (dC, dI) vwCl (tT kT) _ := hK.sub [12] rfl
          have hFc := freeG p9 hD hS hA
          refine va_callv (va_runV (As := []) (rest := []) ⟨hx, hb, hml, hown, hts⟩ (m_X9_advance l hst dC dI hT aT kT fT_tape dT_tape nT_tape iT_length iT_fault_x27 iT_place_x27 iT_kind_x27 iT_at_x27 iT_number_x27 jT_name_x27 iT_next_x27 b_fT_tape (by first | exact b_nT_tape | with_reducible assumption | exact ⟨by omega, by omega⟩ | assumption) (b_iT_length) (b_iT_at_x27) (b_iT_number_x27) (b_iT_next_x27) (by first | with_reducible assumption | omega | assumption) (by first | with_reducible assumption | omega | (rw [iI_t (by omega) (by omega)]; omega) | decide | assumption) H.size) (cwV 0 hts gwsMX4_linear_3 rfl rfl rfl (by decide +kernel) ⟨by first | decide +kernel | (dsimp only [headSpec] <;> omega), by first | decide +kernel | (dsimp only [headSpec] <;> omega)⟩) (fz_preE (va_recv hK hP (ci := 9) (q0 := 14) rfl rfl) hPc hKc hDc (fun a U g mk qE => qE.call) (fun U hU9 hW => by rw [hU9]; exact (((hE : CE A s s.heap).kept hS.2.1).narrow (fun q h => hFc q h)).warm hW)) rfl rfl hl.1 rfl (lv_room (Nat.le_of_ble_eq_true rfl)) dX4_linear_80 ⟨by first | decide +kernel | (dsimp only [headSpec] <;> omega), by first | decide +kernel | (dsimp only [headSpec] <;> omega)⟩) hS (fun q _ h => hFc q h) hFc (fun u t9_ H locs ht hvm hw9 hB9 hz1 hk1 hS => ?_)
          revert u hw9 hB9
          refine fz_p5 ?_
          intro iT_kind_41 iT_at_41 iT_number_41 jT_name_41 iT_next_41 hw9 hB9
          try dsimp only at hw9 hB9
          revert hw9
          refine fz_a7 ?_
          intro b_iT_at_41 b_iT_number_41 b_iT_next_41 f41_0 f41_1 f41_2 f41_3
          have p8 := cj_4_3 (WJ hJ aJ kJ hT hM hL (.ref dF_tree) iJ_used_x27 iJ_depth_x27 jJ_ownName gJ_binder_x27 iJ_binders_x27 iJ_firstSet iJ_secondSet) (WL hL aL kL hT hM (.ref dF_tree) iL_names gL_key fL_kind fL_one fL_two fL_base iL_params fL_paramOver dL_paramOver nL_params fL_paramUnder dL_paramUnder nL_pu gL_over gL_under fL_bound iL_nameAt iL_startAt iL_steps jL_scaleOver jL_scaleUnder) (WF hF aF kF dF_tree nF_tree fF_tree_x27) (WT hT aT kT fT_tape dT_tape nT_tape iT_length iT_fault_x27 iT_place_x27 iT_kind_41 iT_at_41 iT_number_41 jT_name_41 iT_next_41)
          obtain ⟨hP, hD⟩ := frameG p9 p8 hP hD hk1 hFc (fz_P ht hB9.1) hB9.2
          refine lv_aload_n hx hb dX4_linear_83 rfl (lv_at hl 5 rfl) ?_
          refine W.known (fun hz0 _ => ?_)
          have hFc := allFree hD hS hA
          refine vx_calli (vx_runV (As := []) (rest := []) ⟨hx, hb, hml, hown, hts⟩ (ih_X4_term dC dI hJ aJ kJ hT hM hL iJ_used_x27 iJ_depth_x27 jJ_ownName gJ_binder_x27 iJ_binders_x27 iJ_firstSet iJ_secondSet aL kL iL_names gL_key fL_kind fL_one fL_two fL_base iL_params fL_paramOver dL_paramOver nL_params fL_paramUnder dL_paramUnder nL_pu gL_over gL_under fL_bound iL_nameAt iL_startAt iL_steps jL_scaleOver jL_scaleUnder hF aF kF dF_tree nF_tree fF_tree_x27 aT kT fT_tape dT_tape nT_tape iT_length iT_fault_x27 iT_place_x27 iT_kind_41 iT_at_41 iT_number_41 jT_name_41 iT_next_41 lv (b_iJ_used_x27) (b_iJ_depth_x27) (b_iJ_binders_x27) (b_iJ_firstSet) (b_iJ_secondSet) (b_iL_names) b_fL_kind b_fL_two b_fL_base (b_iL_params) (by first | exact b_nL_params | with_reducible assumption | exact ⟨by omega, by omega⟩ | assumption) (by first | with_reducible assumption | omega | (rw [iI_t (by omega) (by omega)]; omega) | assumption) (by first | with_reducible assumption | omega | (rw [iI_t (by omega) (by omega)]; omega) | assumption) (by first | with_reducible assumption | omega | (rw [iI_t (by omega) (by omega)]; omega) | assumption) (by first | exact b_nF_tree | with_reducible assumption | exact ⟨by omega, by omega⟩ | assumption) b_fT_tape (by first | exact b_nT_tape | with_reducible assumption | exact ⟨by omega, by omega⟩ | assumption) (b_iT_length) (b_iT_at_41) (b_iT_number_41) (b_iT_next_41) (by first | with_reducible assumption | omega | assumption) (by first | with_reducible assumption | omega | (rw [iI_t (by omega) (by omega)]; omega) | decide | assumption) (by first | with_reducible assumption | omega | (rw [iI_t (by omega) (by omega)]; omega) | decide | assumption) (by first | with_reducible assumption | omega | (rw [iI_t (by omega) (by omega)]; omega) | decide | assumption) (by first | with_reducible assumption | omega | (rw [iI_t (by omega) (by omega)]; omega) | decide | assumption) (by first | with_reducible assumption | omega | (rw [iI_t (by omega) (by omega)]; omega) | decide | assumption) (by first | with_reducible assumption | omega | (rw [iI_t (by omega) (by omega)]; omega) | decide | assumption) (by first | with_reducible assumption | omega | (rw [iI_t (by omega) (by omega)]; omega) | decide | assumption) (by first | with_reducible assumption | omega | (rw [iI_t (by omega) (by omega)]; omega) | decide | assumption) H.size) (cwV 0 hts gwsMX4_linear_2 rfl rfl rfl (by decide +kernel) ⟨by first | decide +kernel | (dsimp only [headSpec] <;> omega), by first | decide +kernel | (dsimp only [headSpec] <;> omega)⟩) (fz_preE (va_recv hK hP (ci := 4) (q0 := 0) rfl rfl) hP hK hD (fun a U g mk qE => qE.call) (fun U hU9 hW => by rw [hU9]; exact (((hE : CE A s s.heap).kept hS.2.1).narrow (fun q h => hFc q h)).warm hW)) rfl rfl hl.1 rfl (lv_room (Nat.le_of_ble_eq_true rfl)) dX4_linear_84 ⟨by first | decide +kernel | (dsimp only [headSpec] <;> omega), by first | decide +kernel | (dsimp only [headSpec] <;> omega)⟩) hS (fun q _ h => hFc q h) hFc (fun q _ h => hFc q h) (fun E ce q9 u t9_ H locs ht hvm hw9 hB9 hz1 hk1 hS hc1 hc2 hc3 => ?_) (fun r42 u t9_ H locs ht hvm hw9 hB9 hz1 hk1 hS => ?_)
          · revert u hw9 hB9
            refine fz_p12 ?_
            intro iJ_used_42 iJ_depth_42 gJ_binder_42 iJ_binders_42 fF_tree_42 iT_fault_42 iT_place_42 iT_kind_42 iT_at_42 iT_number_42 jT_name_42 iT_next_42 hw9 hB9
            try dsimp only at hw9 hB9
            revert hB9
            refine fz_a2 ?_
            intro hEx hB9
            revert hw9
            refine fz_a6 ?_
            intro b_iJ_used_42 b_iJ_depth_42 b_iJ_binders_42 b_iT_at_42 b_iT_number_42 b_iT_next_42
            have hP : va_P (dC, dI) vwCl (WJ hJ aJ kJ hT hM hL (.ref dF_tree) iJ_used_42 iJ_depth_42 jJ_ownName gJ_binder_42 iJ_binders_42 iJ_firstSet iJ_secondSet ++ (WL hL aL kL hT hM (.ref dF_tree) iL_names gL_key fL_kind fL_one fL_two fL_base iL_params fL_paramOver dL_paramOver nL_params fL_paramUnder dL_paramUnder nL_pu gL_over gL_under fL_bound iL_nameAt iL_startAt iL_steps jL_scaleOver jL_scaleUnder ++ (WF hF aF kF dF_tree nF_tree fF_tree_42 ++ (WT hT aT kT fT_tape dT_tape nT_tape iT_length iT_fault_42 iT_place_42 iT_kind_42 iT_at_42 iT_number_42 jT_name_42 iT_next_42)))) H := fz_P ht hB9.1
            have hD := fz_sd hP (hB9.2.weaken (fun _ q _ h => hFc q.1 h)) rfl
            exact vx_out (fun x hx9 => (htab x hx9).elim) hlocks hc1 hc2 hc3 (fun t9_ ht hvm => ⟨(iJ_used_42, iJ_depth_42, gJ_binder_42, iJ_binders_42, fF_tree_42, iT_fault_42, iT_place_42, iT_kind_42, iT_at_42, iT_number_42, jT_name_42, iT_next_42), ⟨(b_iJ_used_42), (b_iJ_depth_42), (b_iJ_binders_42), (b_iT_at_42), (b_iT_number_42), (b_iT_next_42)⟩, ⟨(by have h9 := hEx; exact h9), by rw [ht]; exact hP, hD⟩, hS.F ht⟩) hS.2.2 (by decide +kernel) (by decide +kernel)
          revert u hw9 hB9
          refine fz_p12 ?_
          intro iJ_used_42 iJ_depth_42 gJ_binder_42 iJ_binders_42 fF_tree_42 iT_fault_42 iT_place_42 iT_kind_42 iT_at_42 iT_number_42 jT_name_42 iT_next_42 hw9 hB9
          try dsimp only at hw9 hB9
          revert hw9
          refine fz_a16 ?_
          intro b_iJ_used_42 b_iJ_depth_42 b_iJ_binders_42 b_iT_at_42 b_iT_number_42 b_iT_next_42 f42_0 f42_1 f42_2 f42_3 f42_4 f42_5 f42_6 f42_7 f42_8 f42_9
          have hz8 := hB9.2.2
          rw [ht] at hz8
          have hz9 : H.size ≤ s.heap.size + 0 := by rw [hz8]; exact hz0
          refine W.tight (cells2 := 0) (slots2 := 0) hz9 (nS_0 hz9) ?_
          clear hz8 hz9
          have hP : va_P (dC, dI) vwCl (WJ hJ aJ kJ hT hM hL (.ref dF_tree) iJ_used_42 iJ_depth_42 jJ_ownName gJ_binder_42 iJ_binders_42 iJ_firstSet iJ_secondSet ++ (WL hL aL kL hT hM (.ref dF_tree) iL_names gL_key fL_kind fL_one fL_two fL_base iL_params fL_paramOver dL_paramOver nL_params fL_paramUnder dL_paramUnder nL_pu gL_over gL_under fL_bound iL_nameAt iL_startAt iL_steps jL_scaleOver jL_scaleUnder ++ (WF hF aF kF dF_tree nF_tree fF_tree_42 ++ (WT hT aT kT fT_tape dT_tape nT_tape iT_length iT_fault_42 iT_place_42 iT_kind_42 iT_at_42 iT_number_42 jT_name_42 iT_next_42)))) H := fz_P ht hB9.1
          have hD := fz_sd hP (hB9.2.1.weaken (fun _ q _ h => hFc q.1 h)) rfl
          have hF2 := f42_1
          refine lv_istore hx hb dX4_linear_87 hl (by decide) rfl (fun ls (hl : lv_has ls _ ([(6, .int r42), (5, .int iT_at_x27), (4, .int iT_kind_x27), (3, .int l3_x27), (2, .int l2_x27), (1, .int r2), (0, .ref (hJ 0))])) => ?_)
          refine lv_aload_n hx hb dX4_linear_89 rfl (lv_at hl 6 rfl) ?_
          refine lv_iload_n hx hb dX4_linear_90 rfl (lv_at hl 4 rfl) ?_
          refine lv_iload hx hb dX4_linear_91 (lv_at hl 0 rfl) ?_
          refine lv_iload hx hb dX4_linear_93 (lv_at hl 2 rfl) ?_
          refine lv_iload hx hb dX4_linear_95 (lv_at hl 1 rfl) ?_
          have p9 := cj_4_0_2 (WJ hJ aJ kJ hT hM hL (.ref dF_tree) iJ_used_42 iJ_depth_42 jJ_ownName gJ_binder_42 iJ_binders_42 iJ_firstSet iJ_secondSet) (WL hL aL kL hT hM (.ref dF_tree) iL_names gL_key fL_kind fL_one fL_two fL_base iL_params fL_paramOver dL_paramOver nL_params fL_paramUnder dL_paramUnder nL_pu gL_over gL_under fL_bound iL_nameAt iL_startAt iL_steps jL_scaleOver jL_scaleUnder) (WF hF aF kF dF_tree nF_tree fF_tree_42) (WT hT aT kT fT_tape dT_tape nT_tape iT_length iT_fault_42 iT_place_42 iT_kind_42 iT_at_42 iT_number_42 jT_name_42 iT_next_42)
          have hPc := hP.mem (fun q h => p9.mem_iff.mpr (List.mem_append_left _ h))
          have hDc := (hD.perm p9).left
          have hKc : va_K (dC, dI) vwCl (tJ kJ ++ (tF kF)) _ := hK.sub [0, 11] rfl
          have hFc := freeG p9 hD hS hA
          refine va_callv (va_runV (As := [.int l2_x27, .int r42, .int iT_kind_x27, .int iT_at_x27]) (rest := []) ⟨hx, hb, hml, hown, hts⟩ (m_X4_link l dC dI hJ aJ kJ hT hM hL iJ_used_42 iJ_depth_42 jJ_ownName gJ_binder_42 iJ_binders_42 iJ_firstSet iJ_secondSet hF aF kF dF_tree nF_tree fF_tree_42 l2_x27 r42 iT_kind_x27 iT_at_x27 (b_iJ_used_42) (b_iJ_depth_42) (b_iJ_binders_42) (b_iJ_firstSet) (b_iJ_secondSet) (by first | exact b_nF_tree | with_reducible assumption | exact ⟨by omega, by omega⟩ | assumption) (by first | with_reducible assumption | omega | (rw [iI_t (by omega) (by omega)]; omega) | decide | assumption) (by first | with_reducible assumption | omega | (rw [iI_t (by omega) (by omega)]; omega) | decide | assumption) H.size) (cwV 4 hts gwsMX4_linear_4 rfl rfl rfl (by decide +kernel) ⟨by first | decide +kernel | (dsimp only [headSpec] <;> omega), by first | decide +kernel | (dsimp only [headSpec] <;> omega)⟩) (fz_pre (va_recv hK hP (ci := 4) (q0 := 0) rfl rfl) hPc hKc hDc) rfl rfl hl.1 rfl (lv_room (Nat.le_of_ble_eq_true rfl)) dX4_linear_97 ⟨by first | decide +kernel | (dsimp only [headSpec] <;> omega), by first | decide +kernel | (dsimp only [headSpec] <;> omega)⟩) hS (fun q _ h => hFc q h) hFc (fun fF_tree_43 t9_ H locs ht hvm hw9 hB9 hz1 hk1 hS => ?_)
          have f43_0 := hw9
          try dsimp only at f43_0
          have p8 := cj_4_0_2 (WJ hJ aJ kJ hT hM hL (.ref dF_tree) iJ_used_42 iJ_depth_42 jJ_ownName gJ_binder_42 iJ_binders_42 iJ_firstSet iJ_secondSet) (WL hL aL kL hT hM (.ref dF_tree) iL_names gL_key fL_kind fL_one fL_two fL_base iL_params fL_paramOver dL_paramOver nL_params fL_paramUnder dL_paramUnder nL_pu gL_over gL_under fL_bound iL_nameAt iL_startAt iL_steps jL_scaleOver jL_scaleUnder) (WF hF aF kF dF_tree nF_tree fF_tree_43) (WT hT aT kT fT_tape dT_tape nT_tape iT_length iT_fault_42 iT_place_42 iT_kind_42 iT_at_42 iT_number_42 jT_name_42 iT_next_42)
          obtain ⟨hP, hD⟩ := frameG p9 p8 hP hD hk1 hFc (fz_P ht hB9.1) hB9.2
          have hLk := f43_0
          refine lv_iload hx hb dX4_linear_100 (lv_at hl 0 rfl) ?_
          refine lv_istore_n hx hb dX4_linear_102 rfl hl (by decide) rfl (fun ls (hl : lv_has ls _ ([(2, .int r42), (6, .int r42), (5, .int iT_at_x27), (4, .int iT_kind_x27), (3, .int l3_x27), (1, .int r2), (0, .ref (hJ 0))])) => ?_)
          refine lv_iinc (v := (iI (l3_x27.toInt + 1))) hx hb dX4_linear_103 hl (k := 4) rfl (iI_add2 (iI_of _) (by decide : (1 : Int32) = iI 1)) (by decide) rfl (fun ls (hl : lv_has ls _ ([(3, .int (iI (l3_x27.toInt + 1))), (2, .int r42), (6, .int r42), (5, .int iT_at_x27), (4, .int iT_kind_x27), (1, .int r2), (0, .ref (hJ 0))])) => ?_)
          refine lv_goto (tgt := 27) hx hb dX4_linear_106 (by decide) ?_
          have hl : lv_has _ _ ([(3, .int (iI (l3_x27.toInt + 1))), (2, .int r42), (1, .int r2), (0, .ref (hJ 0))]) := lv_sub hl [0, 1, 5, 6] rfl
          exact ihx27 iJ_used_42 iJ_depth_42 gJ_binder_42 iJ_binders_42 fF_tree_43 iT_fault_42 iT_place_42 iT_kind_42 iT_at_42 iT_number_42 jT_name_42 iT_next_42 (iI (l3_x27.toInt + 1)) r42 _ _ _ (b_iJ_used_42) (b_iJ_depth_42) (b_iJ_binders_42) (b_iT_at_42) (b_iT_number_42) (b_iT_next_42) (iI_rng (Int.le_trans (by decide) (Int.add_le_add (b_l3_x27.1) (Int.le_refl _))) (by omega) (by decide) (by decide)) (show iT_at.toInt ≤ iT_at_42.toInt from by omega) (show iT_at_42.toInt ≤ iT_next_42.toInt from by first | done | assumption | omega | (rw [iI_t (by omega) (by omega)]; omega)) (show iT_next_42.toInt ≤ iT_length.toInt from by first | done | assumption | omega | (rw [iI_t (by omega) (by omega)]; omega)) (show (iT_kind_42.toInt = 44 ∨ iT_kind_42.toInt = 61) → iT_at_42.toInt < iT_next_42.toInt from by first | done | assumption | omega | (rw [iI_t (by omega) (by omega)]; omega)) (show iJ_used.toInt + 14 ≤ iJ_used_42.toInt from by omega) (show iJ_used_42.toInt ≤ ((nF_tree : Nat) : Int) from by first | done | assumption | omega | (rw [iI_t (by omega) (by omega)]; omega)) (show iJ_used_42.toInt % 7 = 0 from by omega) (show iJ_depth_42.toInt = iJ_depth.toInt + 1 from by omega) (show (UnL fF_tree fF_tree_43 fL_kind fL_one fL_two iL_names.toInt iJ_used.toInt 1 iJ_used_42.toInt [(twL fF_tree_43 (iJ_used.toInt + 3), 2, lv), (r42.toInt, 2, lv)]) ∧ twL fF_tree_43 (r42.toInt + 6) = 0 from UnL.step hun.1 hF2 (hLk) (by omega)) (show 7 ≤ r42.toInt ∧ r42.toInt + 7 ≤ iJ_used_42.toInt ∧ r42.toInt % 7 = 0 from by omega) (by have e9 : ((iI (l3_x27.toInt + 1))).toInt = (l3_x27.toInt + 1) := (iI_t (Int.le_trans (by decide) (Int.add_le_add (b_l3_x27.1) (Int.le_refl _))) (Int.le_trans (Int.add_le_add (b_l3_x27.2) (Int.le_refl _)) (by decide))); omega) hP hD hS hl
        · have t_43 : ¬ iT_kind_x27.toInt = 43 := toI_neq c_43 rfl (by decide : (43 : Int32).toInt = 43)
          refine lv_aload_n hx hb dX4_linear_46 rfl (lv_at hl 3 rfl) ?_
          refine va_get (D := (dC, dI)) (ci := 4) (v := .ref (hT 0)) (C := RX4) (T := TX4) (N := 11) hx hb hts iwsMX4_linear_in4 hown hK hP 0 rfl rfl 0 (by decide) (hts _ hm_m_X4_linear_0) (fun _ h9 => h9) rfl dX4_linear_47 ?_
          refine va_get (D := (dC, dI)) (ci := 9) (v := .int iT_kind_x27) (C := RX9) (T := TX9) (N := 9) hx hb hts iwsMX4_linear_in9 hown hK hP 14 rfl rfl 4 (by decide) (hts _ hm_m_X4_linear_1) (fun _ h9 => h9) rfl dX4_linear_50 ?_
          refine lv_bipush (v := 45) hx hb dX4_linear_53 (by decide) ?_
          refine lv_icmp_ne (tgt := 109) hx hb dX4_linear_55 (by decide) (fun c_55 => ?_) (fun c_55 => ?_)
          · have t_55 : iT_kind_x27.toInt ≠ 45 := toI_ne c_55 rfl (by decide : (45 : Int32).toInt = 45)
            have hl : lv_has _ _ ([(3, .int l3_x27), (2, .int l2_x27), (1, .int r2), (0, .ref (hJ 0))]) := lv_sub hl [0, 1, 2, 3] rfl
            exact join4 _ _ _ _ ⟨rfl, hP, hD, hS, hl⟩
          · have t_55 : iT_kind_x27.toInt = 45 := toI_nne c_55 rfl (by decide : (45 : Int32).toInt = 45)
            refine lv_aload_n hx hb dX4_linear_58 rfl (lv_at hl 3 rfl) ?_
            refine va_get (D := (dC, dI)) (ci := 4) (v := .ref (hT 0)) (C := RX4) (T := TX4) (N := 11) hx hb hts iwsMX4_linear_in4 hown hK hP 0 rfl rfl 0 (by decide) (hts _ hm_m_X4_linear_0) (fun _ h9 => h9) rfl dX4_linear_59 ?_
            refine va_get (D := (dC, dI)) (ci := 9) (v := .int iT_kind_x27) (C := RX9) (T := TX9) (N := 9) hx hb hts iwsMX4_linear_in9 hown hK hP 14 rfl rfl 4 (by decide) (hts _ hm_m_X4_linear_1) (fun _ h9 => h9) rfl dX4_linear_62 ?_
            refine lv_istore hx hb dX4_linear_65 hl (by decide) rfl (fun ls (hl : lv_has ls _ ([(4, .int iT_kind_x27), (3, .int l3_x27), (2, .int l2_x27), (1, .int r2), (0, .ref (hJ 0))])) => ?_)
            refine lv_aload_n hx hb dX4_linear_67 rfl (lv_at hl 4 rfl) ?_
            refine va_get (D := (dC, dI)) (ci := 4) (v := .ref (hT 0)) (C := RX4) (T := TX4) (N := 11) hx hb hts iwsMX4_linear_in4 hown hK hP 0 rfl rfl 0 (by decide) (hts _ hm_m_X4_linear_0) (fun _ h9 => h9) rfl dX4_linear_68 ?_
            refine va_get (D := (dC, dI)) (ci := 9) (v := .int iT_at_x27) (C := RX9) (T := TX9) (N := 9) hx hb hts iwsMX4_linear_in9 hown hK hP 14 rfl rfl 5 (by decide) (hts _ hm_m_X4_linear_2) (fun _ h9 => h9) rfl dX4_linear_71 ?_
            refine lv_istore hx hb dX4_linear_74 hl (by decide) rfl (fun ls (hl : lv_has ls _ ([(5, .int iT_at_x27), (4, .int iT_kind_x27), (3, .int l3_x27), (2, .int l2_x27), (1, .int r2), (0, .ref (hJ 0))])) => ?_)
            refine lv_aload_n hx hb dX4_linear_76 rfl (lv_at hl 5 rfl) ?_
            refine va_get (D := (dC, dI)) (ci := 4) (v := .ref (hT 0)) (C := RX4) (T := TX4) (N := 11) hx hb hts iwsMX4_linear_in4 hown hK hP 0 rfl rfl 0 (by decide) (hts _ hm_m_X4_linear_0) (fun _ h9 => h9) rfl dX4_linear_77 ?_
            have p9 := cj_4_3 (WJ hJ aJ kJ hT hM hL (.ref dF_tree) iJ_used_x27 iJ_depth_x27 jJ_ownName gJ_binder_x27 iJ_binders_x27 iJ_firstSet iJ_secondSet) (WL hL aL kL hT hM (.ref dF_tree) iL_names gL_key fL_kind fL_one fL_two fL_base iL_params fL_paramOver dL_paramOver nL_params fL_paramUnder dL_paramUnder nL_pu gL_over gL_under fL_bound iL_nameAt iL_startAt iL_steps jL_scaleOver jL_scaleUnder) (WF hF aF kF dF_tree nF_tree fF_tree_x27) (WT hT aT kT fT_tape dT_tape nT_tape iT_length iT_fault_x27 iT_place_x27 iT_kind_x27 iT_at_x27 iT_number_x27 jT_name_x27 iT_next_x27)
            have hPc := hP.mem (fun q h => p9.mem_iff.mpr (List.mem_append_left _ h))
            have hDc := (hD.perm p9).left
            have hKc : va_K (dC, dI) vwCl (tT kT) _ := hK.sub [12] rfl
            have hFc := freeG p9 hD hS hA
            refine va_callv (va_runV (As := []) (rest := []) ⟨hx, hb, hml, hown, hts⟩ (m_X9_advance l hst dC dI hT aT kT fT_tape dT_tape nT_tape iT_length iT_fault_x27 iT_place_x27 iT_kind_x27 iT_at_x27 iT_number_x27 jT_name_x27 iT_next_x27 b_fT_tape (by first | exact b_nT_tape | with_reducible assumption | exact ⟨by omega, by omega⟩ | assumption) (b_iT_length) (b_iT_at_x27) (b_iT_number_x27) (b_iT_next_x27) (by first | with_reducible assumption | omega | assumption) (by first | with_reducible assumption | omega | (rw [iI_t (by omega) (by omega)]; omega) | decide | assumption) H.size) (cwV 0 hts gwsMX4_linear_3 rfl rfl rfl (by decide +kernel) ⟨by first | decide +kernel | (dsimp only [headSpec] <;> omega), by first | decide +kernel | (dsimp only [headSpec] <;> omega)⟩) (fz_preE (va_recv hK hP (ci := 9) (q0 := 14) rfl rfl) hPc hKc hDc (fun a U g mk qE => qE.call) (fun U hU9 hW => by rw [hU9]; exact (((hE : CE A s s.heap).kept hS.2.1).narrow (fun q h => hFc q h)).warm hW)) rfl rfl hl.1 rfl (lv_room (Nat.le_of_ble_eq_true rfl)) dX4_linear_80 ⟨by first | decide +kernel | (dsimp only [headSpec] <;> omega), by first | decide +kernel | (dsimp only [headSpec] <;> omega)⟩) hS (fun q _ h => hFc q h) hFc (fun u t9_ H locs ht hvm hw9 hB9 hz1 hk1 hS => ?_)
            revert u hw9 hB9
            refine fz_p5 ?_
            intro iT_kind_44 iT_at_44 iT_number_44 jT_name_44 iT_next_44 hw9 hB9
            try dsimp only at hw9 hB9
            revert hw9
            refine fz_a7 ?_
            intro b_iT_at_44 b_iT_number_44 b_iT_next_44 f44_0 f44_1 f44_2 f44_3
            have p8 := cj_4_3 (WJ hJ aJ kJ hT hM hL (.ref dF_tree) iJ_used_x27 iJ_depth_x27 jJ_ownName gJ_binder_x27 iJ_binders_x27 iJ_firstSet iJ_secondSet) (WL hL aL kL hT hM (.ref dF_tree) iL_names gL_key fL_kind fL_one fL_two fL_base iL_params fL_paramOver dL_paramOver nL_params fL_paramUnder dL_paramUnder nL_pu gL_over gL_under fL_bound iL_nameAt iL_startAt iL_steps jL_scaleOver jL_scaleUnder) (WF hF aF kF dF_tree nF_tree fF_tree_x27) (WT hT aT kT fT_tape dT_tape nT_tape iT_length iT_fault_x27 iT_place_x27 iT_kind_44 iT_at_44 iT_number_44 jT_name_44 iT_next_44)
            obtain ⟨hP, hD⟩ := frameG p9 p8 hP hD hk1 hFc (fz_P ht hB9.1) hB9.2
            refine lv_aload_n hx hb dX4_linear_83 rfl (lv_at hl 5 rfl) ?_
            refine W.known (fun hz0 _ => ?_)
            have hFc := allFree hD hS hA
            refine vx_calli (vx_runV (As := []) (rest := []) ⟨hx, hb, hml, hown, hts⟩ (ih_X4_term dC dI hJ aJ kJ hT hM hL iJ_used_x27 iJ_depth_x27 jJ_ownName gJ_binder_x27 iJ_binders_x27 iJ_firstSet iJ_secondSet aL kL iL_names gL_key fL_kind fL_one fL_two fL_base iL_params fL_paramOver dL_paramOver nL_params fL_paramUnder dL_paramUnder nL_pu gL_over gL_under fL_bound iL_nameAt iL_startAt iL_steps jL_scaleOver jL_scaleUnder hF aF kF dF_tree nF_tree fF_tree_x27 aT kT fT_tape dT_tape nT_tape iT_length iT_fault_x27 iT_place_x27 iT_kind_44 iT_at_44 iT_number_44 jT_name_44 iT_next_44 lv (b_iJ_used_x27) (b_iJ_depth_x27) (b_iJ_binders_x27) (b_iJ_firstSet) (b_iJ_secondSet) (b_iL_names) b_fL_kind b_fL_two b_fL_base (b_iL_params) (by first | exact b_nL_params | with_reducible assumption | exact ⟨by omega, by omega⟩ | assumption) (by first | with_reducible assumption | omega | (rw [iI_t (by omega) (by omega)]; omega) | assumption) (by first | with_reducible assumption | omega | (rw [iI_t (by omega) (by omega)]; omega) | assumption) (by first | with_reducible assumption | omega | (rw [iI_t (by omega) (by omega)]; omega) | assumption) (by first | exact b_nF_tree | with_reducible assumption | exact ⟨by omega, by omega⟩ | assumption) b_fT_tape (by first | exact b_nT_tape | with_reducible assumption | exact ⟨by omega, by omega⟩ | assumption) (b_iT_length) (b_iT_at_44) (b_iT_number_44) (b_iT_next_44) (by first | with_reducible assumption | omega | assumption) (by first | with_reducible assumption | omega | (rw [iI_t (by omega) (by omega)]; omega) | decide | assumption) (by first | with_reducible assumption | omega | (rw [iI_t (by omega) (by omega)]; omega) | decide | assumption) (by first | with_reducible assumption | omega | (rw [iI_t (by omega) (by omega)]; omega) | decide | assumption) (by first | with_reducible assumption | omega | (rw [iI_t (by omega) (by omega)]; omega) | decide | assumption) (by first | with_reducible assumption | omega | (rw [iI_t (by omega) (by omega)]; omega) | decide | assumption) (by first | with_reducible assumption | omega | (rw [iI_t (by omega) (by omega)]; omega) | decide | assumption) (by first | with_reducible assumption | omega | (rw [iI_t (by omega) (by omega)]; omega) | decide | assumption) (by first | with_reducible assumption | omega | (rw [iI_t (by omega) (by omega)]; omega) | decide | assumption) H.size) (cwV 0 hts gwsMX4_linear_2 rfl rfl rfl (by decide +kernel) ⟨by first | decide +kernel | (dsimp only [headSpec] <;> omega), by first | decide +kernel | (dsimp only [headSpec] <;> omega)⟩) (fz_preE (va_recv hK hP (ci := 4) (q0 := 0) rfl rfl) hP hK hD (fun a U g mk qE => qE.call) (fun U hU9 hW => by rw [hU9]; exact (((hE : CE A s s.heap).kept hS.2.1).narrow (fun q h => hFc q h)).warm hW)) rfl rfl hl.1 rfl (lv_room (Nat.le_of_ble_eq_true rfl)) dX4_linear_84 ⟨by first | decide +kernel | (dsimp only [headSpec] <;> omega), by first | decide +kernel | (dsimp only [headSpec] <;> omega)⟩) hS (fun q _ h => hFc q h) hFc (fun q _ h => hFc q h) (fun E ce q9 u t9_ H locs ht hvm hw9 hB9 hz1 hk1 hS hc1 hc2 hc3 => ?_) (fun r45 u t9_ H locs ht hvm hw9 hB9 hz1 hk1 hS => ?_)
            · revert u hw9 hB9
              refine fz_p12 ?_
              intro iJ_used_45 iJ_depth_45 gJ_binder_45 iJ_binders_45 fF_tree_45 iT_fault_45 iT_place_45 iT_kind_45 iT_at_45 iT_number_45 jT_name_45 iT_next_45 hw9 hB9
              try dsimp only at hw9 hB9
              revert hB9
              refine fz_a2 ?_
              intro hEx hB9
              revert hw9
              refine fz_a6 ?_
              intro b_iJ_used_45 b_iJ_depth_45 b_iJ_binders_45 b_iT_at_45 b_iT_number_45 b_iT_next_45
              have hP : va_P (dC, dI) vwCl (WJ hJ aJ kJ hT hM hL (.ref dF_tree) iJ_used_45 iJ_depth_45 jJ_ownName gJ_binder_45 iJ_binders_45 iJ_firstSet iJ_secondSet ++ (WL hL aL kL hT hM (.ref dF_tree) iL_names gL_key fL_kind fL_one fL_two fL_base iL_params fL_paramOver dL_paramOver nL_params fL_paramUnder dL_paramUnder nL_pu gL_over gL_under fL_bound iL_nameAt iL_startAt iL_steps jL_scaleOver jL_scaleUnder ++ (WF hF aF kF dF_tree nF_tree fF_tree_45 ++ (WT hT aT kT fT_tape dT_tape nT_tape iT_length iT_fault_45 iT_place_45 iT_kind_45 iT_at_45 iT_number_45 jT_name_45 iT_next_45)))) H := fz_P ht hB9.1
              have hD := fz_sd hP (hB9.2.weaken (fun _ q _ h => hFc q.1 h)) rfl
              exact vx_out (fun x hx9 => (htab x hx9).elim) hlocks hc1 hc2 hc3 (fun t9_ ht hvm => ⟨(iJ_used_45, iJ_depth_45, gJ_binder_45, iJ_binders_45, fF_tree_45, iT_fault_45, iT_place_45, iT_kind_45, iT_at_45, iT_number_45, jT_name_45, iT_next_45), ⟨(b_iJ_used_45), (b_iJ_depth_45), (b_iJ_binders_45), (b_iT_at_45), (b_iT_number_45), (b_iT_next_45)⟩, ⟨(by have h9 := hEx; exact h9), by rw [ht]; exact hP, hD⟩, hS.F ht⟩) hS.2.2 (by decide +kernel) (by decide +kernel)
            revert u hw9 hB9
            refine fz_p12 ?_
            intro iJ_used_45 iJ_depth_45 gJ_binder_45 iJ_binders_45 fF_tree_45 iT_fault_45 iT_place_45 iT_kind_45 iT_at_45 iT_number_45 jT_name_45 iT_next_45 hw9 hB9
            try dsimp only at hw9 hB9
            revert hw9
            refine fz_a16 ?_
            intro b_iJ_used_45 b_iJ_depth_45 b_iJ_binders_45 b_iT_at_45 b_iT_number_45 b_iT_next_45 f45_0 f45_1 f45_2 f45_3 f45_4 f45_5 f45_6 f45_7 f45_8 f45_9
            have hz8 := hB9.2.2
            rw [ht] at hz8
            have hz9 : H.size ≤ s.heap.size + 0 := by rw [hz8]; exact hz0
            refine W.tight (cells2 := 0) (slots2 := 0) hz9 (nS_0 hz9) ?_
            clear hz8 hz9
            have hP : va_P (dC, dI) vwCl (WJ hJ aJ kJ hT hM hL (.ref dF_tree) iJ_used_45 iJ_depth_45 jJ_ownName gJ_binder_45 iJ_binders_45 iJ_firstSet iJ_secondSet ++ (WL hL aL kL hT hM (.ref dF_tree) iL_names gL_key fL_kind fL_one fL_two fL_base iL_params fL_paramOver dL_paramOver nL_params fL_paramUnder dL_paramUnder nL_pu gL_over gL_under fL_bound iL_nameAt iL_startAt iL_steps jL_scaleOver jL_scaleUnder ++ (WF hF aF kF dF_tree nF_tree fF_tree_45 ++ (WT hT aT kT fT_tape dT_tape nT_tape iT_length iT_fault_45 iT_place_45 iT_kind_45 iT_at_45 iT_number_45 jT_name_45 iT_next_45)))) H := fz_P ht hB9.1
            have hD := fz_sd hP (hB9.2.1.weaken (fun _ q _ h => hFc q.1 h)) rfl
            have hF2 := f45_1
            refine lv_istore hx hb dX4_linear_87 hl (by decide) rfl (fun ls (hl : lv_has ls _ ([(6, .int r45), (5, .int iT_at_x27), (4, .int iT_kind_x27), (3, .int l3_x27), (2, .int l2_x27), (1, .int r2), (0, .ref (hJ 0))])) => ?_)
            refine lv_aload_n hx hb dX4_linear_89 rfl (lv_at hl 6 rfl) ?_
            refine lv_iload_n hx hb dX4_linear_90 rfl (lv_at hl 4 rfl) ?_
            refine lv_iload hx hb dX4_linear_91 (lv_at hl 0 rfl) ?_
            refine lv_iload hx hb dX4_linear_93 (lv_at hl 2 rfl) ?_
            refine lv_iload hx hb dX4_linear_95 (lv_at hl 1 rfl) ?_
            have p9 := cj_4_0_2 (WJ hJ aJ kJ hT hM hL (.ref dF_tree) iJ_used_45 iJ_depth_45 jJ_ownName gJ_binder_45 iJ_binders_45 iJ_firstSet iJ_secondSet) (WL hL aL kL hT hM (.ref dF_tree) iL_names gL_key fL_kind fL_one fL_two fL_base iL_params fL_paramOver dL_paramOver nL_params fL_paramUnder dL_paramUnder nL_pu gL_over gL_under fL_bound iL_nameAt iL_startAt iL_steps jL_scaleOver jL_scaleUnder) (WF hF aF kF dF_tree nF_tree fF_tree_45) (WT hT aT kT fT_tape dT_tape nT_tape iT_length iT_fault_45 iT_place_45 iT_kind_45 iT_at_45 iT_number_45 jT_name_45 iT_next_45)
            have hPc := hP.mem (fun q h => p9.mem_iff.mpr (List.mem_append_left _ h))
            have hDc := (hD.perm p9).left
            have hKc : va_K (dC, dI) vwCl (tJ kJ ++ (tF kF)) _ := hK.sub [0, 11] rfl
            have hFc := freeG p9 hD hS hA
            refine va_callv (va_runV (As := [.int l2_x27, .int r45, .int iT_kind_x27, .int iT_at_x27]) (rest := []) ⟨hx, hb, hml, hown, hts⟩ (m_X4_link l dC dI hJ aJ kJ hT hM hL iJ_used_45 iJ_depth_45 jJ_ownName gJ_binder_45 iJ_binders_45 iJ_firstSet iJ_secondSet hF aF kF dF_tree nF_tree fF_tree_45 l2_x27 r45 iT_kind_x27 iT_at_x27 (b_iJ_used_45) (b_iJ_depth_45) (b_iJ_binders_45) (b_iJ_firstSet) (b_iJ_secondSet) (by first | exact b_nF_tree | with_reducible assumption | exact ⟨by omega, by omega⟩ | assumption) (by first | with_reducible assumption | omega | (rw [iI_t (by omega) (by omega)]; omega) | decide | assumption) (by first | with_reducible assumption | omega | (rw [iI_t (by omega) (by omega)]; omega) | decide | assumption) H.size) (cwV 4 hts gwsMX4_linear_4 rfl rfl rfl (by decide +kernel) ⟨by first | decide +kernel | (dsimp only [headSpec] <;> omega), by first | decide +kernel | (dsimp only [headSpec] <;> omega)⟩) (fz_pre (va_recv hK hP (ci := 4) (q0 := 0) rfl rfl) hPc hKc hDc) rfl rfl hl.1 rfl (lv_room (Nat.le_of_ble_eq_true rfl)) dX4_linear_97 ⟨by first | decide +kernel | (dsimp only [headSpec] <;> omega), by first | decide +kernel | (dsimp only [headSpec] <;> omega)⟩) hS (fun q _ h => hFc q h) hFc (fun fF_tree_46 t9_ H locs ht hvm hw9 hB9 hz1 hk1 hS => ?_)
            have f46_0 := hw9
            try dsimp only at f46_0
            have p8 := cj_4_0_2 (WJ hJ aJ kJ hT hM hL (.ref dF_tree) iJ_used_45 iJ_depth_45 jJ_ownName gJ_binder_45 iJ_binders_45 iJ_firstSet iJ_secondSet) (WL hL aL kL hT hM (.ref dF_tree) iL_names gL_key fL_kind fL_one fL_two fL_base iL_params fL_paramOver dL_paramOver nL_params fL_paramUnder dL_paramUnder nL_pu gL_over gL_under fL_bound iL_nameAt iL_startAt iL_steps jL_scaleOver jL_scaleUnder) (WF hF aF kF dF_tree nF_tree fF_tree_46) (WT hT aT kT fT_tape dT_tape nT_tape iT_length iT_fault_45 iT_place_45 iT_kind_45 iT_at_45 iT_number_45 jT_name_45 iT_next_45)
            obtain ⟨hP, hD⟩ := frameG p9 p8 hP hD hk1 hFc (fz_P ht hB9.1) hB9.2
            have hLk := f46_0
            refine lv_iload hx hb dX4_linear_100 (lv_at hl 0 rfl) ?_
            refine lv_istore_n hx hb dX4_linear_102 rfl hl (by decide) rfl (fun ls (hl : lv_has ls _ ([(2, .int r45), (6, .int r45), (5, .int iT_at_x27), (4, .int iT_kind_x27), (3, .int l3_x27), (1, .int r2), (0, .ref (hJ 0))])) => ?_)
            refine lv_iinc (v := (iI (l3_x27.toInt + 1))) hx hb dX4_linear_103 hl (k := 4) rfl (iI_add2 (iI_of _) (by decide : (1 : Int32) = iI 1)) (by decide) rfl (fun ls (hl : lv_has ls _ ([(3, .int (iI (l3_x27.toInt + 1))), (2, .int r45), (6, .int r45), (5, .int iT_at_x27), (4, .int iT_kind_x27), (1, .int r2), (0, .ref (hJ 0))])) => ?_)
            refine lv_goto (tgt := 27) hx hb dX4_linear_106 (by decide) ?_
            have hl : lv_has _ _ ([(3, .int (iI (l3_x27.toInt + 1))), (2, .int r45), (1, .int r2), (0, .ref (hJ 0))]) := lv_sub hl [0, 1, 5, 6] rfl
            exact ihx27 iJ_used_45 iJ_depth_45 gJ_binder_45 iJ_binders_45 fF_tree_46 iT_fault_45 iT_place_45 iT_kind_45 iT_at_45 iT_number_45 jT_name_45 iT_next_45 (iI (l3_x27.toInt + 1)) r45 _ _ _ (b_iJ_used_45) (b_iJ_depth_45) (b_iJ_binders_45) (b_iT_at_45) (b_iT_number_45) (b_iT_next_45) (iI_rng (Int.le_trans (by decide) (Int.add_le_add (b_l3_x27.1) (Int.le_refl _))) (by omega) (by decide) (by decide)) (show iT_at.toInt ≤ iT_at_45.toInt from by omega) (show iT_at_45.toInt ≤ iT_next_45.toInt from by first | done | assumption | omega | (rw [iI_t (by omega) (by omega)]; omega)) (show iT_next_45.toInt ≤ iT_length.toInt from by first | done | assumption | omega | (rw [iI_t (by omega) (by omega)]; omega)) (show (iT_kind_45.toInt = 44 ∨ iT_kind_45.toInt = 61) → iT_at_45.toInt < iT_next_45.toInt from by first | done | assumption | omega | (rw [iI_t (by omega) (by omega)]; omega)) (show iJ_used.toInt + 14 ≤ iJ_used_45.toInt from by omega) (show iJ_used_45.toInt ≤ ((nF_tree : Nat) : Int) from by first | done | assumption | omega | (rw [iI_t (by omega) (by omega)]; omega)) (show iJ_used_45.toInt % 7 = 0 from by omega) (show iJ_depth_45.toInt = iJ_depth.toInt + 1 from by omega) (show (UnL fF_tree fF_tree_46 fL_kind fL_one fL_two iL_names.toInt iJ_used.toInt 1 iJ_used_45.toInt [(twL fF_tree_46 (iJ_used.toInt + 3), 2, lv), (r45.toInt, 2, lv)]) ∧ twL fF_tree_46 (r45.toInt + 6) = 0 from UnL.step hun.1 hF2 (hLk) (by omega)) (show 7 ≤ r45.toInt ∧ r45.toInt + 7 ≤ iJ_used_45.toInt ∧ r45.toInt % 7 = 0 from by omega) (by have e9 : ((iI (l3_x27.toInt + 1))).toInt = (l3_x27.toInt + 1) := (iI_t (Int.le_trans (by decide) (Int.add_le_add (b_l3_x27.1) (Int.le_refl _))) (Int.le_trans (Int.add_le_add (b_l3_x27.2) (Int.le_refl _)) (by decide))); omega) hP hD hS hl
    · rintro H locs ls stk ⟨rfl, hP, hD, hS, hl⟩
      refine lv_aload_n hx hb dX4_linear_109 rfl (lv_at hl 3 rfl) ?_
      refine lv_dup hx hb dX4_linear_110 rfl ?_
      refine va_get (D := (dC, dI)) (ci := 4) (v := .int iJ_depth_x27) (C := RX4) (T := TX4) (N := 11) hx hb hts iwsMX4_linear_in4 hown hK hP 0 rfl rfl 5 (by decide) (hts _ hm_m_X4_linear_3) (fun _ h9 => h9) rfl dX4_linear_111 ?_
      refine lv_iconst (v := 1) hx hb dX4_linear_114 (by decide) ?_
      refine lv_isub hx hb dX4_linear_115 ?_
      refine lv_topi (fun y47 hy47 => ?_)
      obtain rfl : (iI (iJ_depth_x27.toInt - 1)) = y47 := (hy47.trans (iI_sub2 (iI_of _) (by decide : (1 : Int32) = iI 1))).symm
      refine va_put (D := (dC, dI)) (ci := 4) (v := .int (iI (iJ_depth_x27.toInt - 1))) (ty := .int) (C := RX4) (T := TX4) (N := 11) hx hb hts iwsMX4_linear_in4 tyX4 tyX4_ok nmX4 hown hK hP hD hS 0 rfl rfl 5 (by decide) (hts _ hm_m_X4_linear_3) (fun _ h9 => h9) rfl (by decide +kernel) rfl rfl (Nat.le_of_ble_eq_true rfl) dX4_linear_116 (fun H locs hP hD hS => ?_)
      have hP : va_P (dC, dI) vwCl (WJ hJ aJ kJ hT hM hL (.ref dF_tree) iJ_used_x27 (iI (iJ_depth_x27.toInt - 1)) jJ_ownName gJ_binder_x27 iJ_binders_x27 iJ_firstSet iJ_secondSet ++ (WL hL aL kL hT hM (.ref dF_tree) iL_names gL_key fL_kind fL_one fL_two fL_base iL_params fL_paramOver dL_paramOver nL_params fL_paramUnder dL_paramUnder nL_pu gL_over gL_under fL_bound iL_nameAt iL_startAt iL_steps jL_scaleOver jL_scaleUnder ++ (WF hF aF kF dF_tree nF_tree fF_tree_x27 ++ (WT hT aT kT fT_tape dT_tape nT_tape iT_length iT_fault_x27 iT_place_x27 iT_kind_x27 iT_at_x27 iT_number_x27 jT_name_x27 iT_next_x27)))) H := hP
      have hD := fz_sd hP (hD) rfl
      refine lv_iload_n hx hb dX4_linear_119 rfl (lv_at hl 2 rfl) ?_
      refine vx_ret ?_
      refine W.known (fun hz9 _ => ?_)
      refine W.widen (k := 1) (n := 6) (by decide +kernel) (by decide +kernel) ?_
      exact W.iret (v := r2) hx hb hr (fun t9_ ht hW => ⟨⟨r2, (iJ_used_x27, (iI (iJ_depth_x27.toInt - 1)), gJ_binder_x27, iJ_binders_x27, fF_tree_x27, iT_fault_x27, iT_place_x27, iT_kind_x27, iT_at_x27, iT_number_x27, jT_name_x27, iT_next_x27), rfl, ⟨b_iJ_used_x27, (by (try dsimp only); exact (iI_rng (by omega) (Int.le_trans (Int.sub_le_sub (b_iJ_depth_x27.2) (Int.le_refl _)) (by decide)) (by decide) (by decide))), b_iJ_binders_x27, b_iT_at_x27, b_iT_number_x27, b_iT_next_x27, (by (try dsimp only); first | done | assumption | omega | (rw [iI_t (by omega) (by omega)]; omega)), (by (try dsimp only); exact (UnL.fin1 hun.1 (by omega))), (by (try dsimp only); first | done | assumption | omega | (rw [iI_t (by omega) (by omega)]; omega)), (by (try dsimp only); first | done | assumption | omega | (rw [iI_t (by omega) (by omega)]; omega)), (by (try dsimp only); first | done | assumption | omega | (rw [iI_t (by omega) (by omega)]; omega)), (by (try dsimp only); first | done | assumption | omega | (rw [iI_t (by omega) (by omega)]; omega)), (by (try dsimp only); omega), (by (try dsimp only); first | done | assumption | omega | (rw [iI_t (by omega) (by omega)]; omega)), (by (try dsimp only); first | done | assumption | omega | (rw [iI_t (by omega) (by omega)]; omega)), (by (try dsimp only); first | done | assumption | omega | (rw [iI_t (by omega) (by omega)]; omega))⟩, by rw [ht]; exact hP, hD, by rw [ht]; first | done | exact Nat.le_antisymm hz9 hS.1⟩, hS.F ht⟩) hS.2.2 dX4_linear_120
theorem dX4_term_0 : decode cX4_term 0 = .ok (.aload_n 0, 1) := dk_42 (by decide +kernel)
theorem dX4_term_1 : decode cX4_term 1 = .ok (.iconst 2, 1) := dk_5 (by decide +kernel)
theorem dX4_term_2 : decode cX4_term 2 = .ok (.invokevirtual 217, 3) := dk_182 (by decide +kernel)
theorem dX4_term_5 : decode cX4_term 5 = .ok (.istore_n 1, 1) := dk_60 (by decide +kernel)
theorem dX4_term_6 : decode cX4_term 6 = .ok (.aload_n 0, 1) := dk_42 (by decide +kernel)
theorem dX4_term_7 : decode cX4_term 7 = .ok (.invokevirtual 243, 3) := dk_182 (by decide +kernel)
theorem dX4_term_10 : decode cX4_term 10 = .ok (.istore_n 2, 1) := dk_61 (by decide +kernel)
theorem dX4_term_11 : decode cX4_term 11 = .ok (.aload_n 0, 1) := dk_42 (by decide +kernel)
theorem dX4_term_12 : decode cX4_term 12 = .ok (.getfield 11, 3) := dk_180 (by decide +kernel)
theorem dX4_term_15 : decode cX4_term 15 = .ok (.iload_n 1, 1) := dk_27 (by decide +kernel)
theorem dX4_term_16 : decode cX4_term 16 = .ok (.iconst 3, 1) := dk_6 (by decide +kernel)
theorem dX4_term_17 : decode cX4_term 17 = .ok (.iadd, 1) := dk_96 (by decide +kernel)
theorem dX4_term_18 : decode cX4_term 18 = .ok (.iload_n 2, 1) := dk_28 (by decide +kernel)
theorem dX4_term_19 : decode cX4_term 19 = .ok (.iastore, 1) := dk_79 (by decide +kernel)
theorem dX4_term_20 : decode cX4_term 20 = .ok (.iconst 0, 1) := dk_3 (by decide +kernel)
theorem dX4_term_21 : decode cX4_term 21 = .ok (.istore_n 3, 1) := dk_62 (by decide +kernel)
theorem dX4_term_22 : decode cX4_term 22 = .ok (.iload_n 3, 1) := dk_29 (by decide +kernel)
theorem dX4_term_23 : decode cX4_term 23 = .ok (.sipush 4000, 3) := dk_17 (by decide +kernel)
theorem dX4_term_26 : decode cX4_term 26 = .ok (.if_icmp .ge 78, 3) := dk_162 (by decide +kernel)
theorem dX4_term_29 : decode cX4_term 29 = .ok (.aload_n 0, 1) := dk_42 (by decide +kernel)
theorem dX4_term_30 : decode cX4_term 30 = .ok (.getfield 19, 3) := dk_180 (by decide +kernel)
theorem dX4_term_33 : decode cX4_term 33 = .ok (.getfield 51, 3) := dk_180 (by decide +kernel)
theorem dX4_term_36 : decode cX4_term 36 = .ok (.bipush 42, 2) := dk_16 (by decide +kernel)
theorem dX4_term_38 : decode cX4_term 38 = .ok (.if_icmp .eq 15, 3) := dk_159 (by decide +kernel)
theorem dX4_term_41 : decode cX4_term 41 = .ok (.aload_n 0, 1) := dk_42 (by decide +kernel)
theorem dX4_term_42 : decode cX4_term 42 = .ok (.getfield 19, 3) := dk_180 (by decide +kernel)
theorem dX4_term_45 : decode cX4_term 45 = .ok (.getfield 51, 3) := dk_180 (by decide +kernel)
theorem dX4_term_48 : decode cX4_term 48 = .ok (.bipush 47, 2) := dk_16 (by decide +kernel)
theorem dX4_term_50 : decode cX4_term 50 = .ok (.if_icmp .ne 54, 3) := dk_160 (by decide +kernel)
theorem dX4_term_53 : decode cX4_term 53 = .ok (.aload_n 0, 1) := dk_42 (by decide +kernel)
theorem dX4_term_54 : decode cX4_term 54 = .ok (.getfield 19, 3) := dk_180 (by decide +kernel)
theorem dX4_term_57 : decode cX4_term 57 = .ok (.getfield 51, 3) := dk_180 (by decide +kernel)
theorem dX4_term_60 : decode cX4_term 60 = .ok (.istore 4, 2) := dk_54 (by decide +kernel)
theorem dX4_term_62 : decode cX4_term 62 = .ok (.aload_n 0, 1) := dk_42 (by decide +kernel)
theorem dX4_term_63 : decode cX4_term 63 = .ok (.getfield 19, 3) := dk_180 (by decide +kernel)
theorem dX4_term_66 : decode cX4_term 66 = .ok (.getfield 67, 3) := dk_180 (by decide +kernel)
theorem dX4_term_69 : decode cX4_term 69 = .ok (.istore 5, 2) := dk_54 (by decide +kernel)
theorem dX4_term_71 : decode cX4_term 71 = .ok (.aload_n 0, 1) := dk_42 (by decide +kernel)
theorem dX4_term_72 : decode cX4_term 72 = .ok (.getfield 19, 3) := dk_180 (by decide +kernel)
theorem dX4_term_75 : decode cX4_term 75 = .ok (.invokevirtual 119, 3) := dk_182 (by decide +kernel)
theorem dX4_term_78 : decode cX4_term 78 = .ok (.aload_n 0, 1) := dk_42 (by decide +kernel)
theorem dX4_term_79 : decode cX4_term 79 = .ok (.invokevirtual 243, 3) := dk_182 (by decide +kernel)
theorem dX4_term_82 : decode cX4_term 82 = .ok (.istore 6, 2) := dk_54 (by decide +kernel)
theorem dX4_term_84 : decode cX4_term 84 = .ok (.aload_n 0, 1) := dk_42 (by decide +kernel)
theorem dX4_term_85 : decode cX4_term 85 = .ok (.iload_n 2, 1) := dk_28 (by decide +kernel)
theorem dX4_term_86 : decode cX4_term 86 = .ok (.iload 6, 2) := dk_21 (by decide +kernel)
theorem dX4_term_88 : decode cX4_term 88 = .ok (.iload 4, 2) := dk_21 (by decide +kernel)
theorem dX4_term_90 : decode cX4_term 90 = .ok (.iload 5, 2) := dk_21 (by decide +kernel)
theorem dX4_term_92 : decode cX4_term 92 = .ok (.invokevirtual 240, 3) := dk_182 (by decide +kernel)
theorem dX4_term_95 : decode cX4_term 95 = .ok (.iload 6, 2) := dk_21 (by decide +kernel)
theorem dX4_term_97 : decode cX4_term 97 = .ok (.istore_n 2, 1) := dk_61 (by decide +kernel)
theorem dX4_term_98 : decode cX4_term 98 = .ok (.iinc 3 1, 3) := dk_132 (by decide +kernel)
theorem dX4_term_101 : decode cX4_term 101 = .ok (.goto (-79), 3) := dk_167 (by decide +kernel)
theorem dX4_term_104 : decode cX4_term 104 = .ok (.iload_n 1, 1) := dk_27 (by decide +kernel)
theorem dX4_term_105 : decode cX4_term 105 = .ok (.ireturn, 1) := dk_172 (by decide +kernel)
theorem iwsMX4_term_in4 : ∀ w ∈ wsX40, w ∈ wsMX4_term := fun w h => List.mem_cons_of_mem _ (iwsGR_in4 w h)
theorem iwsMX4_term_in9 : ∀ w ∈ wsX90, w ∈ wsMX4_term := fun w h => List.mem_cons_of_mem _ (iwsGR_in9 w h)
theorem gwsMX4_term_0 : GoodIn wsMX4_term (wsV RX4 217 RX4 yX4_node wsMX4_node) := goodIn_sub (fun w h => List.mem_cons_of_mem _ (gwsGR_1 w h)) (gdV (by decide +kernel) gdwsMX4_node)
theorem gwsMX4_term_1 : GoodIn wsMX4_term (wsV RX4 243 RX4 yX4_factor wsMX4_factor) := goodIn_rec (hd := [.methodLink RX4 243 yX4_factor, .instanceMethod yX4_factor, .selects RX4 yX4_factor yX4_factor, .initialized RX4]) (by decide +kernel) (by decide +kernel) gdwsGR
theorem gwsMX4_term_2 : GoodIn wsMX4_term (wsV RX4 119 RX9 yX9_advance wsMX9_advance) := goodIn_sub (fun w h => List.mem_cons_of_mem _ (gwsGR_2 w h)) (gdV (by decide +kernel) gdwsMX9_advance)
theorem gwsMX4_term_3 : GoodIn wsMX4_term (wsV RX4 240 RX4 yX4_link wsMX4_link) := goodIn_sub (fun w h => List.mem_cons_of_mem _ (gwsGR_3 w h)) (gdV (by decide +kernel) gdwsMX4_link)
theorem hm_m_X4_term_0 : (.fieldLink RX4 19 "OptimaWorks$Reader" "words" "LOptimaWorks$Words;" : Cond) ∈ wsMX4_term := by decide +kernel
theorem hm_m_X4_term_1 : (.fieldLink RX4 51 "OptimaWorks$Words" "kind" "I" : Cond) ∈ wsMX4_term := by decide +kernel
theorem hm_m_X4_term_2 : (.fieldLink RX4 67 "OptimaWorks$Words" "at" "I" : Cond) ∈ wsMX4_term := by decide +kernel
set_option maxHeartbeats 4000000 in
set_option maxRecDepth 100000 in
/-- a TERM read -/
theorem m_X4_term (l : Launch) (hst : l.stackTraces = false) (ev : Nat) (ih_X4_factor : Cm_X4_factor l (ev)) : Cm_X4_term l (ev + 1) := by
  intro dC dI hJ aJ kJ hT hM hL iJ_used iJ_depth jJ_ownName gJ_binder iJ_binders iJ_firstSet iJ_secondSet aL kL iL_names gL_key fL_kind fL_one fL_two fL_base iL_params fL_paramOver dL_paramOver nL_params fL_paramUnder dL_paramUnder nL_pu gL_over gL_under fL_bound iL_nameAt iL_startAt iL_steps jL_scaleOver jL_scaleUnder hF aF kF dF_tree nF_tree fF_tree aT kT fT_tape dT_tape nT_tape iT_length iT_fault iT_place iT_kind iT_at iT_number jT_name iT_next lv b_iJ_used b_iJ_depth b_iJ_binders b_iJ_firstSet b_iJ_secondSet b_iL_names b_fL_kind b_fL_two b_fL_base b_iL_params b_nL_params b_nm b_pm b_pu b_nF_tree b_fT_tape b_nT_tape b_iT_length b_iT_at b_iT_number b_iT_next b_len hu1 hu2 hu7 hp1 hp2 hp3 hlv hdp sz
  refine vx_ofW (cc := cX4_term) (maxL := 7) (ret := (some .int)) (by decide) rfl ?_
  intro p e s m args below meth c s₁ B hml htab hv
  obtain ⟨rfl, hsz, hP, hK, hD0, hE⟩ := hv
  have hx := B.exec
  have hb := B.bytes
  have hr := B.returns
  have hts := atoms_spec (ws := wsMX4_term) B.pre
  have hown : s.vm.findClass RX4 = some m.cls := findClass_of_methodNamed B.named
  have hlocks := B.notSynchronized
  subst hsz
  have hD := hD0.self (sz := s.heap.size)
  generalize hAe : va_A (WJ hJ aJ kJ hT hM hL (.ref dF_tree) iJ_used iJ_depth jJ_ownName gJ_binder iJ_binders iJ_firstSet iJ_secondSet ++ (WL hL aL kL hT hM (.ref dF_tree) iL_names gL_key fL_kind fL_one fL_two fL_base iL_params fL_paramOver dL_paramOver nL_params fL_paramUnder dL_paramUnder nL_pu gL_over gL_under fL_bound iL_nameAt iL_startAt iL_steps jL_scaleOver jL_scaleUnder ++ (WF hF aF kF dF_tree nF_tree fF_tree ++ (WT hT aT kT fT_tape dT_tape nT_tape iT_length iT_fault iT_place iT_kind iT_at iT_number jT_name iT_next)))) s.heap.size = A at hD hE ⊢
  have hA : ∀ q : Nat, s.heap.size ≤ q → A q := fun q h => by rw [← hAe]; exact Or.inr h
  have hS : va_S A s.heap s.heap [] := va_S.rf
  have hl := lv_entry ([.ref (hJ 0)]) (n := 7) (Nat.le_of_ble_eq_true rfl)
  rw [lg_entry_eq]
  generalize (lg_sl ([.ref (hJ 0)]) ++ List.replicate (7 - (lg_sl ([.ref (hJ 0)])).length) Slot.unset).toArray = ls at hl ⊢
  have hl : lv_has ls 7 [(0, .ref (hJ 0))] := hl
  refine lv_aload_n hx hb dX4_term_0 rfl (lv_at hl 0 rfl) ?_
  refine lv_iconst (v := 2) hx hb dX4_term_1 (by decide) ?_
  refine W.known (fun hz0 _ => ?_)
  have p9 := cj_4_0_2_3 (WJ hJ aJ kJ hT hM hL (.ref dF_tree) iJ_used iJ_depth jJ_ownName gJ_binder iJ_binders iJ_firstSet iJ_secondSet) (WL hL aL kL hT hM (.ref dF_tree) iL_names gL_key fL_kind fL_one fL_two fL_base iL_params fL_paramOver dL_paramOver nL_params fL_paramUnder dL_paramUnder nL_pu gL_over gL_under fL_bound iL_nameAt iL_startAt iL_steps jL_scaleOver jL_scaleUnder) (WF hF aF kF dF_tree nF_tree fF_tree) (WT hT aT kT fT_tape dT_tape nT_tape iT_length iT_fault iT_place iT_kind iT_at iT_number jT_name iT_next)
  have hPc := hP.mem (fun q h => p9.mem_iff.mpr (List.mem_append_left _ h))
  have hDc := (hD.perm p9).left
  have hKc : va_K (dC, dI) vwCl (tJ kJ ++ (tF kF ++ (tT kT))) _ := hK.sub [0, 11, 12] rfl
  have hFc := freeG p9 hD hS hA
  refine vx_calli (vx_runV (As := [.int 2]) (rest := []) ⟨hx, hb, hml, hown, hts⟩ (m_X4_node l hst dC dI hJ aJ kJ hT hM hL iJ_used iJ_depth jJ_ownName gJ_binder iJ_binders iJ_firstSet iJ_secondSet hF aF kF dF_tree nF_tree fF_tree aT kT fT_tape dT_tape nT_tape iT_length iT_fault iT_place iT_kind iT_at iT_number jT_name iT_next 2 (b_iJ_used) (b_iJ_depth) (b_iJ_binders) (b_iJ_firstSet) (b_iJ_secondSet) (by first | exact b_nF_tree | with_reducible assumption | exact ⟨by omega, by omega⟩ | assumption) b_fT_tape (by first | exact b_nT_tape | with_reducible assumption | exact ⟨by omega, by omega⟩ | assumption) (b_iT_length) (b_iT_at) (b_iT_number) (b_iT_next) (by first | with_reducible assumption | omega | assumption) (by first | with_reducible assumption | omega | (rw [iI_t (by omega) (by omega)]; omega) | decide | assumption) (by first | with_reducible assumption | omega | (rw [iI_t (by omega) (by omega)]; omega) | decide | assumption) (by first | with_reducible assumption | omega | (rw [iI_t (by omega) (by omega)]; omega) | decide | assumption) s.heap.size) (cwV 1 hts gwsMX4_term_0 rfl rfl rfl (by decide +kernel) ⟨by first | decide +kernel | (dsimp only [headSpec] <;> omega), by first | decide +kernel | (dsimp only [headSpec] <;> omega)⟩) (fz_preE (va_recv hK hP (ci := 4) (q0 := 0) rfl rfl) hPc hKc hDc (fun a U g mk qE => qE.call) (fun U hU9 hW => by rw [hU9]; exact (((hE : CE A s s.heap).kept hS.2.1).narrow (fun q h => hFc q h)).warm hW)) rfl rfl hl.1 rfl (lv_room (Nat.le_of_ble_eq_true rfl)) dX4_term_2 ⟨by first | decide +kernel | (dsimp only [headSpec] <;> omega), by first | decide +kernel | (dsimp only [headSpec] <;> omega)⟩) hS (fun q _ h => hFc q h) hFc (fun q _ h => hFc q h) (fun E ce q9 u t9_ H locs ht hvm hw9 hB9 hz1 hk1 hS hc1 hc2 hc3 => ?_) (fun r1 u t9_ H locs ht hvm hw9 hB9 hz1 hk1 hS => ?_)
  · revert u hw9 hB9
    refine fz_p4 ?_
    intro iJ_used_1 fF_tree_1 iT_fault_1 iT_place_1 hw9 hB9
    try dsimp only at hw9 hB9
    revert hB9
    refine fz_a2 ?_
    intro hEx hB9
    have b_iJ_used_1 := hw9
    try dsimp only at b_iJ_used_1
    have p8 := cj_4_0_2_3 (WJ hJ aJ kJ hT hM hL (.ref dF_tree) iJ_used_1 iJ_depth jJ_ownName gJ_binder iJ_binders iJ_firstSet iJ_secondSet) (WL hL aL kL hT hM (.ref dF_tree) iL_names gL_key fL_kind fL_one fL_two fL_base iL_params fL_paramOver dL_paramOver nL_params fL_paramUnder dL_paramUnder nL_pu gL_over gL_under fL_bound iL_nameAt iL_startAt iL_steps jL_scaleOver jL_scaleUnder) (WF hF aF kF dF_tree nF_tree fF_tree_1) (WT hT aT kT fT_tape dT_tape nT_tape iT_length iT_fault_1 iT_place_1 iT_kind iT_at iT_number jT_name iT_next)
    obtain ⟨hP, hD⟩ := frameG p9 p8 hP hD hk1 hFc (fz_P ht hB9.1) hB9.2
    exact vx_out (fun x hx9 => (htab x hx9).elim) hlocks hc1 hc2 hc3 (fun t9_ ht hvm => ⟨(iJ_used_1, iJ_depth, gJ_binder, iJ_binders, fF_tree_1, iT_fault_1, iT_place_1, iT_kind, iT_at, iT_number, jT_name, iT_next), ⟨(by (try dsimp only); exact (by first | exact b_iJ_used_1 | with_reducible assumption | exact ⟨by omega, by omega⟩ | assumption)), (b_iJ_depth), (b_iJ_binders), (b_iT_at), (b_iT_number), (b_iT_next)⟩, ⟨(by have h9 := hEx; exact h9), by rw [ht]; exact hP, hD⟩, hS.F ht⟩) hS.2.2 (by decide +kernel) (by decide +kernel)
  revert u hw9 hB9
  refine fz_p4 ?_
  intro iJ_used_1 fF_tree_1 iT_fault_1 iT_place_1 hw9 hB9
  try dsimp only at hw9 hB9
  revert hw9
  refine fz_a5 ?_
  intro b_iJ_used_1 f1_0 f1_1 f1_2 f1_3
  have hz8 := hB9.2.2
  rw [ht] at hz8
  have hz9 : H.size ≤ s.heap.size + 0 := by rw [hz8]; exact hz0
  refine W.tight (cells2 := 0) (slots2 := 0) hz9 (nS_0 hz9) ?_
  clear hz8 hz9
  have p8 := cj_4_0_2_3 (WJ hJ aJ kJ hT hM hL (.ref dF_tree) iJ_used_1 iJ_depth jJ_ownName gJ_binder iJ_binders iJ_firstSet iJ_secondSet) (WL hL aL kL hT hM (.ref dF_tree) iL_names gL_key fL_kind fL_one fL_two fL_base iL_params fL_paramOver dL_paramOver nL_params fL_paramUnder dL_paramUnder nL_pu gL_over gL_under fL_bound iL_nameAt iL_startAt iL_steps jL_scaleOver jL_scaleUnder) (WF hF aF kF dF_tree nF_tree fF_tree_1) (WT hT aT kT fT_tape dT_tape nT_tape iT_length iT_fault_1 iT_place_1 iT_kind iT_at iT_number jT_name iT_next)
  obtain ⟨hP, hD⟩ := frameG p9 p8 hP hD hk1 hFc (fz_P ht hB9.1) hB9.2.1
  have hNw := f1_3
  refine lv_istore_n hx hb dX4_term_5 rfl hl (by decide) rfl (fun ls (hl : lv_has ls _ ([(1, .int r1), (0, .ref (hJ 0))])) => ?_)
  refine lv_aload_n hx hb dX4_term_6 rfl (lv_at hl 1 rfl) ?_
  refine W.known (fun hz0 _ => ?_)
  have hFc := allFree hD hS hA
  refine vx_calli (vx_runV (As := []) (rest := []) ⟨hx, hb, hml, hown, hts⟩ (ih_X4_factor dC dI hJ aJ kJ hT hM hL iJ_used_1 iJ_depth jJ_ownName gJ_binder iJ_binders iJ_firstSet iJ_secondSet aL kL iL_names gL_key fL_kind fL_one fL_two fL_base iL_params fL_paramOver dL_paramOver nL_params fL_paramUnder dL_paramUnder nL_pu gL_over gL_under fL_bound iL_nameAt iL_startAt iL_steps jL_scaleOver jL_scaleUnder hF aF kF dF_tree nF_tree fF_tree_1 aT kT fT_tape dT_tape nT_tape iT_length iT_fault_1 iT_place_1 iT_kind iT_at iT_number jT_name iT_next (lv + 1) (b_iJ_used_1) (b_iJ_depth) (b_iJ_binders) (b_iJ_firstSet) (b_iJ_secondSet) (b_iL_names) b_fL_kind b_fL_two b_fL_base (b_iL_params) (by first | exact b_nL_params | with_reducible assumption | exact ⟨by omega, by omega⟩ | assumption) (by first | with_reducible assumption | omega | (rw [iI_t (by omega) (by omega)]; omega) | assumption) (by first | with_reducible assumption | omega | (rw [iI_t (by omega) (by omega)]; omega) | assumption) (by first | with_reducible assumption | omega | (rw [iI_t (by omega) (by omega)]; omega) | assumption) (by first | exact b_nF_tree | with_reducible assumption | exact ⟨by omega, by omega⟩ | assumption) b_fT_tape (by first | exact b_nT_tape | with_reducible assumption | exact ⟨by omega, by omega⟩ | assumption) (b_iT_length) (b_iT_at) (b_iT_number) (b_iT_next) (by first | with_reducible assumption | omega | assumption) (by first | with_reducible assumption | omega | (rw [iI_t (by omega) (by omega)]; omega) | decide | assumption) (by first | with_reducible assumption | omega | (rw [iI_t (by omega) (by omega)]; omega) | decide | assumption) (by first | with_reducible assumption | omega | (rw [iI_t (by omega) (by omega)]; omega) | decide | assumption) (by first | with_reducible assumption | omega | (rw [iI_t (by omega) (by omega)]; omega) | decide | assumption) (by first | with_reducible assumption | omega | (rw [iI_t (by omega) (by omega)]; omega) | decide | assumption) (by first | with_reducible assumption | omega | (rw [iI_t (by omega) (by omega)]; omega) | decide | assumption) (by first | with_reducible assumption | omega | (rw [iI_t (by omega) (by omega)]; omega) | decide | assumption) (by first | with_reducible assumption | omega | (rw [iI_t (by omega) (by omega)]; omega) | decide | assumption) H.size) (cwV 0 hts gwsMX4_term_1 rfl rfl rfl (by decide +kernel) ⟨by first | decide +kernel | (dsimp only [headSpec] <;> omega), by first | decide +kernel | (dsimp only [headSpec] <;> omega)⟩) (fz_preE (va_recv hK hP (ci := 4) (q0 := 0) rfl rfl) hP hK hD (fun a U g mk qE => qE.call) (fun U hU9 hW => by rw [hU9]; exact (((hE : CE A s s.heap).kept hS.2.1).narrow (fun q h => hFc q h)).warm hW)) rfl rfl hl.1 rfl (lv_room (Nat.le_of_ble_eq_true rfl)) dX4_term_7 ⟨by first | decide +kernel | (dsimp only [headSpec] <;> omega), by first | decide +kernel | (dsimp only [headSpec] <;> omega)⟩) hS (fun q _ h => hFc q h) hFc (fun q _ h => hFc q h) (fun E ce q9 u t9_ H locs ht hvm hw9 hB9 hz1 hk1 hS hc1 hc2 hc3 => ?_) (fun r2 u t9_ H locs ht hvm hw9 hB9 hz1 hk1 hS => ?_)
  · revert u hw9 hB9
    refine fz_p12 ?_
    intro iJ_used_2 iJ_depth_2 gJ_binder_2 iJ_binders_2 fF_tree_2 iT_fault_2 iT_place_2 iT_kind_2 iT_at_2 iT_number_2 jT_name_2 iT_next_2 hw9 hB9
    try dsimp only at hw9 hB9
    revert hB9
    refine fz_a2 ?_
    intro hEx hB9
    revert hw9
    refine fz_a6 ?_
    intro b_iJ_used_2 b_iJ_depth_2 b_iJ_binders_2 b_iT_at_2 b_iT_number_2 b_iT_next_2
    have hP : va_P (dC, dI) vwCl (WJ hJ aJ kJ hT hM hL (.ref dF_tree) iJ_used_2 iJ_depth_2 jJ_ownName gJ_binder_2 iJ_binders_2 iJ_firstSet iJ_secondSet ++ (WL hL aL kL hT hM (.ref dF_tree) iL_names gL_key fL_kind fL_one fL_two fL_base iL_params fL_paramOver dL_paramOver nL_params fL_paramUnder dL_paramUnder nL_pu gL_over gL_under fL_bound iL_nameAt iL_startAt iL_steps jL_scaleOver jL_scaleUnder ++ (WF hF aF kF dF_tree nF_tree fF_tree_2 ++ (WT hT aT kT fT_tape dT_tape nT_tape iT_length iT_fault_2 iT_place_2 iT_kind_2 iT_at_2 iT_number_2 jT_name_2 iT_next_2)))) H := fz_P ht hB9.1
    have hD := fz_sd hP (hB9.2.weaken (fun _ q _ h => hFc q.1 h)) rfl
    exact vx_out (fun x hx9 => (htab x hx9).elim) hlocks hc1 hc2 hc3 (fun t9_ ht hvm => ⟨(iJ_used_2, iJ_depth_2, gJ_binder_2, iJ_binders_2, fF_tree_2, iT_fault_2, iT_place_2, iT_kind_2, iT_at_2, iT_number_2, jT_name_2, iT_next_2), ⟨(b_iJ_used_2), (b_iJ_depth_2), (b_iJ_binders_2), (b_iT_at_2), (b_iT_number_2), (b_iT_next_2)⟩, ⟨(by have h9 := hEx; exact h9), by rw [ht]; exact hP, hD⟩, hS.F ht⟩) hS.2.2 (by decide +kernel) (by decide +kernel)
  revert u hw9 hB9
  refine fz_p12 ?_
  intro iJ_used_2 iJ_depth_2 gJ_binder_2 iJ_binders_2 fF_tree_2 iT_fault_2 iT_place_2 iT_kind_2 iT_at_2 iT_number_2 jT_name_2 iT_next_2 hw9 hB9
  try dsimp only at hw9 hB9
  revert hw9
  refine fz_a16 ?_
  intro b_iJ_used_2 b_iJ_depth_2 b_iJ_binders_2 b_iT_at_2 b_iT_number_2 b_iT_next_2 f2_0 f2_1 f2_2 f2_3 f2_4 f2_5 f2_6 f2_7 f2_8 f2_9
  have hz8 := hB9.2.2
  rw [ht] at hz8
  have hz9 : H.size ≤ s.heap.size + 0 := by rw [hz8]; exact hz0
  refine W.tight (cells2 := 0) (slots2 := 0) hz9 (nS_0 hz9) ?_
  clear hz8 hz9
  have hP : va_P (dC, dI) vwCl (WJ hJ aJ kJ hT hM hL (.ref dF_tree) iJ_used_2 iJ_depth_2 jJ_ownName gJ_binder_2 iJ_binders_2 iJ_firstSet iJ_secondSet ++ (WL hL aL kL hT hM (.ref dF_tree) iL_names gL_key fL_kind fL_one fL_two fL_base iL_params fL_paramOver dL_paramOver nL_params fL_paramUnder dL_paramUnder nL_pu gL_over gL_under fL_bound iL_nameAt iL_startAt iL_steps jL_scaleOver jL_scaleUnder ++ (WF hF aF kF dF_tree nF_tree fF_tree_2 ++ (WT hT aT kT fT_tape dT_tape nT_tape iT_length iT_fault_2 iT_place_2 iT_kind_2 iT_at_2 iT_number_2 jT_name_2 iT_next_2)))) H := fz_P ht hB9.1
  have hD := fz_sd hP (hB9.2.1.weaken (fun _ q _ h => hFc q.1 h)) rfl
  have hF1 := f2_1
  refine lv_istore_n hx hb dX4_term_10 rfl hl (by decide) rfl (fun ls (hl : lv_has ls _ ([(2, .int r2), (1, .int r1), (0, .ref (hJ 0))])) => ?_)
  refine lv_aload_n hx hb dX4_term_11 rfl (lv_at hl 2 rfl) ?_
  refine va_get (D := (dC, dI)) (ci := 4) (v := .ref dF_tree) (C := RX4) (T := TX4) (N := 11) hx hb hts iwsMX4_term_in4 hown hK hP 0 rfl rfl 3 (by decide) (hts (.fieldLink RX4 11 "OptimaWorks$Reader" "tree" "[I") (by decide +kernel)) (fun _ h9 => h9) rfl dX4_term_12 ?_
  refine lv_iload_n hx hb dX4_term_15 rfl (lv_at hl 1 rfl) ?_
  refine lv_iconst (v := 3) hx hb dX4_term_16 (by decide) ?_
  refine lv_iadd hx hb dX4_term_17 ?_
  refine lv_topi (fun y3 hy3 => ?_)
  obtain rfl : (iI (r1.toInt + 3)) = y3 := (hy3.trans (iI_add2 (iI_of _) (by decide : (3 : Int32) = iI 3))).symm
  refine lv_iload_n hx hb dX4_term_18 rfl (lv_at hl 0 rfl) ?_
  refine va_iast (cA := kF 0) (n := nF_tree) (f := fF_tree_2) hx hb hK hP hD hS 13 11 rfl rfl (vp_iI (by omega) (by omega) (by omega)) dX4_term_19 (fun H locs hP hD hS => ?_)
  obtain ⟨u4, hu4⟩ : ∃ f9, f9 = upd fF_tree_2 ((iI (r1.toInt + 3))).toNatClampNeg r2 := ⟨_, rfl⟩
  have hP : va_P (dC, dI) vwCl (WJ hJ aJ kJ hT hM hL (.ref dF_tree) iJ_used_2 iJ_depth_2 jJ_ownName gJ_binder_2 iJ_binders_2 iJ_firstSet iJ_secondSet ++ (WL hL aL kL hT hM (.ref dF_tree) iL_names gL_key fL_kind fL_one fL_two fL_base iL_params fL_paramOver dL_paramOver nL_params fL_paramUnder dL_paramUnder nL_pu gL_over gL_under fL_bound iL_nameAt iL_startAt iL_steps jL_scaleOver jL_scaleUnder ++ (WF hF aF kF dF_tree nF_tree u4 ++ (WT hT aT kT fT_tape dT_tape nT_tape iT_length iT_fault_2 iT_place_2 iT_kind_2 iT_at_2 iT_number_2 jT_name_2 iT_next_2)))) H := by rw [hu4]; exact hP
  have hD : va_D A (WJ hJ aJ kJ hT hM hL (.ref dF_tree) iJ_used_2 iJ_depth_2 jJ_ownName gJ_binder_2 iJ_binders_2 iJ_firstSet iJ_secondSet ++ (WL hL aL kL hT hM (.ref dF_tree) iL_names gL_key fL_kind fL_one fL_two fL_base iL_params fL_paramOver dL_paramOver nL_params fL_paramUnder dL_paramUnder nL_pu gL_over gL_under fL_bound iL_nameAt iL_startAt iL_steps jL_scaleOver jL_scaleUnder ++ (WF hF aF kF dF_tree nF_tree u4 ++ (WT hT aT kT fT_tape dT_tape nT_tape iT_length iT_fault_2 iT_place_2 iT_kind_2 iT_at_2 iT_number_2 jT_name_2 iT_next_2)))) := by rw [hu4]; exact hD
  have b_u4 : WrL fF_tree_2 u4 (r1.toInt + 3) r2.toInt := by rw [hu4]; exact WrL.ofx rfl (by omega) (by omega)
  clear hu4
  refine lv_iconst (v := 0) hx hb dX4_term_20 (by decide) ?_
  refine lv_istore_n hx hb dX4_term_21 rfl hl (by decide) rfl (fun ls (hl : lv_has ls _ ([(3, .int 0), (2, .int r2), (1, .int r1), (0, .ref (hJ 0))])) => ?_)
  have hl : lv_has _ _ ([(3, .int 0), (2, .int r2), (1, .int r1), (0, .ref (hJ 0))]) := lv_sub hl [0, 1, 2, 3] rfl
  refine (fun (loop : ∀ (n9 : Nat) (iJ_used_x22 : Int32) (iJ_depth_x22 : Int32) (gJ_binder_x22 : Nat → Int64) (iJ_binders_x22 : Int32) (fF_tree_x22 : Nat → Int32) (iT_fault_x22 : Int32) (iT_place_x22 : Int32) (iT_kind_x22 : Int32) (iT_at_x22 : Int32) (iT_number_x22 : Int32) (jT_name_x22 : Int64) (iT_next_x22 : Int32) (l3_x22 : Int32) (l2_x22 : Int32) (H : Heap) (locs : List Loc) (ls : Array Slot), (0 ≤ iJ_used_x22.toInt ∧ iJ_used_x22.toInt ≤ 72200) → (0 ≤ iJ_depth_x22.toInt ∧ iJ_depth_x22.toInt ≤ 25) → (0 ≤ iJ_binders_x22.toInt ∧ iJ_binders_x22.toInt ≤ 64) → (0 ≤ iT_at_x22.toInt ∧ iT_at_x22.toInt ≤ 1282) → (0 ≤ iT_number_x22.toInt ∧ iT_number_x22.toInt ≤ 999999) → (0 ≤ iT_next_x22.toInt ∧ iT_next_x22.toInt ≤ 1282) → (0 ≤ l3_x22.toInt ∧ l3_x22.toInt ≤ 4000) → (iT_at.toInt ≤ iT_at_x22.toInt) → (iT_at_x22.toInt ≤ iT_next_x22.toInt) → (iT_next_x22.toInt ≤ iT_length.toInt) → ((iT_kind_x22.toInt = 44 ∨ iT_kind_x22.toInt = 61) → iT_at_x22.toInt < iT_next_x22.toInt) → (iJ_used.toInt + 14 ≤ iJ_used_x22.toInt) → (iJ_used_x22.toInt ≤ ((nF_tree : Nat) : Int)) → (iJ_used_x22.toInt % 7 = 0) → (iJ_depth_x22.toInt = iJ_depth.toInt) → ((UnL fF_tree fF_tree_x22 fL_kind fL_one fL_two iL_names.toInt iJ_used.toInt 2 iJ_used_x22.toInt [(twL fF_tree_x22 (iJ_used.toInt + 3), 3, lv + 1), (l2_x22.toInt, 3, lv + 1)]) ∧ twL fF_tree_x22 (l2_x22.toInt + 6) = 0) → (7 ≤ l2_x22.toInt ∧ l2_x22.toInt + 7 ≤ iJ_used_x22.toInt ∧ l2_x22.toInt % 7 = 0) → (4000 - l3_x22.toInt < ((n9 : Nat) : Int)) → va_P (dC, dI) vwCl (WJ hJ aJ kJ hT hM hL (.ref dF_tree) iJ_used_x22 iJ_depth_x22 jJ_ownName gJ_binder_x22 iJ_binders_x22 iJ_firstSet iJ_secondSet ++ (WL hL aL kL hT hM (.ref dF_tree) iL_names gL_key fL_kind fL_one fL_two fL_base iL_params fL_paramOver dL_paramOver nL_params fL_paramUnder dL_paramUnder nL_pu gL_over gL_under fL_bound iL_nameAt iL_startAt iL_steps jL_scaleOver jL_scaleUnder ++ (WF hF aF kF dF_tree nF_tree fF_tree_x22 ++ (WT hT aT kT fT_tape dT_tape nT_tape iT_length iT_fault_x22 iT_place_x22 iT_kind_x22 iT_at_x22 iT_number_x22 jT_name_x22 iT_next_x22)))) H → va_D A (WJ hJ aJ kJ hT hM hL (.ref dF_tree) iJ_used_x22 iJ_depth_x22 jJ_ownName gJ_binder_x22 iJ_binders_x22 iJ_firstSet iJ_secondSet ++ (WL hL aL kL hT hM (.ref dF_tree) iL_names gL_key fL_kind fL_one fL_two fL_base iL_params fL_paramOver dL_paramOver nL_params fL_paramUnder dL_paramUnder nL_pu gL_over gL_under fL_bound iL_nameAt iL_startAt iL_steps jL_scaleOver jL_scaleUnder ++ (WF hF aF kF dF_tree nF_tree fF_tree_x22 ++ (WT hT aT kT fT_tape dT_tape nT_tape iT_length iT_fault_x22 iT_place_x22 iT_kind_x22 iT_at_x22 iT_number_x22 jT_name_x22 iT_next_x22)))) → va_S A s.heap H locs → lv_has ls 7 [(3, .int l3_x22), (2, .int l2_x22), (1, .int r1), (0, .ref (hJ 0))] → W p l e _ s m _ below meth c H locs 0 0 _ (F0 m 22 ls [])) => loop (4001) iJ_used_2 iJ_depth_2 gJ_binder_2 iJ_binders_2 u4 iT_fault_2 iT_place_2 iT_kind_2 iT_at_2 iT_number_2 jT_name_2 iT_next_2 0 r2 _ _ _ (b_iJ_used_2) (b_iJ_depth_2) (b_iJ_binders_2) (b_iT_at_2) (b_iT_number_2) (b_iT_next_2) (show 0 ≤ (0 : Int32).toInt ∧ (0 : Int32).toInt ≤ 4000 from by decide) (show iT_at.toInt ≤ iT_at_2.toInt from by omega) (show iT_at_2.toInt ≤ iT_next_2.toInt from by first | done | assumption | omega | (rw [iI_t (by omega) (by omega)]; omega)) (show iT_next_2.toInt ≤ iT_length.toInt from by first | done | assumption | omega | (rw [iI_t (by omega) (by omega)]; omega)) (show (iT_kind_2.toInt = 44 ∨ iT_kind_2.toInt = 61) → iT_at_2.toInt < iT_next_2.toInt from by first | done | assumption | omega | (rw [iI_t (by omega) (by omega)]; omega)) (show iJ_used.toInt + 14 ≤ iJ_used_2.toInt from by omega) (show iJ_used_2.toInt ≤ ((nF_tree : Nat) : Int) from by first | done | assumption | omega | (rw [iI_t (by omega) (by omega)]; omega)) (show iJ_used_2.toInt % 7 = 0 from by omega) (show iJ_depth_2.toInt = iJ_depth.toInt from by omega) (show (UnL fF_tree u4 fL_kind fL_one fL_two iL_names.toInt iJ_used.toInt 2 iJ_used_2.toInt [(twL u4 (iJ_used.toInt + 3), 3, lv + 1), (r2.toInt, 3, lv + 1)]) ∧ twL u4 (r2.toInt + 6) = 0 from UnL.first hNw hu1 hu7 (by omega) hF1 b_u4 (by omega) (by omega)) (show 7 ≤ r2.toInt ∧ r2.toInt + 7 ≤ iJ_used_2.toInt ∧ r2.toInt % 7 = 0 from by omega) ((by have e9 : (0 : Int32).toInt = 0 := (by decide : (0 : Int32).toInt = 0); omega)) hP hD hS hl) ?_
  intro n9
  induction n9 with
  | zero => intro iJ_used_x22 iJ_depth_x22 gJ_binder_x22 iJ_binders_x22 fF_tree_x22 iT_fault_x22 iT_place_x22 iT_kind_x22 iT_at_x22 iT_number_x22 jT_name_x22 iT_next_x22 l3_x22 l2_x22 H locs ls b_iJ_used_x22 b_iJ_depth_x22 b_iJ_binders_x22 b_iT_at_x22 b_iT_number_x22 b_iT_next_x22 b_l3_x22 hq0 hq1 hq2 hq3 hu1x hu2x hu7x hdx hun hlr hf9; exact False.elim (by omega)
  | succ n9 ihx22 =>
    intro iJ_used_x22 iJ_depth_x22 gJ_binder_x22 iJ_binders_x22 fF_tree_x22 iT_fault_x22 iT_place_x22 iT_kind_x22 iT_at_x22 iT_number_x22 jT_name_x22 iT_next_x22 l3_x22 l2_x22 H locs ls b_iJ_used_x22 b_iJ_depth_x22 b_iJ_binders_x22 b_iT_at_x22 b_iT_number_x22 b_iT_next_x22 b_l3_x22 hq0 hq1 hq2 hq3 hu1x hu2x hu7x hdx hun hlr hfx22 hP hD hS hl
    refine lv_iload_n hx hb dX4_term_22 rfl (lv_at hl 0 rfl) ?_
    refine lv_sipush (v := 4000) hx hb dX4_term_23 (by decide) ?_
    refine W.cut (pc := 104) (fun H locs ls stk =>  stk = [] ∧ va_P (dC, dI) vwCl (WJ hJ aJ kJ hT hM hL (.ref dF_tree) iJ_used_x22 iJ_depth_x22 jJ_ownName gJ_binder_x22 iJ_binders_x22 iJ_firstSet iJ_secondSet ++ (WL hL aL kL hT hM (.ref dF_tree) iL_names gL_key fL_kind fL_one fL_two fL_base iL_params fL_paramOver dL_paramOver nL_params fL_paramUnder dL_paramUnder nL_pu gL_over gL_under fL_bound iL_nameAt iL_startAt iL_steps jL_scaleOver jL_scaleUnder ++ (WF hF aF kF dF_tree nF_tree fF_tree_x22 ++ (WT hT aT kT fT_tape dT_tape nT_tape iT_length iT_fault_x22 iT_place_x22 iT_kind_x22 iT_at_x22 iT_number_x22 jT_name_x22 iT_next_x22)))) H ∧ va_D A (WJ hJ aJ kJ hT hM hL (.ref dF_tree) iJ_used_x22 iJ_depth_x22 jJ_ownName gJ_binder_x22 iJ_binders_x22 iJ_firstSet iJ_secondSet ++ (WL hL aL kL hT hM (.ref dF_tree) iL_names gL_key fL_kind fL_one fL_two fL_base iL_params fL_paramOver dL_paramOver nL_params fL_paramUnder dL_paramUnder nL_pu gL_over gL_under fL_bound iL_nameAt iL_startAt iL_steps jL_scaleOver jL_scaleUnder ++ (WF hF aF kF dF_tree nF_tree fF_tree_x22 ++ (WT hT aT kT fT_tape dT_tape nT_tape iT_length iT_fault_x22 iT_place_x22 iT_kind_x22 iT_at_x22 iT_number_x22 jT_name_x22 iT_next_x22)))) ∧ va_S A s.heap H locs ∧ lv_has ls 7 [(3, .int l3_x22), (2, .int l2_x22), (1, .int r1), (0, .ref (hJ 0))]) (fun join4 => ?_) ?_
    · refine lv_icmp_ge (tgt := 104) hx hb dX4_term_26 (by decide) (fun c_26 => ?_) (fun c_26 => ?_)
      · have t_26 : l3_x22.toInt ≥ 4000 := toI_ge c_26 rfl (by decide : (4000 : Int32).toInt = 4000)
        have hl : lv_has _ _ ([(3, .int l3_x22), (2, .int l2_x22), (1, .int r1), (0, .ref (hJ 0))]) := lv_sub hl [0, 1, 2, 3] rfl
        exact join4 _ _ _ _ ⟨rfl, hP, hD, hS, hl⟩
      · have t_26 : ¬ l3_x22.toInt ≥ 4000 := toI_nge c_26 rfl (by decide : (4000 : Int32).toInt = 4000)
        refine lv_aload_n hx hb dX4_term_29 rfl (lv_at hl 3 rfl) ?_
        refine va_get (D := (dC, dI)) (ci := 4) (v := .ref (hT 0)) (C := RX4) (T := TX4) (N := 11) hx hb hts iwsMX4_term_in4 hown hK hP 0 rfl rfl 0 (by decide) (hts _ hm_m_X4_term_0) (fun _ h9 => h9) rfl dX4_term_30 ?_
        refine va_get (D := (dC, dI)) (ci := 9) (v := .int iT_kind_x22) (C := RX9) (T := TX9) (N := 9) hx hb hts iwsMX4_term_in9 hown hK hP 14 rfl rfl 4 (by decide) (hts _ hm_m_X4_term_1) (fun _ h9 => h9) rfl dX4_term_33 ?_
        refine lv_bipush (v := 42) hx hb dX4_term_36 (by decide) ?_
        refine lv_icmp_eq (tgt := 53) hx hb dX4_term_38 (by decide) (fun c_38 => ?_) (fun c_38 => ?_)
        · have t_38 : iT_kind_x22.toInt = 42 := toI_eq c_38 rfl (by decide : (42 : Int32).toInt = 42)
          refine lv_aload_n hx hb dX4_term_53 rfl (lv_at hl 3 rfl) ?_
          refine va_get (D := (dC, dI)) (ci := 4) (v := .ref (hT 0)) (C := RX4) (T := TX4) (N := 11) hx hb hts iwsMX4_term_in4 hown hK hP 0 rfl rfl 0 (by decide) (hts _ hm_m_X4_term_0) (fun _ h9 => h9) rfl dX4_term_54 ?_
          refine va_get (D := (dC, dI)) (ci := 9) (v := .int iT_kind_x22) (C := RX9) (T := TX9) (N := 9) hx hb hts iwsMX4_term_in9 hown hK hP 14 rfl rfl 4 (by decide) (hts _ hm_m_X4_term_1) (fun _ h9 => h9) rfl dX4_term_57 ?_
          refine lv_istore hx hb dX4_term_60 hl (by decide) rfl (fun ls (hl : lv_has ls _ ([(4, .int iT_kind_x22), (3, .int l3_x22), (2, .int l2_x22), (1, .int r1), (0, .ref (hJ 0))])) => ?_)
          refine lv_aload_n hx hb dX4_term_62 rfl (lv_at hl 4 rfl) ?_
          refine va_get (D := (dC, dI)) (ci := 4) (v := .ref (hT 0)) (C := RX4) (T := TX4) (N := 11) hx hb hts iwsMX4_term_in4 hown hK hP 0 rfl rfl 0 (by decide) (hts _ hm_m_X4_term_0) (fun _ h9 => h9) rfl dX4_term_63 ?_
          refine va_get (D := (dC, dI)) (ci := 9) (v := .int iT_at_x22) (C := RX9) (T := TX9) (N := 9) hx hb hts iwsMX4_term_in9 hown hK hP 14 rfl rfl 5 (by decide) (hts _ hm_m_X4_term_2) (fun _ h9 => h9) rfl dX4_term_66 ?_
          refine lv_istore hx hb dX4_term_69 hl (by decide) rfl (fun ls (hl : lv_has ls _ ([(5, .int iT_at_x22), (4, .int iT_kind_x22), (3, .int l3_x22), (2, .int l2_x22), (1, .int r1), (0, .ref (hJ 0))])) => ?_)
          refine lv_aload_n hx hb dX4_term_71 rfl (lv_at hl 5 rfl) ?_
          refine va_get (D := (dC, dI)) (ci := 4) (v := .ref (hT 0)) (C := RX4) (T := TX4) (N := 11) hx hb hts iwsMX4_term_in4 hown hK hP 0 rfl rfl 0 (by decide) (hts _ hm_m_X4_term_0) (fun _ h9 => h9) rfl dX4_term_72 ?_
          have p9 := cj_4_3 (WJ hJ aJ kJ hT hM hL (.ref dF_tree) iJ_used_x22 iJ_depth_x22 jJ_ownName gJ_binder_x22 iJ_binders_x22 iJ_firstSet iJ_secondSet) (WL hL aL kL hT hM (.ref dF_tree) iL_names gL_key fL_kind fL_one fL_two fL_base iL_params fL_paramOver dL_paramOver nL_params fL_paramUnder dL_paramUnder nL_pu gL_over gL_under fL_bound iL_nameAt iL_startAt iL_steps jL_scaleOver jL_scaleUnder) (WF hF aF kF dF_tree nF_tree fF_tree_x22) (WT hT aT kT fT_tape dT_tape nT_tape iT_length iT_fault_x22 iT_place_x22 iT_kind_x22 iT_at_x22 iT_number_x22 jT_name_x22 iT_next_x22)
          have hPc := hP.mem (fun q h => p9.mem_iff.mpr (List.mem_append_left _ h))
          have hDc := (hD.perm p9).left
          have hKc : va_K (dC, dI) vwCl (tT kT) _ := hK.sub [12] rfl
          have hFc := freeG p9 hD hS hA
          refine va_callv (va_runV (As := []) (rest := []) ⟨hx, hb, hml, hown, hts⟩ (m_X9_advance l hst dC dI hT aT kT fT_tape dT_tape nT_tape iT_length iT_fault_x22 iT_place_x22 iT_kind_x22 iT_at_x22 iT_number_x22 jT_name_x22 iT_next_x22 b_fT_tape (by first | exact b_nT_tape | with_reducible assumption | exact ⟨by omega, by omega⟩ | assumption) (b_iT_length) (b_iT_at_x22) (b_iT_number_x22) (b_iT_next_x22) (by first | with_reducible assumption | omega | assumption) (by first | with_reducible assumption | omega | (rw [iI_t (by omega) (by omega)]; omega) | decide | assumption) H.size) (cwV 0 hts gwsMX4_term_2 rfl rfl rfl (by decide +kernel) ⟨by first | decide +kernel | (dsimp only [headSpec] <;> omega), by first | decide +kernel | (dsimp only [headSpec] <;> omega)⟩) (fz_preE (va_recv hK hP (ci := 9) (q0 := 14) rfl rfl) hPc hKc hDc (fun a U g mk qE => qE.call) (fun U hU9 hW => by rw [hU9]; exact (((hE : CE A s s.heap).kept hS.2.1).narrow (fun q h => hFc q h)).warm hW)) rfl rfl hl.1 rfl (lv_room (Nat.le_of_ble_eq_true rfl)) dX4_term_75 ⟨by first | decide +kernel | (dsimp only [headSpec] <;> omega), by first | decide +kernel | (dsimp only [headSpec] <;> omega)⟩) hS (fun q _ h => hFc q h) hFc (fun u t9_ H locs ht hvm hw9 hB9 hz1 hk1 hS => ?_)
          revert u hw9 hB9
          refine fz_p5 ?_
          intro iT_kind_38 iT_at_38 iT_number_38 jT_name_38 iT_next_38 hw9 hB9
          try dsimp only at hw9 hB9
          revert hw9
          refine fz_a7 ?_
          intro b_iT_at_38 b_iT_number_38 b_iT_next_38 f38_0 f38_1 f38_2 f38_3
          have p8 := cj_4_3 (WJ hJ aJ kJ hT hM hL (.ref dF_tree) iJ_used_x22 iJ_depth_x22 jJ_ownName gJ_binder_x22 iJ_binders_x22 iJ_firstSet iJ_secondSet) (WL hL aL kL hT hM (.ref dF_tree) iL_names gL_key fL_kind fL_one fL_two fL_base iL_params fL_paramOver dL_paramOver nL_params fL_paramUnder dL_paramUnder nL_pu gL_over gL_under fL_bound iL_nameAt iL_startAt iL_steps jL_scaleOver jL_scaleUnder) (WF hF aF kF dF_tree nF_tree fF_tree_x22) (WT hT aT kT fT_tape dT_tape nT_tape iT_length iT_fault_x22 iT_place_x22 iT_kind_38 iT_at_38 iT_number_38 jT_name_38 iT_next_38)
          obtain ⟨hP, hD⟩ := frameG p9 p8 hP hD hk1 hFc (fz_P ht hB9.1) hB9.2
          refine lv_aload_n hx hb dX4_term_78 rfl (lv_at hl 5 rfl) ?_
          refine W.known (fun hz0 _ => ?_)
          have hFc := allFree hD hS hA
          refine vx_calli (vx_runV (As := []) (rest := []) ⟨hx, hb, hml, hown, hts⟩ (ih_X4_factor dC dI hJ aJ kJ hT hM hL iJ_used_x22 iJ_depth_x22 jJ_ownName gJ_binder_x22 iJ_binders_x22 iJ_firstSet iJ_secondSet aL kL iL_names gL_key fL_kind fL_one fL_two fL_base iL_params fL_paramOver dL_paramOver nL_params fL_paramUnder dL_paramUnder nL_pu gL_over gL_under fL_bound iL_nameAt iL_startAt iL_steps jL_scaleOver jL_scaleUnder hF aF kF dF_tree nF_tree fF_tree_x22 aT kT fT_tape dT_tape nT_tape iT_length iT_fault_x22 iT_place_x22 iT_kind_38 iT_at_38 iT_number_38 jT_name_38 iT_next_38 (lv + 1) (b_iJ_used_x22) (b_iJ_depth_x22) (b_iJ_binders_x22) (b_iJ_firstSet) (b_iJ_secondSet) (b_iL_names) b_fL_kind b_fL_two b_fL_base (b_iL_params) (by first | exact b_nL_params | with_reducible assumption | exact ⟨by omega, by omega⟩ | assumption) (by first | with_reducible assumption | omega | (rw [iI_t (by omega) (by omega)]; omega) | assumption) (by first | with_reducible assumption | omega | (rw [iI_t (by omega) (by omega)]; omega) | assumption) (by first | with_reducible assumption | omega | (rw [iI_t (by omega) (by omega)]; omega) | assumption) (by first | exact b_nF_tree | with_reducible assumption | exact ⟨by omega, by omega⟩ | assumption) b_fT_tape (by first | exact b_nT_tape | with_reducible assumption | exact ⟨by omega, by omega⟩ | assumption) (b_iT_length) (b_iT_at_38) (b_iT_number_38) (b_iT_next_38) (by first | with_reducible assumption | omega | assumption) (by first | with_reducible assumption | omega | (rw [iI_t (by omega) (by omega)]; omega) | decide | assumption) (by first | with_reducible assumption | omega | (rw [iI_t (by omega) (by omega)]; omega) | decide | assumption) (by first | with_reducible assumption | omega | (rw [iI_t (by omega) (by omega)]; omega) | decide | assumption) (by first | with_reducible assumption | omega | (rw [iI_t (by omega) (by omega)]; omega) | decide | assumption) (by first | with_reducible assumption | omega | (rw [iI_t (by omega) (by omega)]; omega) | decide | assumption) (by first | with_reducible assumption | omega | (rw [iI_t (by omega) (by omega)]; omega) | decide | assumption) (by first | with_reducible assumption | omega | (rw [iI_t (by omega) (by omega)]; omega) | decide | assumption) (by first | with_reducible assumption | omega | (rw [iI_t (by omega) (by omega)]; omega) | decide | assumption) H.size) (cwV 0 hts gwsMX4_term_1 rfl rfl rfl (by decide +kernel) ⟨by first | decide +kernel | (dsimp only [headSpec] <;> omega), by first | decide +kernel | (dsimp only [headSpec] <;> omega)⟩) (fz_preE (va_recv hK hP (ci := 4) (q0 := 0) rfl rfl) hP hK hD (fun a U g mk qE => qE.call) (fun U hU9 hW => by rw [hU9]; exact (((hE : CE A s s.heap).kept hS.2.1).narrow (fun q h => hFc q h)).warm hW)) rfl rfl hl.1 rfl (lv_room (Nat.le_of_ble_eq_true rfl)) dX4_term_79 ⟨by first | decide +kernel | (dsimp only [headSpec] <;> omega), by first | decide +kernel | (dsimp only [headSpec] <;> omega)⟩) hS (fun q _ h => hFc q h) hFc (fun q _ h => hFc q h) (fun E ce q9 u t9_ H locs ht hvm hw9 hB9 hz1 hk1 hS hc1 hc2 hc3 => ?_) (fun r39 u t9_ H locs ht hvm hw9 hB9 hz1 hk1 hS => ?_)
          · revert u hw9 hB9
            refine fz_p12 ?_
            intro iJ_used_39 iJ_depth_39 gJ_binder_39 iJ_binders_39 fF_tree_39 iT_fault_39 iT_place_39 iT_kind_39 iT_at_39 iT_number_39 jT_name_39 iT_next_39 hw9 hB9
            try dsimp only at hw9 hB9
            revert hB9
            refine fz_a2 ?_
            intro hEx hB9
            revert hw9
            refine fz_a6 ?_
            intro b_iJ_used_39 b_iJ_depth_39 b_iJ_binders_39 b_iT_at_39 b_iT_number_39 b_iT_next_39
            have hP : va_P (dC, dI) vwCl (WJ hJ aJ kJ hT hM hL (.ref dF_tree) iJ_used_39 iJ_depth_39 jJ_ownName gJ_binder_39 iJ_binders_39 iJ_firstSet iJ_secondSet ++ (WL hL aL kL hT hM (.ref dF_tree) iL_names gL_key fL_kind fL_one fL_two fL_base iL_params fL_paramOver dL_paramOver nL_params fL_paramUnder dL_paramUnder nL_pu gL_over gL_under fL_bound iL_nameAt iL_startAt iL_steps jL_scaleOver jL_scaleUnder ++ (WF hF aF kF dF_tree nF_tree fF_tree_39 ++ (WT hT aT kT fT_tape dT_tape nT_tape iT_length iT_fault_39 iT_place_39 iT_kind_39 iT_at_39 iT_number_39 jT_name_39 iT_next_39)))) H := fz_P ht hB9.1
            have hD := fz_sd hP (hB9.2.weaken (fun _ q _ h => hFc q.1 h)) rfl
            exact vx_out (fun x hx9 => (htab x hx9).elim) hlocks hc1 hc2 hc3 (fun t9_ ht hvm => ⟨(iJ_used_39, iJ_depth_39, gJ_binder_39, iJ_binders_39, fF_tree_39, iT_fault_39, iT_place_39, iT_kind_39, iT_at_39, iT_number_39, jT_name_39, iT_next_39), ⟨(b_iJ_used_39), (b_iJ_depth_39), (b_iJ_binders_39), (b_iT_at_39), (b_iT_number_39), (b_iT_next_39)⟩, ⟨(by have h9 := hEx; exact h9), by rw [ht]; exact hP, hD⟩, hS.F ht⟩) hS.2.2 (by decide +kernel) (by decide +kernel)
          revert u hw9 hB9
          refine fz_p12 ?_
          intro iJ_used_39 iJ_depth_39 gJ_binder_39 iJ_binders_39 fF_tree_39 iT_fault_39 iT_place_39 iT_kind_39 iT_at_39 iT_number_39 jT_name_39 iT_next_39 hw9 hB9
          try dsimp only at hw9 hB9
          revert hw9
          refine fz_a16 ?_
          intro b_iJ_used_39 b_iJ_depth_39 b_iJ_binders_39 b_iT_at_39 b_iT_number_39 b_iT_next_39 f39_0 f39_1 f39_2 f39_3 f39_4 f39_5 f39_6 f39_7 f39_8 f39_9
          have hz8 := hB9.2.2
          rw [ht] at hz8
          have hz9 : H.size ≤ s.heap.size + 0 := by rw [hz8]; exact hz0
          refine W.tight (cells2 := 0) (slots2 := 0) hz9 (nS_0 hz9) ?_
          clear hz8 hz9
          have hP : va_P (dC, dI) vwCl (WJ hJ aJ kJ hT hM hL (.ref dF_tree) iJ_used_39 iJ_depth_39 jJ_ownName gJ_binder_39 iJ_binders_39 iJ_firstSet iJ_secondSet ++ (WL hL aL kL hT hM (.ref dF_tree) iL_names gL_key fL_kind fL_one fL_two fL_base iL_params fL_paramOver dL_paramOver nL_params fL_paramUnder dL_paramUnder nL_pu gL_over gL_under fL_bound iL_nameAt iL_startAt iL_steps jL_scaleOver jL_scaleUnder ++ (WF hF aF kF dF_tree nF_tree fF_tree_39 ++ (WT hT aT kT fT_tape dT_tape nT_tape iT_length iT_fault_39 iT_place_39 iT_kind_39 iT_at_39 iT_number_39 jT_name_39 iT_next_39)))) H := fz_P ht hB9.1
          have hD := fz_sd hP (hB9.2.1.weaken (fun _ q _ h => hFc q.1 h)) rfl
          have hF2 := f39_1
          refine lv_istore hx hb dX4_term_82 hl (by decide) rfl (fun ls (hl : lv_has ls _ ([(6, .int r39), (5, .int iT_at_x22), (4, .int iT_kind_x22), (3, .int l3_x22), (2, .int l2_x22), (1, .int r1), (0, .ref (hJ 0))])) => ?_)
          refine lv_aload_n hx hb dX4_term_84 rfl (lv_at hl 6 rfl) ?_
          refine lv_iload_n hx hb dX4_term_85 rfl (lv_at hl 4 rfl) ?_
          refine lv_iload hx hb dX4_term_86 (lv_at hl 0 rfl) ?_
          refine lv_iload hx hb dX4_term_88 (lv_at hl 2 rfl) ?_
          refine lv_iload hx hb dX4_term_90 (lv_at hl 1 rfl) ?_
          have p9 := cj_4_0_2 (WJ hJ aJ kJ hT hM hL (.ref dF_tree) iJ_used_39 iJ_depth_39 jJ_ownName gJ_binder_39 iJ_binders_39 iJ_firstSet iJ_secondSet) (WL hL aL kL hT hM (.ref dF_tree) iL_names gL_key fL_kind fL_one fL_two fL_base iL_params fL_paramOver dL_paramOver nL_params fL_paramUnder dL_paramUnder nL_pu gL_over gL_under fL_bound iL_nameAt iL_startAt iL_steps jL_scaleOver jL_scaleUnder) (WF hF aF kF dF_tree nF_tree fF_tree_39) (WT hT aT kT fT_tape dT_tape nT_tape iT_length iT_fault_39 iT_place_39 iT_kind_39 iT_at_39 iT_number_39 jT_name_39 iT_next_39)
          have hPc := hP.mem (fun q h => p9.mem_iff.mpr (List.mem_append_left _ h))
          have hDc := (hD.perm p9).left
          have hKc : va_K (dC, dI) vwCl (tJ kJ ++ (tF kF)) _ := hK.sub [0, 11] rfl
          have hFc := freeG p9 hD hS hA
          refine va_callv (va_runV (As := [.int l2_x22, .int r39, .int iT_kind_x22, .int iT_at_x22]) (rest := []) ⟨hx, hb, hml, hown, hts⟩ (m_X4_link l dC dI hJ aJ kJ hT hM hL iJ_used_39 iJ_depth_39 jJ_ownName gJ_binder_39 iJ_binders_39 iJ_firstSet iJ_secondSet hF aF kF dF_tree nF_tree fF_tree_39 l2_x22 r39 iT_kind_x22 iT_at_x22 (b_iJ_used_39) (b_iJ_depth_39) (b_iJ_binders_39) (b_iJ_firstSet) (b_iJ_secondSet) (by first | exact b_nF_tree | with_reducible assumption | exact ⟨by omega, by omega⟩ | assumption) (by first | with_reducible assumption | omega | (rw [iI_t (by omega) (by omega)]; omega) | decide | assumption) (by first | with_reducible assumption | omega | (rw [iI_t (by omega) (by omega)]; omega) | decide | assumption) H.size) (cwV 4 hts gwsMX4_term_3 rfl rfl rfl (by decide +kernel) ⟨by first | decide +kernel | (dsimp only [headSpec] <;> omega), by first | decide +kernel | (dsimp only [headSpec] <;> omega)⟩) (fz_pre (va_recv hK hP (ci := 4) (q0 := 0) rfl rfl) hPc hKc hDc) rfl rfl hl.1 rfl (lv_room (Nat.le_of_ble_eq_true rfl)) dX4_term_92 ⟨by first | decide +kernel | (dsimp only [headSpec] <;> omega), by first | decide +kernel | (dsimp only [headSpec] <;> omega)⟩) hS (fun q _ h => hFc q h) hFc (fun fF_tree_40 t9_ H locs ht hvm hw9 hB9 hz1 hk1 hS => ?_)
          have f40_0 := hw9
          try dsimp only at f40_0
          have p8 := cj_4_0_2 (WJ hJ aJ kJ hT hM hL (.ref dF_tree) iJ_used_39 iJ_depth_39 jJ_ownName gJ_binder_39 iJ_binders_39 iJ_firstSet iJ_secondSet) (WL hL aL kL hT hM (.ref dF_tree) iL_names gL_key fL_kind fL_one fL_two fL_base iL_params fL_paramOver dL_paramOver nL_params fL_paramUnder dL_paramUnder nL_pu gL_over gL_under fL_bound iL_nameAt iL_startAt iL_steps jL_scaleOver jL_scaleUnder) (WF hF aF kF dF_tree nF_tree fF_tree_40) (WT hT aT kT fT_tape dT_tape nT_tape iT_length iT_fault_39 iT_place_39 iT_kind_39 iT_at_39 iT_number_39 jT_name_39 iT_next_39)
          obtain ⟨hP, hD⟩ := frameG p9 p8 hP hD hk1 hFc (fz_P ht hB9.1) hB9.2
          have hLk := f40_0
          refine lv_iload hx hb dX4_term_95 (lv_at hl 0 rfl) ?_
          refine lv_istore_n hx hb dX4_term_97 rfl hl (by decide) rfl (fun ls (hl : lv_has ls _ ([(2, .int r39), (6, .int r39), (5, .int iT_at_x22), (4, .int iT_kind_x22), (3, .int l3_x22), (1, .int r1), (0, .ref (hJ 0))])) => ?_)
          refine lv_iinc (v := (iI (l3_x22.toInt + 1))) hx hb dX4_term_98 hl (k := 4) rfl (iI_add2 (iI_of _) (by decide : (1 : Int32) = iI 1)) (by decide) rfl (fun ls (hl : lv_has ls _ ([(3, .int (iI (l3_x22.toInt + 1))), (2, .int r39), (6, .int r39), (5, .int iT_at_x22), (4, .int iT_kind_x22), (1, .int r1), (0, .ref (hJ 0))])) => ?_)
          refine lv_goto (tgt := 22) hx hb dX4_term_101 (by decide) ?_
          have hl : lv_has _ _ ([(3, .int (iI (l3_x22.toInt + 1))), (2, .int r39), (1, .int r1), (0, .ref (hJ 0))]) := lv_sub hl [0, 1, 5, 6] rfl
          exact ihx22 iJ_used_39 iJ_depth_39 gJ_binder_39 iJ_binders_39 fF_tree_40 iT_fault_39 iT_place_39 iT_kind_39 iT_at_39 iT_number_39 jT_name_39 iT_next_39 (iI (l3_x22.toInt + 1)) r39 _ _ _ (b_iJ_used_39) (b_iJ_depth_39) (b_iJ_binders_39) (b_iT_at_39) (b_iT_number_39) (b_iT_next_39) (iI_rng (Int.le_trans (by decide) (Int.add_le_add (b_l3_x22.1) (Int.le_refl _))) (by omega) (by decide) (by decide)) (show iT_at.toInt ≤ iT_at_39.toInt from by omega) (show iT_at_39.toInt ≤ iT_next_39.toInt from by first | done | assumption | omega | (rw [iI_t (by omega) (by omega)]; omega)) (show iT_next_39.toInt ≤ iT_length.toInt from by first | done | assumption | omega | (rw [iI_t (by omega) (by omega)]; omega)) (show (iT_kind_39.toInt = 44 ∨ iT_kind_39.toInt = 61) → iT_at_39.toInt < iT_next_39.toInt from by first | done | assumption | omega | (rw [iI_t (by omega) (by omega)]; omega)) (show iJ_used.toInt + 14 ≤ iJ_used_39.toInt from by omega) (show iJ_used_39.toInt ≤ ((nF_tree : Nat) : Int) from by first | done | assumption | omega | (rw [iI_t (by omega) (by omega)]; omega)) (show iJ_used_39.toInt % 7 = 0 from by omega) (show iJ_depth_39.toInt = iJ_depth.toInt from by omega) (show (UnL fF_tree fF_tree_40 fL_kind fL_one fL_two iL_names.toInt iJ_used.toInt 2 iJ_used_39.toInt [(twL fF_tree_40 (iJ_used.toInt + 3), 3, lv + 1), (r39.toInt, 3, lv + 1)]) ∧ twL fF_tree_40 (r39.toInt + 6) = 0 from UnL.step hun.1 hF2 (hLk) (by omega)) (show 7 ≤ r39.toInt ∧ r39.toInt + 7 ≤ iJ_used_39.toInt ∧ r39.toInt % 7 = 0 from by omega) (by have e9 : ((iI (l3_x22.toInt + 1))).toInt = (l3_x22.toInt + 1) := (iI_t (Int.le_trans (by decide) (Int.add_le_add (b_l3_x22.1) (Int.le_refl _))) (Int.le_trans (Int.add_le_add (b_l3_x22.2) (Int.le_refl _)) (by decide))); omega) hP hD hS hl
        · have t_38 : ¬ iT_kind_x22.toInt = 42 := toI_neq c_38 rfl (by decide : (42 : Int32).toInt = 42)
          refine lv_aload_n hx hb dX4_term_41 rfl (lv_at hl 3 rfl) ?_
          refine va_get (D := (dC, dI)) (ci := 4) (v := .ref (hT 0)) (C := RX4) (T := TX4) (N := 11) hx hb hts iwsMX4_term_in4 hown hK hP 0 rfl rfl 0 (by decide) (hts _ hm_m_X4_term_0) (fun _ h9 => h9) rfl dX4_term_42 ?_
          refine va_get (D := (dC, dI)) (ci := 9) (v := .int iT_kind_x22) (C := RX9) (T := TX9) (N := 9) hx hb hts iwsMX4_term_in9 hown hK hP 14 rfl rfl 4 (by decide) (hts _ hm_m_X4_term_1) (fun _ h9 => h9) rfl dX4_term_45 ?_
          refine lv_bipush (v := 47) hx hb dX4_term_48 (by decide) ?_
          refine lv_icmp_ne (tgt := 104) hx hb dX4_term_50 (by decide) (fun c_50 => ?_) (fun c_50 => ?_)
          · have t_50 : iT_kind_x22.toInt ≠ 47 := toI_ne c_50 rfl (by decide : (47 : Int32).toInt = 47)
            have hl : lv_has _ _ ([(3, .int l3_x22), (2, .int l2_x22), (1, .int r1), (0, .ref (hJ 0))]) := lv_sub hl [0, 1, 2, 3] rfl
            exact join4 _ _ _ _ ⟨rfl, hP, hD, hS, hl⟩
          · have t_50 : iT_kind_x22.toInt = 47 := toI_nne c_50 rfl (by decide : (47 : Int32).toInt = 47)
            refine lv_aload_n hx hb dX4_term_53 rfl (lv_at hl 3 rfl) ?_
            refine va_get (D := (dC, dI)) (ci := 4) (v := .ref (hT 0)) (C := RX4) (T := TX4) (N := 11) hx hb hts iwsMX4_term_in4 hown hK hP 0 rfl rfl 0 (by decide) (hts _ hm_m_X4_term_0) (fun _ h9 => h9) rfl dX4_term_54 ?_
            refine va_get (D := (dC, dI)) (ci := 9) (v := .int iT_kind_x22) (C := RX9) (T := TX9) (N := 9) hx hb hts iwsMX4_term_in9 hown hK hP 14 rfl rfl 4 (by decide) (hts _ hm_m_X4_term_1) (fun _ h9 => h9) rfl dX4_term_57 ?_
            refine lv_istore hx hb dX4_term_60 hl (by decide) rfl (fun ls (hl : lv_has ls _ ([(4, .int iT_kind_x22), (3, .int l3_x22), (2, .int l2_x22), (1, .int r1), (0, .ref (hJ 0))])) => ?_)
            refine lv_aload_n hx hb dX4_term_62 rfl (lv_at hl 4 rfl) ?_
            refine va_get (D := (dC, dI)) (ci := 4) (v := .ref (hT 0)) (C := RX4) (T := TX4) (N := 11) hx hb hts iwsMX4_term_in4 hown hK hP 0 rfl rfl 0 (by decide) (hts _ hm_m_X4_term_0) (fun _ h9 => h9) rfl dX4_term_63 ?_
            refine va_get (D := (dC, dI)) (ci := 9) (v := .int iT_at_x22) (C := RX9) (T := TX9) (N := 9) hx hb hts iwsMX4_term_in9 hown hK hP 14 rfl rfl 5 (by decide) (hts _ hm_m_X4_term_2) (fun _ h9 => h9) rfl dX4_term_66 ?_
            refine lv_istore hx hb dX4_term_69 hl (by decide) rfl (fun ls (hl : lv_has ls _ ([(5, .int iT_at_x22), (4, .int iT_kind_x22), (3, .int l3_x22), (2, .int l2_x22), (1, .int r1), (0, .ref (hJ 0))])) => ?_)
            refine lv_aload_n hx hb dX4_term_71 rfl (lv_at hl 5 rfl) ?_
            refine va_get (D := (dC, dI)) (ci := 4) (v := .ref (hT 0)) (C := RX4) (T := TX4) (N := 11) hx hb hts iwsMX4_term_in4 hown hK hP 0 rfl rfl 0 (by decide) (hts _ hm_m_X4_term_0) (fun _ h9 => h9) rfl dX4_term_72 ?_
            have p9 := cj_4_3 (WJ hJ aJ kJ hT hM hL (.ref dF_tree) iJ_used_x22 iJ_depth_x22 jJ_ownName gJ_binder_x22 iJ_binders_x22 iJ_firstSet iJ_secondSet) (WL hL aL kL hT hM (.ref dF_tree) iL_names gL_key fL_kind fL_one fL_two fL_base iL_params fL_paramOver dL_paramOver nL_params fL_paramUnder dL_paramUnder nL_pu gL_over gL_under fL_bound iL_nameAt iL_startAt iL_steps jL_scaleOver jL_scaleUnder) (WF hF aF kF dF_tree nF_tree fF_tree_x22) (WT hT aT kT fT_tape dT_tape nT_tape iT_length iT_fault_x22 iT_place_x22 iT_kind_x22 iT_at_x22 iT_number_x22 jT_name_x22 iT_next_x22)
            have hPc := hP.mem (fun q h => p9.mem_iff.mpr (List.mem_append_left _ h))
            have hDc := (hD.perm p9).left
            have hKc : va_K (dC, dI) vwCl (tT kT) _ := hK.sub [12] rfl
            have hFc := freeG p9 hD hS hA
            refine va_callv (va_runV (As := []) (rest := []) ⟨hx, hb, hml, hown, hts⟩ (m_X9_advance l hst dC dI hT aT kT fT_tape dT_tape nT_tape iT_length iT_fault_x22 iT_place_x22 iT_kind_x22 iT_at_x22 iT_number_x22 jT_name_x22 iT_next_x22 b_fT_tape (by first | exact b_nT_tape | with_reducible assumption | exact ⟨by omega, by omega⟩ | assumption) (b_iT_length) (b_iT_at_x22) (b_iT_number_x22) (b_iT_next_x22) (by first | with_reducible assumption | omega | assumption) (by first | with_reducible assumption | omega | (rw [iI_t (by omega) (by omega)]; omega) | decide | assumption) H.size) (cwV 0 hts gwsMX4_term_2 rfl rfl rfl (by decide +kernel) ⟨by first | decide +kernel | (dsimp only [headSpec] <;> omega), by first | decide +kernel | (dsimp only [headSpec] <;> omega)⟩) (fz_preE (va_recv hK hP (ci := 9) (q0 := 14) rfl rfl) hPc hKc hDc (fun a U g mk qE => qE.call) (fun U hU9 hW => by rw [hU9]; exact (((hE : CE A s s.heap).kept hS.2.1).narrow (fun q h => hFc q h)).warm hW)) rfl rfl hl.1 rfl (lv_room (Nat.le_of_ble_eq_true rfl)) dX4_term_75 ⟨by first | decide +kernel | (dsimp only [headSpec] <;> omega), by first | decide +kernel | (dsimp only [headSpec] <;> omega)⟩) hS (fun q _ h => hFc q h) hFc (fun u t9_ H locs ht hvm hw9 hB9 hz1 hk1 hS => ?_)
            revert u hw9 hB9
            refine fz_p5 ?_
            intro iT_kind_41 iT_at_41 iT_number_41 jT_name_41 iT_next_41 hw9 hB9
            try dsimp only at hw9 hB9
            revert hw9
            refine fz_a7 ?_
            intro b_iT_at_41 b_iT_number_41 b_iT_next_41 f41_0 f41_1 f41_2 f41_3
            have p8 := cj_4_3 (WJ hJ aJ kJ hT hM hL (.ref dF_tree) iJ_used_x22 iJ_depth_x22 jJ_ownName gJ_binder_x22 iJ_binders_x22 iJ_firstSet iJ_secondSet) (WL hL aL kL hT hM (.ref dF_tree) iL_names gL_key fL_kind fL_one fL_two fL_base iL_params fL_paramOver dL_paramOver nL_params fL_paramUnder dL_paramUnder nL_pu gL_over gL_under fL_bound iL_nameAt iL_startAt iL_steps jL_scaleOver jL_scaleUnder) (WF hF aF kF dF_tree nF_tree fF_tree_x22) (WT hT aT kT fT_tape dT_tape nT_tape iT_length iT_fault_x22 iT_place_x22 iT_kind_41 iT_at_41 iT_number_41 jT_name_41 iT_next_41)
            obtain ⟨hP, hD⟩ := frameG p9 p8 hP hD hk1 hFc (fz_P ht hB9.1) hB9.2
            refine lv_aload_n hx hb dX4_term_78 rfl (lv_at hl 5 rfl) ?_
            refine W.known (fun hz0 _ => ?_)
            have hFc := allFree hD hS hA
            refine vx_calli (vx_runV (As := []) (rest := []) ⟨hx, hb, hml, hown, hts⟩ (ih_X4_factor dC dI hJ aJ kJ hT hM hL iJ_used_x22 iJ_depth_x22 jJ_ownName gJ_binder_x22 iJ_binders_x22 iJ_firstSet iJ_secondSet aL kL iL_names gL_key fL_kind fL_one fL_two fL_base iL_params fL_paramOver dL_paramOver nL_params fL_paramUnder dL_paramUnder nL_pu gL_over gL_under fL_bound iL_nameAt iL_startAt iL_steps jL_scaleOver jL_scaleUnder hF aF kF dF_tree nF_tree fF_tree_x22 aT kT fT_tape dT_tape nT_tape iT_length iT_fault_x22 iT_place_x22 iT_kind_41 iT_at_41 iT_number_41 jT_name_41 iT_next_41 (lv + 1) (b_iJ_used_x22) (b_iJ_depth_x22) (b_iJ_binders_x22) (b_iJ_firstSet) (b_iJ_secondSet) (b_iL_names) b_fL_kind b_fL_two b_fL_base (b_iL_params) (by first | exact b_nL_params | with_reducible assumption | exact ⟨by omega, by omega⟩ | assumption) (by first | with_reducible assumption | omega | (rw [iI_t (by omega) (by omega)]; omega) | assumption) (by first | with_reducible assumption | omega | (rw [iI_t (by omega) (by omega)]; omega) | assumption) (by first | with_reducible assumption | omega | (rw [iI_t (by omega) (by omega)]; omega) | assumption) (by first | exact b_nF_tree | with_reducible assumption | exact ⟨by omega, by omega⟩ | assumption) b_fT_tape (by first | exact b_nT_tape | with_reducible assumption | exact ⟨by omega, by omega⟩ | assumption) (b_iT_length) (b_iT_at_41) (b_iT_number_41) (b_iT_next_41) (by first | with_reducible assumption | omega | assumption) (by first | with_reducible assumption | omega | (rw [iI_t (by omega) (by omega)]; omega) | decide | assumption) (by first | with_reducible assumption | omega | (rw [iI_t (by omega) (by omega)]; omega) | decide | assumption) (by first | with_reducible assumption | omega | (rw [iI_t (by omega) (by omega)]; omega) | decide | assumption) (by first | with_reducible assumption | omega | (rw [iI_t (by omega) (by omega)]; omega) | decide | assumption) (by first | with_reducible assumption | omega | (rw [iI_t (by omega) (by omega)]; omega) | decide | assumption) (by first | with_reducible assumption | omega | (rw [iI_t (by omega) (by omega)]; omega) | decide | assumption) (by first | with_reducible assumption | omega | (rw [iI_t (by omega) (by omega)]; omega) | decide | assumption) (by first | with_reducible assumption | omega | (rw [iI_t (by omega) (by omega)]; omega) | decide | assumption) H.size) (cwV 0 hts gwsMX4_term_1 rfl rfl rfl (by decide +kernel) ⟨by first | decide +kernel | (dsimp only [headSpec] <;> omega), by first | decide +kernel | (dsimp only [headSpec] <;> omega)⟩) (fz_preE (va_recv hK hP (ci := 4) (q0 := 0) rfl rfl) hP hK hD (fun a U g mk qE => qE.call) (fun U hU9 hW => by rw [hU9]; exact (((hE : CE A s s.heap).kept hS.2.1).narrow (fun q h => hFc q h)).warm hW)) rfl rfl hl.1 rfl (lv_room (Nat.le_of_ble_eq_true rfl)) dX4_term_79 ⟨by first | decide +kernel | (dsimp only [headSpec] <;> omega), by first | decide +kernel | (dsimp only [headSpec] <;> omega)⟩) hS (fun q _ h => hFc q h) hFc (fun q _ h => hFc q h) (fun E ce q9 u t9_ H locs ht hvm hw9 hB9 hz1 hk1 hS hc1 hc2 hc3 => ?_) (fun r42 u t9_ H locs ht hvm hw9 hB9 hz1 hk1 hS => ?_)
            · revert u hw9 hB9
              refine fz_p12 ?_
              intro iJ_used_42 iJ_depth_42 gJ_binder_42 iJ_binders_42 fF_tree_42 iT_fault_42 iT_place_42 iT_kind_42 iT_at_42 iT_number_42 jT_name_42 iT_next_42 hw9 hB9
              try dsimp only at hw9 hB9
              revert hB9
              refine fz_a2 ?_
              intro hEx hB9
              revert hw9
              refine fz_a6 ?_
              intro b_iJ_used_42 b_iJ_depth_42 b_iJ_binders_42 b_iT_at_42 b_iT_number_42 b_iT_next_42
              have hP : va_P (dC, dI) vwCl (WJ hJ aJ kJ hT hM hL (.ref dF_tree) iJ_used_42 iJ_depth_42 jJ_ownName gJ_binder_42 iJ_binders_42 iJ_firstSet iJ_secondSet ++ (WL hL aL kL hT hM (.ref dF_tree) iL_names gL_key fL_kind fL_one fL_two fL_base iL_params fL_paramOver dL_paramOver nL_params fL_paramUnder dL_paramUnder nL_pu gL_over gL_under fL_bound iL_nameAt iL_startAt iL_steps jL_scaleOver jL_scaleUnder ++ (WF hF aF kF dF_tree nF_tree fF_tree_42 ++ (WT hT aT kT fT_tape dT_tape nT_tape iT_length iT_fault_42 iT_place_42 iT_kind_42 iT_at_42 iT_number_42 jT_name_42 iT_next_42)))) H := fz_P ht hB9.1
              have hD := fz_sd hP (hB9.2.weaken (fun _ q _ h => hFc q.1 h)) rfl
              exact vx_out (fun x hx9 => (htab x hx9).elim) hlocks hc1 hc2 hc3 (fun t9_ ht hvm => ⟨(iJ_used_42, iJ_depth_42, gJ_binder_42, iJ_binders_42, fF_tree_42, iT_fault_42, iT_place_42, iT_kind_42, iT_at_42, iT_number_42, jT_name_42, iT_next_42), ⟨(b_iJ_used_42), (b_iJ_depth_42), (b_iJ_binders_42), (b_iT_at_42), (b_iT_number_42), (b_iT_next_42)⟩, ⟨(by have h9 := hEx; exact h9), by rw [ht]; exact hP, hD⟩, hS.F ht⟩) hS.2.2 (by decide +kernel) (by decide +kernel)
            revert u hw9 hB9
            refine fz_p12 ?_
            intro iJ_used_42 iJ_depth_42 gJ_binder_42 iJ_binders_42 fF_tree_42 iT_fault_42 iT_place_42 iT_kind_42 iT_at_42 iT_number_42 jT_name_42 iT_next_42 hw9 hB9
            try dsimp only at hw9 hB9
            revert hw9
            refine fz_a16 ?_
            intro b_iJ_used_42 b_iJ_depth_42 b_iJ_binders_42 b_iT_at_42 b_iT_number_42 b_iT_next_42 f42_0 f42_1 f42_2 f42_3 f42_4 f42_5 f42_6 f42_7 f42_8 f42_9
            have hz8 := hB9.2.2
            rw [ht] at hz8
            have hz9 : H.size ≤ s.heap.size + 0 := by rw [hz8]; exact hz0
            refine W.tight (cells2 := 0) (slots2 := 0) hz9 (nS_0 hz9) ?_
            clear hz8 hz9
            have hP : va_P (dC, dI) vwCl (WJ hJ aJ kJ hT hM hL (.ref dF_tree) iJ_used_42 iJ_depth_42 jJ_ownName gJ_binder_42 iJ_binders_42 iJ_firstSet iJ_secondSet ++ (WL hL aL kL hT hM (.ref dF_tree) iL_names gL_key fL_kind fL_one fL_two fL_base iL_params fL_paramOver dL_paramOver nL_params fL_paramUnder dL_paramUnder nL_pu gL_over gL_under fL_bound iL_nameAt iL_startAt iL_steps jL_scaleOver jL_scaleUnder ++ (WF hF aF kF dF_tree nF_tree fF_tree_42 ++ (WT hT aT kT fT_tape dT_tape nT_tape iT_length iT_fault_42 iT_place_42 iT_kind_42 iT_at_42 iT_number_42 jT_name_42 iT_next_42)))) H := fz_P ht hB9.1
            have hD := fz_sd hP (hB9.2.1.weaken (fun _ q _ h => hFc q.1 h)) rfl
            have hF2 := f42_1
            refine lv_istore hx hb dX4_term_82 hl (by decide) rfl (fun ls (hl : lv_has ls _ ([(6, .int r42), (5, .int iT_at_x22), (4, .int iT_kind_x22), (3, .int l3_x22), (2, .int l2_x22), (1, .int r1), (0, .ref (hJ 0))])) => ?_)
            refine lv_aload_n hx hb dX4_term_84 rfl (lv_at hl 6 rfl) ?_
            refine lv_iload_n hx hb dX4_term_85 rfl (lv_at hl 4 rfl) ?_
            refine lv_iload hx hb dX4_term_86 (lv_at hl 0 rfl) ?_
            refine lv_iload hx hb dX4_term_88 (lv_at hl 2 rfl) ?_
            refine lv_iload hx hb dX4_term_90 (lv_at hl 1 rfl) ?_
            have p9 := cj_4_0_2 (WJ hJ aJ kJ hT hM hL (.ref dF_tree) iJ_used_42 iJ_depth_42 jJ_ownName gJ_binder_42 iJ_binders_42 iJ_firstSet iJ_secondSet) (WL hL aL kL hT hM (.ref dF_tree) iL_names gL_key fL_kind fL_one fL_two fL_base iL_params fL_paramOver dL_paramOver nL_params fL_paramUnder dL_paramUnder nL_pu gL_over gL_under fL_bound iL_nameAt iL_startAt iL_steps jL_scaleOver jL_scaleUnder) (WF hF aF kF dF_tree nF_tree fF_tree_42) (WT hT aT kT fT_tape dT_tape nT_tape iT_length iT_fault_42 iT_place_42 iT_kind_42 iT_at_42 iT_number_42 jT_name_42 iT_next_42)
            have hPc := hP.mem (fun q h => p9.mem_iff.mpr (List.mem_append_left _ h))
            have hDc := (hD.perm p9).left
            have hKc : va_K (dC, dI) vwCl (tJ kJ ++ (tF kF)) _ := hK.sub [0, 11] rfl
            have hFc := freeG p9 hD hS hA
            refine va_callv (va_runV (As := [.int l2_x22, .int r42, .int iT_kind_x22, .int iT_at_x22]) (rest := []) ⟨hx, hb, hml, hown, hts⟩ (m_X4_link l dC dI hJ aJ kJ hT hM hL iJ_used_42 iJ_depth_42 jJ_ownName gJ_binder_42 iJ_binders_42 iJ_firstSet iJ_secondSet hF aF kF dF_tree nF_tree fF_tree_42 l2_x22 r42 iT_kind_x22 iT_at_x22 (b_iJ_used_42) (b_iJ_depth_42) (b_iJ_binders_42) (b_iJ_firstSet) (b_iJ_secondSet) (by first | exact b_nF_tree | with_reducible assumption | exact ⟨by omega, by omega⟩ | assumption) (by first | with_reducible assumption | omega | (rw [iI_t (by omega) (by omega)]; omega) | decide | assumption) (by first | with_reducible assumption | omega | (rw [iI_t (by omega) (by omega)]; omega) | decide | assumption) H.size) (cwV 4 hts gwsMX4_term_3 rfl rfl rfl (by decide +kernel) ⟨by first | decide +kernel | (dsimp only [headSpec] <;> omega), by first | decide +kernel | (dsimp only [headSpec] <;> omega)⟩) (fz_pre (va_recv hK hP (ci := 4) (q0 := 0) rfl rfl) hPc hKc hDc) rfl rfl hl.1 rfl (lv_room (Nat.le_of_ble_eq_true rfl)) dX4_term_92 ⟨by first | decide +kernel | (dsimp only [headSpec] <;> omega), by first | decide +kernel | (dsimp only [headSpec] <;> omega)⟩) hS (fun q _ h => hFc q h) hFc (fun fF_tree_43 t9_ H locs ht hvm hw9 hB9 hz1 hk1 hS => ?_)
            have f43_0 := hw9
            try dsimp only at f43_0
            have p8 := cj_4_0_2 (WJ hJ aJ kJ hT hM hL (.ref dF_tree) iJ_used_42 iJ_depth_42 jJ_ownName gJ_binder_42 iJ_binders_42 iJ_firstSet iJ_secondSet) (WL hL aL kL hT hM (.ref dF_tree) iL_names gL_key fL_kind fL_one fL_two fL_base iL_params fL_paramOver dL_paramOver nL_params fL_paramUnder dL_paramUnder nL_pu gL_over gL_under fL_bound iL_nameAt iL_startAt iL_steps jL_scaleOver jL_scaleUnder) (WF hF aF kF dF_tree nF_tree fF_tree_43) (WT hT aT kT fT_tape dT_tape nT_tape iT_length iT_fault_42 iT_place_42 iT_kind_42 iT_at_42 iT_number_42 jT_name_42 iT_next_42)
            obtain ⟨hP, hD⟩ := frameG p9 p8 hP hD hk1 hFc (fz_P ht hB9.1) hB9.2
            have hLk := f43_0
            refine lv_iload hx hb dX4_term_95 (lv_at hl 0 rfl) ?_
            refine lv_istore_n hx hb dX4_term_97 rfl hl (by decide) rfl (fun ls (hl : lv_has ls _ ([(2, .int r42), (6, .int r42), (5, .int iT_at_x22), (4, .int iT_kind_x22), (3, .int l3_x22), (1, .int r1), (0, .ref (hJ 0))])) => ?_)
            refine lv_iinc (v := (iI (l3_x22.toInt + 1))) hx hb dX4_term_98 hl (k := 4) rfl (iI_add2 (iI_of _) (by decide : (1 : Int32) = iI 1)) (by decide) rfl (fun ls (hl : lv_has ls _ ([(3, .int (iI (l3_x22.toInt + 1))), (2, .int r42), (6, .int r42), (5, .int iT_at_x22), (4, .int iT_kind_x22), (1, .int r1), (0, .ref (hJ 0))])) => ?_)
            refine lv_goto (tgt := 22) hx hb dX4_term_101 (by decide) ?_
            have hl : lv_has _ _ ([(3, .int (iI (l3_x22.toInt + 1))), (2, .int r42), (1, .int r1), (0, .ref (hJ 0))]) := lv_sub hl [0, 1, 5, 6] rfl
            exact ihx22 iJ_used_42 iJ_depth_42 gJ_binder_42 iJ_binders_42 fF_tree_43 iT_fault_42 iT_place_42 iT_kind_42 iT_at_42 iT_number_42 jT_name_42 iT_next_42 (iI (l3_x22.toInt + 1)) r42 _ _ _ (b_iJ_used_42) (b_iJ_depth_42) (b_iJ_binders_42) (b_iT_at_42) (b_iT_number_42) (b_iT_next_42) (iI_rng (Int.le_trans (by decide) (Int.add_le_add (b_l3_x22.1) (Int.le_refl _))) (by omega) (by decide) (by decide)) (show iT_at.toInt ≤ iT_at_42.toInt from by omega) (show iT_at_42.toInt ≤ iT_next_42.toInt from by first | done | assumption | omega | (rw [iI_t (by omega) (by omega)]; omega)) (show iT_next_42.toInt ≤ iT_length.toInt from by first | done | assumption | omega | (rw [iI_t (by omega) (by omega)]; omega)) (show (iT_kind_42.toInt = 44 ∨ iT_kind_42.toInt = 61) → iT_at_42.toInt < iT_next_42.toInt from by first | done | assumption | omega | (rw [iI_t (by omega) (by omega)]; omega)) (show iJ_used.toInt + 14 ≤ iJ_used_42.toInt from by omega) (show iJ_used_42.toInt ≤ ((nF_tree : Nat) : Int) from by first | done | assumption | omega | (rw [iI_t (by omega) (by omega)]; omega)) (show iJ_used_42.toInt % 7 = 0 from by omega) (show iJ_depth_42.toInt = iJ_depth.toInt from by omega) (show (UnL fF_tree fF_tree_43 fL_kind fL_one fL_two iL_names.toInt iJ_used.toInt 2 iJ_used_42.toInt [(twL fF_tree_43 (iJ_used.toInt + 3), 3, lv + 1), (r42.toInt, 3, lv + 1)]) ∧ twL fF_tree_43 (r42.toInt + 6) = 0 from UnL.step hun.1 hF2 (hLk) (by omega)) (show 7 ≤ r42.toInt ∧ r42.toInt + 7 ≤ iJ_used_42.toInt ∧ r42.toInt % 7 = 0 from by omega) (by have e9 : ((iI (l3_x22.toInt + 1))).toInt = (l3_x22.toInt + 1) := (iI_t (Int.le_trans (by decide) (Int.add_le_add (b_l3_x22.1) (Int.le_refl _))) (Int.le_trans (Int.add_le_add (b_l3_x22.2) (Int.le_refl _)) (by decide))); omega) hP hD hS hl
    · rintro H locs ls stk ⟨rfl, hP, hD, hS, hl⟩
      refine lv_iload_n hx hb dX4_term_104 rfl (lv_at hl 2 rfl) ?_
      refine vx_ret ?_
      refine W.known (fun hz9 _ => ?_)
      refine W.widen (k := 1) (n := 6) (by decide +kernel) (by decide +kernel) ?_
      exact W.iret (v := r1) hx hb hr (fun t9_ ht hW => ⟨⟨r1, (iJ_used_x22, iJ_depth_x22, gJ_binder_x22, iJ_binders_x22, fF_tree_x22, iT_fault_x22, iT_place_x22, iT_kind_x22, iT_at_x22, iT_number_x22, jT_name_x22, iT_next_x22), rfl, ⟨b_iJ_used_x22, b_iJ_depth_x22, b_iJ_binders_x22, b_iT_at_x22, b_iT_number_x22, b_iT_next_x22, (by (try dsimp only); first | done | assumption | omega | (rw [iI_t (by omega) (by omega)]; omega)), (by (try dsimp only); exact (UnL.fin2 hun.1 (by omega))), (by (try dsimp only); first | done | assumption | omega | (rw [iI_t (by omega) (by omega)]; omega)), (by (try dsimp only); first | done | assumption | omega | (rw [iI_t (by omega) (by omega)]; omega)), (by (try dsimp only); first | done | assumption | omega | (rw [iI_t (by omega) (by omega)]; omega)), (by (try dsimp only); first | done | assumption | omega | (rw [iI_t (by omega) (by omega)]; omega)), (by (try dsimp only); omega), (by (try dsimp only); first | done | assumption | omega | (rw [iI_t (by omega) (by omega)]; omega)), (by (try dsimp only); first | done | assumption | omega | (rw [iI_t (by omega) (by omega)]; omega)), (by (try dsimp only); first | done | assumption | omega | (rw [iI_t (by omega) (by omega)]; omega))⟩, by rw [ht]; exact hP, hD, by rw [ht]; first | done | exact Nat.le_antisymm hz9 hS.1⟩, hS.F ht⟩) hS.2.2 dX4_term_105
end
section
theorem dX4_factor_0 : decode cX4_factor 0 = .ok (.aload_n 0, 1) := dk_42 (by decide +kernel)
theorem dX4_factor_1 : decode cX4_factor 1 = .ok (.iconst 0, 1) := dk_3 (by decide +kernel)
theorem dX4_factor_2 : decode cX4_factor 2 = .ok (.invokevirtual 233, 3) := dk_182 (by decide +kernel)
theorem dX4_factor_5 : decode cX4_factor 5 = .ok (.iconst 0, 1) := dk_3 (by decide +kernel)
theorem dX4_factor_6 : decode cX4_factor 6 = .ok (.istore_n 1, 1) := dk_60 (by decide +kernel)
theorem dX4_factor_7 : decode cX4_factor 7 = .ok (.aload_n 0, 1) := dk_42 (by decide +kernel)
theorem dX4_factor_8 : decode cX4_factor 8 = .ok (.getfield 19, 3) := dk_180 (by decide +kernel)
theorem dX4_factor_11 : decode cX4_factor 11 = .ok (.getfield 51, 3) := dk_180 (by decide +kernel)
theorem dX4_factor_14 : decode cX4_factor 14 = .ok (.lookupswitch 168 #[(1, 81), (2, 50), (40, 128), (45, 97), (268, 89)], 50) := by decide +kernel
theorem dX4_factor_64 : decode cX4_factor 64 = .ok (.aload_n 0, 1) := dk_42 (by decide +kernel)
theorem dX4_factor_65 : decode cX4_factor 65 = .ok (.iconst 3, 1) := dk_6 (by decide +kernel)
theorem dX4_factor_66 : decode cX4_factor 66 = .ok (.invokevirtual 217, 3) := dk_182 (by decide +kernel)
theorem dX4_factor_69 : decode cX4_factor 69 = .ok (.istore_n 1, 1) := dk_60 (by decide +kernel)
theorem dX4_factor_70 : decode cX4_factor 70 = .ok (.aload_n 0, 1) := dk_42 (by decide +kernel)
theorem dX4_factor_71 : decode cX4_factor 71 = .ok (.getfield 11, 3) := dk_180 (by decide +kernel)
theorem dX4_factor_74 : decode cX4_factor 74 = .ok (.iload_n 1, 1) := dk_27 (by decide +kernel)
theorem dX4_factor_75 : decode cX4_factor 75 = .ok (.iconst 3, 1) := dk_6 (by decide +kernel)
theorem dX4_factor_76 : decode cX4_factor 76 = .ok (.iadd, 1) := dk_96 (by decide +kernel)
theorem dX4_factor_77 : decode cX4_factor 77 = .ok (.aload_n 0, 1) := dk_42 (by decide +kernel)
theorem dX4_factor_78 : decode cX4_factor 78 = .ok (.getfield 19, 3) := dk_180 (by decide +kernel)
theorem dX4_factor_81 : decode cX4_factor 81 = .ok (.getfield 151, 3) := dk_180 (by decide +kernel)
theorem dX4_factor_84 : decode cX4_factor 84 = .ok (.iastore, 1) := dk_79 (by decide +kernel)
theorem dX4_factor_85 : decode cX4_factor 85 = .ok (.aload_n 0, 1) := dk_42 (by decide +kernel)
theorem dX4_factor_86 : decode cX4_factor 86 = .ok (.getfield 19, 3) := dk_180 (by decide +kernel)
theorem dX4_factor_89 : decode cX4_factor 89 = .ok (.invokevirtual 119, 3) := dk_182 (by decide +kernel)
theorem dX4_factor_92 : decode cX4_factor 92 = .ok (.goto 97, 3) := dk_167 (by decide +kernel)
theorem dX4_factor_95 : decode cX4_factor 95 = .ok (.aload_n 0, 1) := dk_42 (by decide +kernel)
theorem dX4_factor_96 : decode cX4_factor 96 = .ok (.invokevirtual 246, 3) := dk_182 (by decide +kernel)
theorem dX4_factor_99 : decode cX4_factor 99 = .ok (.istore_n 1, 1) := dk_60 (by decide +kernel)
theorem dX4_factor_100 : decode cX4_factor 100 = .ok (.goto 89, 3) := dk_167 (by decide +kernel)
theorem dX4_factor_103 : decode cX4_factor 103 = .ok (.aload_n 0, 1) := dk_42 (by decide +kernel)
theorem dX4_factor_104 : decode cX4_factor 104 = .ok (.invokevirtual 249, 3) := dk_182 (by decide +kernel)
theorem dX4_factor_107 : decode cX4_factor 107 = .ok (.istore_n 1, 1) := dk_60 (by decide +kernel)
theorem dX4_factor_108 : decode cX4_factor 108 = .ok (.goto 81, 3) := dk_167 (by decide +kernel)
theorem dX4_factor_111 : decode cX4_factor 111 = .ok (.aload_n 0, 1) := dk_42 (by decide +kernel)
theorem dX4_factor_112 : decode cX4_factor 112 = .ok (.bipush 6, 2) := dk_16 (by decide +kernel)
theorem dX4_factor_114 : decode cX4_factor 114 = .ok (.invokevirtual 217, 3) := dk_182 (by decide +kernel)
theorem dX4_factor_117 : decode cX4_factor 117 = .ok (.istore_n 1, 1) := dk_60 (by decide +kernel)
theorem dX4_factor_118 : decode cX4_factor 118 = .ok (.aload_n 0, 1) := dk_42 (by decide +kernel)
theorem dX4_factor_119 : decode cX4_factor 119 = .ok (.getfield 19, 3) := dk_180 (by decide +kernel)
theorem dX4_factor_122 : decode cX4_factor 122 = .ok (.invokevirtual 119, 3) := dk_182 (by decide +kernel)
theorem dX4_factor_125 : decode cX4_factor 125 = .ok (.aload_n 0, 1) := dk_42 (by decide +kernel)
theorem dX4_factor_126 : decode cX4_factor 126 = .ok (.invokevirtual 243, 3) := dk_182 (by decide +kernel)
theorem dX4_factor_129 : decode cX4_factor 129 = .ok (.istore_n 2, 1) := dk_61 (by decide +kernel)
theorem dX4_factor_130 : decode cX4_factor 130 = .ok (.aload_n 0, 1) := dk_42 (by decide +kernel)
theorem dX4_factor_131 : decode cX4_factor 131 = .ok (.getfield 11, 3) := dk_180 (by decide +kernel)
theorem dX4_factor_134 : decode cX4_factor 134 = .ok (.iload_n 1, 1) := dk_27 (by decide +kernel)
theorem dX4_factor_135 : decode cX4_factor 135 = .ok (.iconst 3, 1) := dk_6 (by decide +kernel)
theorem dX4_factor_136 : decode cX4_factor 136 = .ok (.iadd, 1) := dk_96 (by decide +kernel)
theorem dX4_factor_137 : decode cX4_factor 137 = .ok (.iload_n 2, 1) := dk_28 (by decide +kernel)
theorem dX4_factor_138 : decode cX4_factor 138 = .ok (.iastore, 1) := dk_79 (by decide +kernel)
theorem dX4_factor_139 : decode cX4_factor 139 = .ok (.goto 50, 3) := dk_167 (by decide +kernel)
theorem dX4_factor_142 : decode cX4_factor 142 = .ok (.aload_n 0, 1) := dk_42 (by decide +kernel)
theorem dX4_factor_143 : decode cX4_factor 143 = .ok (.bipush 7, 2) := dk_16 (by decide +kernel)
theorem dX4_factor_145 : decode cX4_factor 145 = .ok (.invokevirtual 217, 3) := dk_182 (by decide +kernel)
theorem dX4_factor_148 : decode cX4_factor 148 = .ok (.istore_n 1, 1) := dk_60 (by decide +kernel)
theorem dX4_factor_149 : decode cX4_factor 149 = .ok (.aload_n 0, 1) := dk_42 (by decide +kernel)
theorem dX4_factor_150 : decode cX4_factor 150 = .ok (.getfield 19, 3) := dk_180 (by decide +kernel)
theorem dX4_factor_153 : decode cX4_factor 153 = .ok (.invokevirtual 119, 3) := dk_182 (by decide +kernel)
theorem dX4_factor_156 : decode cX4_factor 156 = .ok (.aload_n 0, 1) := dk_42 (by decide +kernel)
theorem dX4_factor_157 : decode cX4_factor 157 = .ok (.invokevirtual 160, 3) := dk_182 (by decide +kernel)
theorem dX4_factor_160 : decode cX4_factor 160 = .ok (.istore_n 3, 1) := dk_62 (by decide +kernel)
theorem dX4_factor_161 : decode cX4_factor 161 = .ok (.aload_n 0, 1) := dk_42 (by decide +kernel)
theorem dX4_factor_162 : decode cX4_factor 162 = .ok (.getfield 11, 3) := dk_180 (by decide +kernel)
theorem dX4_factor_165 : decode cX4_factor 165 = .ok (.iload_n 1, 1) := dk_27 (by decide +kernel)
theorem dX4_factor_166 : decode cX4_factor 166 = .ok (.iconst 3, 1) := dk_6 (by decide +kernel)
theorem dX4_factor_167 : decode cX4_factor 167 = .ok (.iadd, 1) := dk_96 (by decide +kernel)
theorem dX4_factor_168 : decode cX4_factor 168 = .ok (.iload_n 3, 1) := dk_29 (by decide +kernel)
theorem dX4_factor_169 : decode cX4_factor 169 = .ok (.iastore, 1) := dk_79 (by decide +kernel)
theorem dX4_factor_170 : decode cX4_factor 170 = .ok (.aload_n 0, 1) := dk_42 (by decide +kernel)
theorem dX4_factor_171 : decode cX4_factor 171 = .ok (.getfield 19, 3) := dk_180 (by decide +kernel)
theorem dX4_factor_174 : decode cX4_factor 174 = .ok (.bipush 41, 2) := dk_16 (by decide +kernel)
theorem dX4_factor_176 : decode cX4_factor 176 = .ok (.invokevirtual 134, 3) := dk_182 (by decide +kernel)
theorem dX4_factor_179 : decode cX4_factor 179 = .ok (.goto 10, 3) := dk_167 (by decide +kernel)
theorem dX4_factor_182 : decode cX4_factor 182 = .ok (.aload_n 0, 1) := dk_42 (by decide +kernel)
theorem dX4_factor_183 : decode cX4_factor 183 = .ok (.getfield 19, 3) := dk_180 (by decide +kernel)
theorem dX4_factor_186 : decode cX4_factor 186 = .ok (.invokevirtual 92, 3) := dk_182 (by decide +kernel)
theorem dX4_factor_189 : decode cX4_factor 189 = .ok (.aload_n 0, 1) := dk_42 (by decide +kernel)
theorem dX4_factor_190 : decode cX4_factor 190 = .ok (.dup, 1) := dk_89 (by decide +kernel)
theorem dX4_factor_191 : decode cX4_factor 191 = .ok (.getfield 57, 3) := dk_180 (by decide +kernel)
theorem dX4_factor_194 : decode cX4_factor 194 = .ok (.iconst 1, 1) := dk_4 (by decide +kernel)
theorem dX4_factor_195 : decode cX4_factor 195 = .ok (.isub, 1) := dk_100 (by decide +kernel)
theorem dX4_factor_196 : decode cX4_factor 196 = .ok (.putfield 57, 3) := dk_181 (by decide +kernel)
theorem dX4_factor_199 : decode cX4_factor 199 = .ok (.iload_n 1, 1) := dk_27 (by decide +kernel)
theorem dX4_factor_200 : decode cX4_factor 200 = .ok (.ireturn, 1) := dk_172 (by decide +kernel)
theorem iwsMX4_factor_in4 : ∀ w ∈ wsX40, w ∈ wsMX4_factor := fun w h => List.mem_cons_of_mem _ (iwsGR_in4 w h)
theorem iwsMX4_factor_in9 : ∀ w ∈ wsX90, w ∈ wsMX4_factor := fun w h => List.mem_cons_of_mem _ (iwsGR_in9 w h)
theorem gwsMX4_factor_0 : GoodIn wsMX4_factor (wsV RX4 233 RX4 yX4_deeper wsMX4_deeper) := goodIn_sub (fun w h => List.mem_cons_of_mem _ (gwsGR_0 w h)) (gdV (by decide +kernel) gdwsMX4_deeper)
theorem gwsMX4_factor_1 : GoodIn wsMX4_factor (wsV RX4 246 RX4 yX4_named wsMX4_named) := goodIn_rec (hd := [.methodLink RX4 246 yX4_named, .instanceMethod yX4_named, .selects RX4 yX4_named yX4_named, .initialized RX4]) (by decide +kernel) (by decide +kernel) gdwsGR
theorem gwsMX4_factor_2 : GoodIn wsMX4_factor (wsV RX4 217 RX4 yX4_node wsMX4_node) := goodIn_sub (fun w h => List.mem_cons_of_mem _ (gwsGR_1 w h)) (gdV (by decide +kernel) gdwsMX4_node)
theorem gwsMX4_factor_3 : GoodIn wsMX4_factor (wsV RX4 119 RX9 yX9_advance wsMX9_advance) := goodIn_sub (fun w h => List.mem_cons_of_mem _ (gwsGR_2 w h)) (gdV (by decide +kernel) gdwsMX9_advance)
theorem gwsMX4_factor_4 : GoodIn wsMX4_factor (wsV RX4 160 RX4 yX4_linear wsMX4_linear) := goodIn_rec (hd := [.methodLink RX4 160 yX4_linear, .instanceMethod yX4_linear, .selects RX4 yX4_linear yX4_linear, .initialized RX4]) (by decide +kernel) (by decide +kernel) gdwsGR
theorem gwsMX4_factor_5 : GoodIn wsMX4_factor (wsV RX4 134 RX9 yX9_take wsMX9_take) := goodIn_sub (fun w h => List.mem_cons_of_mem _ (gwsGR_4 w h)) (gdV (by decide +kernel) gdwsMX9_take)
theorem gwsMX4_factor_6 : GoodIn wsMX4_factor (wsV RX4 243 RX4 yX4_factor wsMX4_factor) := goodIn_rec (hd := [.methodLink RX4 243 yX4_factor, .instanceMethod yX4_factor, .selects RX4 yX4_factor yX4_factor, .initialized RX4]) (by decide +kernel) (by decide +kernel) gdwsGR
theorem gwsMX4_factor_7 : GoodIn wsMX4_factor (wsV RX4 249 RX4 yX4_summed wsMX4_summed) := goodIn_rec (hd := [.methodLink RX4 249 yX4_summed, .instanceMethod yX4_summed, .selects RX4 yX4_summed yX4_summed, .initialized RX4]) (by decide +kernel) (by decide +kernel) gdwsGR
theorem gwsMX4_factor_8 : GoodIn wsMX4_factor (wsV RX4 92 RX9 yX9_failWord wsMX9_failWord) := goodIn_sub (fun w h => List.mem_cons_of_mem _ (gwsGR_5 w h)) (gdV (by decide +kernel) gdwsMX9_failWord)
theorem hm_m_X4_factor_0 : (.fieldLink RX4 19 "OptimaWorks$Reader" "words" "LOptimaWorks$Words;" : Cond) ∈ wsMX4_factor := by decide +kernel
theorem hm_m_X4_factor_1 : (.fieldLink RX4 11 "OptimaWorks$Reader" "tree" "[I" : Cond) ∈ wsMX4_factor := by decide +kernel
theorem hm_m_X4_factor_2 : (.fieldLink RX4 57 "OptimaWorks$Reader" "depth" "I" : Cond) ∈ wsMX4_factor := by decide +kernel
set_option maxHeartbeats 4000000 in
set_option maxRecDepth 100000 in
/-- a FACTOR read -/
theorem m_X4_factor (l : Launch) (hst : l.stackTraces = false) (ev : Nat) (ih_X4_named : Cm_X4_named l (ev + 1)) (ih_X4_linear : Cm_X4_linear l (ev)) (ih_X4_factor : Cm_X4_factor l (ev)) (ih_X4_summed : Cm_X4_summed l (ev + 1)) : Cm_X4_factor l (ev + 1) := by
  intro dC dI hJ aJ kJ hT hM hL iJ_used iJ_depth jJ_ownName gJ_binder iJ_binders iJ_firstSet iJ_secondSet aL kL iL_names gL_key fL_kind fL_one fL_two fL_base iL_params fL_paramOver dL_paramOver nL_params fL_paramUnder dL_paramUnder nL_pu gL_over gL_under fL_bound iL_nameAt iL_startAt iL_steps jL_scaleOver jL_scaleUnder hF aF kF dF_tree nF_tree fF_tree aT kT fT_tape dT_tape nT_tape iT_length iT_fault iT_place iT_kind iT_at iT_number jT_name iT_next lv b_iJ_used b_iJ_depth b_iJ_binders b_iJ_firstSet b_iJ_secondSet b_iL_names b_fL_kind b_fL_two b_fL_base b_iL_params b_nL_params b_nm b_pm b_pu b_nF_tree b_fT_tape b_nT_tape b_iT_length b_iT_at b_iT_number b_iT_next b_len hu1 hu2 hu7 hp1 hp2 hp3 hlv hdp sz
  refine vx_ofW (cc := cX4_factor) (maxL := 4) (ret := (some .int)) (by decide) rfl ?_
  intro p e s m args below meth c s₁ B hml htab hv
  obtain ⟨rfl, hsz, hP, hK, hD0, hE⟩ := hv
  have hx := B.exec
  have hb := B.bytes
  have hr := B.returns
  have hts := atoms_spec (ws := wsMX4_factor) B.pre
  have hown : s.vm.findClass RX4 = some m.cls := findClass_of_methodNamed B.named
  have hlocks := B.notSynchronized
  subst hsz
  have hD := hD0.self (sz := s.heap.size)
  generalize hAe : va_A (WJ hJ aJ kJ hT hM hL (.ref dF_tree) iJ_used iJ_depth jJ_ownName gJ_binder iJ_binders iJ_firstSet iJ_secondSet ++ (WL hL aL kL hT hM (.ref dF_tree) iL_names gL_key fL_kind fL_one fL_two fL_base iL_params fL_paramOver dL_paramOver nL_params fL_paramUnder dL_paramUnder nL_pu gL_over gL_under fL_bound iL_nameAt iL_startAt iL_steps jL_scaleOver jL_scaleUnder ++ (WF hF aF kF dF_tree nF_tree fF_tree ++ (WT hT aT kT fT_tape dT_tape nT_tape iT_length iT_fault iT_place iT_kind iT_at iT_number jT_name iT_next)))) s.heap.size = A at hD hE ⊢
  have hA : ∀ q : Nat, s.heap.size ≤ q → A q := fun q h => by rw [← hAe]; exact Or.inr h
  have hS : va_S A s.heap s.heap [] := va_S.rf
  have hl := lv_entry ([.ref (hJ 0)]) (n := 4) (Nat.le_of_ble_eq_true rfl)
  rw [lg_entry_eq]
  generalize (lg_sl ([.ref (hJ 0)]) ++ List.replicate (4 - (lg_sl ([.ref (hJ 0)])).length) Slot.unset).toArray = ls at hl ⊢
  have hl : lv_has ls 4 [(0, .ref (hJ 0))] := hl
  refine lv_aload_n hx hb dX4_factor_0 rfl (lv_at hl 0 rfl) ?_
  refine lv_iconst (v := 0) hx hb dX4_factor_1 (by decide) ?_
  refine W.known (fun hz0 _ => ?_)
  have p9 := cj_4_0_1_3 (WJ hJ aJ kJ hT hM hL (.ref dF_tree) iJ_used iJ_depth jJ_ownName gJ_binder iJ_binders iJ_firstSet iJ_secondSet) (WL hL aL kL hT hM (.ref dF_tree) iL_names gL_key fL_kind fL_one fL_two fL_base iL_params fL_paramOver dL_paramOver nL_params fL_paramUnder dL_paramUnder nL_pu gL_over gL_under fL_bound iL_nameAt iL_startAt iL_steps jL_scaleOver jL_scaleUnder) (WF hF aF kF dF_tree nF_tree fF_tree) (WT hT aT kT fT_tape dT_tape nT_tape iT_length iT_fault iT_place iT_kind iT_at iT_number jT_name iT_next)
  have hPc := hP.mem (fun q h => p9.mem_iff.mpr (List.mem_append_left _ h))
  have hDc := (hD.perm p9).left
  have hKc : va_K (dC, dI) vwCl (tJ kJ ++ (tL kL ++ (tT kT))) _ := hK.sub [0, 1, 2, 3, 4, 5, 6, 7, 8, 9, 10, 12] rfl
  have hFc := freeG p9 hD hS hA
  refine vx_callv (vx_runV (As := [.int 0]) (rest := []) ⟨hx, hb, hml, hown, hts⟩ (m_X4_deeper l hst dC dI hJ aJ kJ hT hM hL (.ref dF_tree) iJ_used iJ_depth jJ_ownName gJ_binder iJ_binders iJ_firstSet iJ_secondSet aL kL (.ref dF_tree) iL_names gL_key fL_kind fL_one fL_two fL_base iL_params fL_paramOver dL_paramOver nL_params fL_paramUnder dL_paramUnder nL_pu gL_over gL_under fL_bound iL_nameAt iL_startAt iL_steps jL_scaleOver jL_scaleUnder aT kT fT_tape dT_tape nT_tape iT_length iT_fault iT_place iT_kind iT_at iT_number jT_name iT_next 0 (b_iJ_used) (b_iJ_depth) (b_iJ_binders) (b_iJ_firstSet) (b_iJ_secondSet) (b_iL_names) b_fL_kind b_fL_two b_fL_base (b_iL_params) (by first | exact b_nL_params | with_reducible assumption | exact ⟨by omega, by omega⟩ | assumption) (by first | with_reducible assumption | omega | (rw [iI_t (by omega) (by omega)]; omega) | assumption) (by first | with_reducible assumption | omega | (rw [iI_t (by omega) (by omega)]; omega) | assumption) (by first | with_reducible assumption | omega | (rw [iI_t (by omega) (by omega)]; omega) | assumption) b_fT_tape (by first | exact b_nT_tape | with_reducible assumption | exact ⟨by omega, by omega⟩ | assumption) (b_iT_length) (b_iT_at) (b_iT_number) (b_iT_next) (by first | with_reducible assumption | omega | assumption) s.heap.size) (cwV 1 hts gwsMX4_factor_0 rfl rfl rfl (by decide +kernel) ⟨by first | decide +kernel | (dsimp only [headSpec] <;> omega), by first | decide +kernel | (dsimp only [headSpec] <;> omega)⟩) (fz_preE (va_recv hK hP (ci := 4) (q0 := 0) rfl rfl) hPc hKc hDc (fun a U g mk qE => qE.call) (fun U hU9 hW => by rw [hU9]; exact (((hE : CE A s s.heap).kept hS.2.1).narrow (fun q h => hFc q h)).warm hW)) rfl rfl hl.1 rfl (lv_room (Nat.le_of_ble_eq_true rfl)) dX4_factor_2 ⟨by first | decide +kernel | (dsimp only [headSpec] <;> omega), by first | decide +kernel | (dsimp only [headSpec] <;> omega)⟩) hS (fun q _ h => hFc q h) hFc (fun q _ h => hFc q h) (fun E ce q9 u t9_ H locs ht hvm hw9 hB9 hz1 hk1 hS hc1 hc2 hc3 => ?_) (fun u t9_ H locs ht hvm hw9 hB9 hz1 hk1 hS => ?_)
  · revert u hw9 hB9
    refine fz_p3 ?_
    intro iJ_depth_1 iT_fault_1 iT_place_1 hw9 hB9
    try dsimp only at hw9 hB9
    revert hB9
    refine fz_a2 ?_
    intro hEx hB9
    have b_iJ_depth_1 := hw9
    try dsimp only at b_iJ_depth_1
    have p8 := cj_4_0_1_3 (WJ hJ aJ kJ hT hM hL (.ref dF_tree) iJ_used iJ_depth_1 jJ_ownName gJ_binder iJ_binders iJ_firstSet iJ_secondSet) (WL hL aL kL hT hM (.ref dF_tree) iL_names gL_key fL_kind fL_one fL_two fL_base iL_params fL_paramOver dL_paramOver nL_params fL_paramUnder dL_paramUnder nL_pu gL_over gL_under fL_bound iL_nameAt iL_startAt iL_steps jL_scaleOver jL_scaleUnder) (WF hF aF kF dF_tree nF_tree fF_tree) (WT hT aT kT fT_tape dT_tape nT_tape iT_length iT_fault_1 iT_place_1 iT_kind iT_at iT_number jT_name iT_next)
    obtain ⟨hP, hD⟩ := frameG p9 p8 hP hD hk1 hFc (fz_P ht hB9.1) hB9.2
    exact vx_out (fun x hx9 => (htab x hx9).elim) hlocks hc1 hc2 hc3 (fun t9_ ht hvm => ⟨(iJ_used, iJ_depth_1, gJ_binder, iJ_binders, fF_tree, iT_fault_1, iT_place_1, iT_kind, iT_at, iT_number, jT_name, iT_next), ⟨(b_iJ_used), (by (try dsimp only); exact (by first | exact b_iJ_depth_1 | with_reducible assumption | exact ⟨by omega, by omega⟩ | assumption)), (b_iJ_binders), (b_iT_at), (b_iT_number), (b_iT_next)⟩, ⟨(by have h9 := hEx; exact h9), by rw [ht]; exact hP, hD⟩, hS.F ht⟩) hS.2.2 (by decide +kernel) (by decide +kernel)
  revert u hw9 hB9
  refine fz_p3 ?_
  intro iJ_depth_1 iT_fault_1 iT_place_1 hw9 hB9
  try dsimp only at hw9 hB9
  revert hw9
  refine fz_a2 ?_
  intro b_iJ_depth_1 f1_0
  have hz8 := hB9.2.2
  rw [ht] at hz8
  have hz9 : H.size ≤ s.heap.size + 0 := by rw [hz8]; exact hz0
  refine W.tight (cells2 := 0) (slots2 := 0) hz9 (nS_0 hz9) ?_
  clear hz8 hz9
  have p8 := cj_4_0_1_3 (WJ hJ aJ kJ hT hM hL (.ref dF_tree) iJ_used iJ_depth_1 jJ_ownName gJ_binder iJ_binders iJ_firstSet iJ_secondSet) (WL hL aL kL hT hM (.ref dF_tree) iL_names gL_key fL_kind fL_one fL_two fL_base iL_params fL_paramOver dL_paramOver nL_params fL_paramUnder dL_paramUnder nL_pu gL_over gL_under fL_bound iL_nameAt iL_startAt iL_steps jL_scaleOver jL_scaleUnder) (WF hF aF kF dF_tree nF_tree fF_tree) (WT hT aT kT fT_tape dT_tape nT_tape iT_length iT_fault_1 iT_place_1 iT_kind iT_at iT_number jT_name iT_next)
  obtain ⟨hP, hD⟩ := frameG p9 p8 hP hD hk1 hFc (fz_P ht hB9.1) hB9.2.1
  refine lv_iconst (v := 0) hx hb dX4_factor_5 (by decide) ?_
  refine lv_istore_n hx hb dX4_factor_6 rfl hl (by decide) rfl (fun ls (hl : lv_has ls _ ([(1, .int 0), (0, .ref (hJ 0))])) => ?_)
  refine lv_aload_n hx hb dX4_factor_7 rfl (lv_at hl 1 rfl) ?_
  refine va_get (D := (dC, dI)) (ci := 4) (v := .ref (hT 0)) (C := RX4) (T := TX4) (N := 11) hx hb hts iwsMX4_factor_in4 hown hK hP 0 rfl rfl 0 (by decide) (hts _ hm_m_X4_factor_0) (fun _ h9 => h9) rfl dX4_factor_8 ?_
  refine va_get (D := (dC, dI)) (ci := 9) (v := .int iT_kind) (C := RX9) (T := TX9) (N := 9) hx hb hts iwsMX4_factor_in9 hown hK hP 14 rfl rfl 4 (by decide) (hts (.fieldLink RX4 51 "OptimaWorks$Words" "kind" "I") (by decide +kernel)) (fun _ h9 => h9) rfl dX4_factor_11 ?_
  refine W.cut (pc := 189) (fun H locs ls stk => ∃ (iJ_used_j2 : Int32) (iJ_depth_j2 : Int32) (gJ_binder_j2 : Nat → Int64) (iJ_binders_j2 : Int32) (fF_tree_j2 : Nat → Int32) (iT_fault_j2 : Int32) (iT_place_j2 : Int32) (iT_kind_j2 : Int32) (iT_at_j2 : Int32) (iT_number_j2 : Int32) (jT_name_j2 : Int64) (iT_next_j2 : Int32) (l1_j2 : Int32), (0 ≤ iJ_used_j2.toInt ∧ iJ_used_j2.toInt ≤ 72200) ∧ (0 ≤ iJ_depth_j2.toInt ∧ iJ_depth_j2.toInt ≤ 25) ∧ (0 ≤ iJ_binders_j2.toInt ∧ iJ_binders_j2.toInt ≤ 64) ∧ (0 ≤ iT_at_j2.toInt ∧ iT_at_j2.toInt ≤ 1282) ∧ (0 ≤ iT_number_j2.toInt ∧ iT_number_j2.toInt ≤ 999999) ∧ (0 ≤ iT_next_j2.toInt ∧ iT_next_j2.toInt ≤ 1282) ∧ (iT_at.toInt ≤ iT_at_j2.toInt) ∧ (iT_at_j2.toInt ≤ iT_next_j2.toInt) ∧ (iT_next_j2.toInt ≤ iT_length.toInt) ∧ ((iT_kind_j2.toInt = 44 ∨ iT_kind_j2.toInt = 61) → iT_at_j2.toInt < iT_next_j2.toInt) ∧ (iJ_used.toInt + 7 ≤ iJ_used_j2.toInt) ∧ (iJ_used_j2.toInt ≤ ((nF_tree : Nat) : Int)) ∧ (iJ_used_j2.toInt % 7 = 0) ∧ (iJ_depth_j2.toInt = (lv : Int)) ∧ (FiL fF_tree fF_tree_j2 fL_kind fL_one fL_two iL_names.toInt iJ_used.toInt iJ_used_j2.toInt 3 lv) ∧ (l1_j2.toInt = iJ_used.toInt) ∧  stk = [] ∧ va_P (dC, dI) vwCl (WJ hJ aJ kJ hT hM hL (.ref dF_tree) iJ_used_j2 iJ_depth_j2 jJ_ownName gJ_binder_j2 iJ_binders_j2 iJ_firstSet iJ_secondSet ++ (WL hL aL kL hT hM (.ref dF_tree) iL_names gL_key fL_kind fL_one fL_two fL_base iL_params fL_paramOver dL_paramOver nL_params fL_paramUnder dL_paramUnder nL_pu gL_over gL_under fL_bound iL_nameAt iL_startAt iL_steps jL_scaleOver jL_scaleUnder ++ (WF hF aF kF dF_tree nF_tree fF_tree_j2 ++ (WT hT aT kT fT_tape dT_tape nT_tape iT_length iT_fault_j2 iT_place_j2 iT_kind_j2 iT_at_j2 iT_number_j2 jT_name_j2 iT_next_j2)))) H ∧ va_D A (WJ hJ aJ kJ hT hM hL (.ref dF_tree) iJ_used_j2 iJ_depth_j2 jJ_ownName gJ_binder_j2 iJ_binders_j2 iJ_firstSet iJ_secondSet ++ (WL hL aL kL hT hM (.ref dF_tree) iL_names gL_key fL_kind fL_one fL_two fL_base iL_params fL_paramOver dL_paramOver nL_params fL_paramUnder dL_paramUnder nL_pu gL_over gL_under fL_bound iL_nameAt iL_startAt iL_steps jL_scaleOver jL_scaleUnder ++ (WF hF aF kF dF_tree nF_tree fF_tree_j2 ++ (WT hT aT kT fT_tape dT_tape nT_tape iT_length iT_fault_j2 iT_place_j2 iT_kind_j2 iT_at_j2 iT_number_j2 jT_name_j2 iT_next_j2)))) ∧ va_S A s.heap H locs ∧ lv_has ls 4 [(1, .int l1_j2), (0, .ref (hJ 0))]) (fun join2 => ?_) ?_
  · by_cases s_14_1 : iT_kind = 1
    · have ts_14_1 : iT_kind.toInt = 1 := toI_eq s_14_1 rfl (by decide)
      refine lv_lookup (off := 81) (tgt := 95) hx hb dX4_factor_14 (by decide) (by rw [s_14_1]; decide) (by decide) ?_
      refine lv_aload_n hx hb dX4_factor_95 rfl (lv_at hl 1 rfl) ?_
      refine W.known (fun hz0 _ => ?_)
      have hFc := allFree hD hS hA
      refine vx_calli (vx_runV (As := []) (rest := []) ⟨hx, hb, hml, hown, hts⟩ (ih_X4_named dC dI hJ aJ kJ hT hM hL iJ_used iJ_depth_1 jJ_ownName gJ_binder iJ_binders iJ_firstSet iJ_secondSet aL kL iL_names gL_key fL_kind fL_one fL_two fL_base iL_params fL_paramOver dL_paramOver nL_params fL_paramUnder dL_paramUnder nL_pu gL_over gL_under fL_bound iL_nameAt iL_startAt iL_steps jL_scaleOver jL_scaleUnder hF aF kF dF_tree nF_tree fF_tree aT kT fT_tape dT_tape nT_tape iT_length iT_fault_1 iT_place_1 iT_kind iT_at iT_number jT_name iT_next lv (b_iJ_used) (b_iJ_depth_1) (b_iJ_binders) (b_iJ_firstSet) (b_iJ_secondSet) (b_iL_names) b_fL_kind b_fL_two b_fL_base (b_iL_params) (by first | exact b_nL_params | with_reducible assumption | exact ⟨by omega, by omega⟩ | assumption) (by first | with_reducible assumption | omega | (rw [iI_t (by omega) (by omega)]; omega) | assumption) (by first | with_reducible assumption | omega | (rw [iI_t (by omega) (by omega)]; omega) | assumption) (by first | with_reducible assumption | omega | (rw [iI_t (by omega) (by omega)]; omega) | assumption) (by first | exact b_nF_tree | with_reducible assumption | exact ⟨by omega, by omega⟩ | assumption) b_fT_tape (by first | exact b_nT_tape | with_reducible assumption | exact ⟨by omega, by omega⟩ | assumption) (b_iT_length) (b_iT_at) (b_iT_number) (b_iT_next) (by first | with_reducible assumption | omega | assumption) (by first | with_reducible assumption | omega | (rw [iI_t (by omega) (by omega)]; omega) | decide | assumption) (by first | with_reducible assumption | omega | (rw [iI_t (by omega) (by omega)]; omega) | decide | assumption) (by first | with_reducible assumption | omega | (rw [iI_t (by omega) (by omega)]; omega) | decide | assumption) (by first | with_reducible assumption | omega | (rw [iI_t (by omega) (by omega)]; omega) | decide | assumption) (by first | with_reducible assumption | omega | (rw [iI_t (by omega) (by omega)]; omega) | decide | assumption) (by first | with_reducible assumption | omega | (rw [iI_t (by omega) (by omega)]; omega) | decide | assumption) (by first | with_reducible assumption | omega | (rw [iI_t (by omega) (by omega)]; omega) | decide | assumption) (by first | with_reducible assumption | omega | (rw [iI_t (by omega) (by omega)]; omega) | decide | assumption) H.size) (cwV 0 hts gwsMX4_factor_1 rfl rfl rfl (by decide +kernel) ⟨by first | decide +kernel | (dsimp only [headSpec] <;> omega), by first | decide +kernel | (dsimp only [headSpec] <;> omega)⟩) (fz_preE (va_recv hK hP (ci := 4) (q0 := 0) rfl rfl) hP hK hD (fun a U g mk qE => qE.call) (fun U hU9 hW => by rw [hU9]; exact (((hE : CE A s s.heap).kept hS.2.1).narrow (fun q h => hFc q h)).warm hW)) rfl rfl hl.1 rfl (lv_room (Nat.le_of_ble_eq_true rfl)) dX4_factor_96 ⟨by first | decide +kernel | (dsimp only [headSpec] <;> omega), by first | decide +kernel | (dsimp only [headSpec] <;> omega)⟩) hS (fun q _ h => hFc q h) hFc (fun q _ h => hFc q h) (fun E ce q9 u t9_ H locs ht hvm hw9 hB9 hz1 hk1 hS hc1 hc2 hc3 => ?_) (fun r20 u t9_ H locs ht hvm hw9 hB9 hz1 hk1 hS => ?_)
      · revert u hw9 hB9
        refine fz_p12 ?_
        intro iJ_used_20 iJ_depth_20 gJ_binder_20 iJ_binders_20 fF_tree_20 iT_fault_20 iT_place_20 iT_kind_20 iT_at_20 iT_number_20 jT_name_20 iT_next_20 hw9 hB9
        try dsimp only at hw9 hB9
        revert hB9
        refine fz_a2 ?_
        intro hEx hB9
        revert hw9
        refine fz_a6 ?_
        intro b_iJ_used_20 b_iJ_depth_20 b_iJ_binders_20 b_iT_at_20 b_iT_number_20 b_iT_next_20
        have hP : va_P (dC, dI) vwCl (WJ hJ aJ kJ hT hM hL (.ref dF_tree) iJ_used_20 iJ_depth_20 jJ_ownName gJ_binder_20 iJ_binders_20 iJ_firstSet iJ_secondSet ++ (WL hL aL kL hT hM (.ref dF_tree) iL_names gL_key fL_kind fL_one fL_two fL_base iL_params fL_paramOver dL_paramOver nL_params fL_paramUnder dL_paramUnder nL_pu gL_over gL_under fL_bound iL_nameAt iL_startAt iL_steps jL_scaleOver jL_scaleUnder ++ (WF hF aF kF dF_tree nF_tree fF_tree_20 ++ (WT hT aT kT fT_tape dT_tape nT_tape iT_length iT_fault_20 iT_place_20 iT_kind_20 iT_at_20 iT_number_20 jT_name_20 iT_next_20)))) H := fz_P ht hB9.1
        have hD := fz_sd hP (hB9.2.weaken (fun _ q _ h => hFc q.1 h)) rfl
        exact vx_out (fun x hx9 => (htab x hx9).elim) hlocks hc1 hc2 hc3 (fun t9_ ht hvm => ⟨(iJ_used_20, iJ_depth_20, gJ_binder_20, iJ_binders_20, fF_tree_20, iT_fault_20, iT_place_20, iT_kind_20, iT_at_20, iT_number_20, jT_name_20, iT_next_20), ⟨(b_iJ_used_20), (b_iJ_depth_20), (b_iJ_binders_20), (b_iT_at_20), (b_iT_number_20), (b_iT_next_20)⟩, ⟨(by have h9 := hEx; exact h9), by rw [ht]; exact hP, hD⟩, hS.F ht⟩) hS.2.2 (by decide +kernel) (by decide +kernel)
      revert u hw9 hB9
      refine fz_p12 ?_
      intro iJ_used_20 iJ_depth_20 gJ_binder_20 iJ_binders_20 fF_tree_20 iT_fault_20 iT_place_20 iT_kind_20 iT_at_20 iT_number_20 jT_name_20 iT_next_20 hw9 hB9
      try dsimp only at hw9 hB9
      revert hw9
      refine fz_a16 ?_
      intro b_iJ_used_20 b_iJ_depth_20 b_iJ_binders_20 b_iT_at_20 b_iT_number_20 b_iT_next_20 f20_0 f20_1 f20_2 f20_3 f20_4 f20_5 f20_6 f20_7 f20_8 f20_9
      have hz8 := hB9.2.2
      rw [ht] at hz8
      have hz9 : H.size ≤ s.heap.size + 0 := by rw [hz8]; exact hz0
      refine W.tight (cells2 := 0) (slots2 := 0) hz9 (nS_0 hz9) ?_
      clear hz8 hz9
      have hP : va_P (dC, dI) vwCl (WJ hJ aJ kJ hT hM hL (.ref dF_tree) iJ_used_20 iJ_depth_20 jJ_ownName gJ_binder_20 iJ_binders_20 iJ_firstSet iJ_secondSet ++ (WL hL aL kL hT hM (.ref dF_tree) iL_names gL_key fL_kind fL_one fL_two fL_base iL_params fL_paramOver dL_paramOver nL_params fL_paramUnder dL_paramUnder nL_pu gL_over gL_under fL_bound iL_nameAt iL_startAt iL_steps jL_scaleOver jL_scaleUnder ++ (WF hF aF kF dF_tree nF_tree fF_tree_20 ++ (WT hT aT kT fT_tape dT_tape nT_tape iT_length iT_fault_20 iT_place_20 iT_kind_20 iT_at_20 iT_number_20 jT_name_20 iT_next_20)))) H := fz_P ht hB9.1
      have hD := fz_sd hP (hB9.2.1.weaken (fun _ q _ h => hFc q.1 h)) rfl
      have hF1 := f20_1
      refine lv_istore_n hx hb dX4_factor_99 rfl hl (by decide) rfl (fun ls (hl : lv_has ls _ ([(1, .int r20), (0, .ref (hJ 0))])) => ?_)
      refine lv_goto (tgt := 189) hx hb dX4_factor_100 (by decide) ?_
      have hl : lv_has _ _ ([(1, .int r20), (0, .ref (hJ 0))]) := lv_sub hl [0, 1] rfl
      exact join2 _ _ _ _ ⟨iJ_used_20, iJ_depth_20, gJ_binder_20, iJ_binders_20, fF_tree_20, iT_fault_20, iT_place_20, iT_kind_20, iT_at_20, iT_number_20, jT_name_20, iT_next_20, r20, (b_iJ_used_20), (b_iJ_depth_20), (b_iJ_binders_20), (b_iT_at_20), (b_iT_number_20), (b_iT_next_20), (show iT_at.toInt ≤ iT_at_20.toInt from by omega), (show iT_at_20.toInt ≤ iT_next_20.toInt from by first | done | assumption | omega | (rw [iI_t (by omega) (by omega)]; omega)), (show iT_next_20.toInt ≤ iT_length.toInt from by first | done | assumption | omega | (rw [iI_t (by omega) (by omega)]; omega)), (show (iT_kind_20.toInt = 44 ∨ iT_kind_20.toInt = 61) → iT_at_20.toInt < iT_next_20.toInt from by first | done | assumption | omega | (rw [iI_t (by omega) (by omega)]; omega)), (show iJ_used.toInt + 7 ≤ iJ_used_20.toInt from by omega), (show iJ_used_20.toInt ≤ ((nF_tree : Nat) : Int) from by first | done | assumption | omega | (rw [iI_t (by omega) (by omega)]; omega)), (show iJ_used_20.toInt % 7 = 0 from by omega), (show iJ_depth_20.toInt = (lv : Int) from by omega), (show FiL fF_tree fF_tree_20 fL_kind fL_one fL_two iL_names.toInt iJ_used.toInt iJ_used_20.toInt 3 lv from by first | exact hF1 | exact FiL.leaf hNw hu1 hu7 (by omega) hx (by omega) (by omega) (fun V _ h9 => nd3 h9) | exact FiL.one hNw hu1 hu7 (by omega) (by omega) hF1 hx (by omega) (by omega) (fun V h8 h9 => nd6 h9 h8) | exact FiL.one hNw hu1 hu7 (by omega) (by omega) hF1 hx (by omega) (by omega) (fun V h8 h9 => nd7 h9 h8)), (show r20.toInt = iJ_used.toInt from by omega), rfl, hP, hD, hS, hl⟩
    · have ts_14_1 : ¬ iT_kind.toInt = 1 := toI_neq s_14_1 rfl (by decide)
      by_cases s_14_2 : iT_kind = 2
      · have ts_14_2 : iT_kind.toInt = 2 := toI_eq s_14_2 rfl (by decide)
        refine lv_lookup (off := 50) (tgt := 64) hx hb dX4_factor_14 (by decide) (by rw [s_14_2]; decide) (by decide) ?_
        refine lv_aload_n hx hb dX4_factor_64 rfl (lv_at hl 1 rfl) ?_
        refine lv_iconst (v := 3) hx hb dX4_factor_65 (by decide) ?_
        refine W.known (fun hz0 _ => ?_)
        have p9 := cj_4_0_2_3 (WJ hJ aJ kJ hT hM hL (.ref dF_tree) iJ_used iJ_depth_1 jJ_ownName gJ_binder iJ_binders iJ_firstSet iJ_secondSet) (WL hL aL kL hT hM (.ref dF_tree) iL_names gL_key fL_kind fL_one fL_two fL_base iL_params fL_paramOver dL_paramOver nL_params fL_paramUnder dL_paramUnder nL_pu gL_over gL_under fL_bound iL_nameAt iL_startAt iL_steps jL_scaleOver jL_scaleUnder) (WF hF aF kF dF_tree nF_tree fF_tree) (WT hT aT kT fT_tape dT_tape nT_tape iT_length iT_fault_1 iT_place_1 iT_kind iT_at iT_number jT_name iT_next)
        have hPc := hP.mem (fun q h => p9.mem_iff.mpr (List.mem_append_left _ h))
        have hDc := (hD.perm p9).left
        have hKc : va_K (dC, dI) vwCl (tJ kJ ++ (tF kF ++ (tT kT))) _ := hK.sub [0, 11, 12] rfl
        have hFc := freeG p9 hD hS hA
        refine vx_calli (vx_runV (As := [.int 3]) (rest := []) ⟨hx, hb, hml, hown, hts⟩ (m_X4_node l hst dC dI hJ aJ kJ hT hM hL iJ_used iJ_depth_1 jJ_ownName gJ_binder iJ_binders iJ_firstSet iJ_secondSet hF aF kF dF_tree nF_tree fF_tree aT kT fT_tape dT_tape nT_tape iT_length iT_fault_1 iT_place_1 iT_kind iT_at iT_number jT_name iT_next 3 (b_iJ_used) (b_iJ_depth_1) (b_iJ_binders) (b_iJ_firstSet) (b_iJ_secondSet) (by first | exact b_nF_tree | with_reducible assumption | exact ⟨by omega, by omega⟩ | assumption) b_fT_tape (by first | exact b_nT_tape | with_reducible assumption | exact ⟨by omega, by omega⟩ | assumption) (b_iT_length) (b_iT_at) (b_iT_number) (b_iT_next) (by first | with_reducible assumption | omega | assumption) (by first | with_reducible assumption | omega | (rw [iI_t (by omega) (by omega)]; omega) | decide | assumption) (by first | with_reducible assumption | omega | (rw [iI_t (by omega) (by omega)]; omega) | decide | assumption) (by first | with_reducible assumption | omega | (rw [iI_t (by omega) (by omega)]; omega) | decide | assumption) H.size) (cwV 1 hts gwsMX4_factor_2 rfl rfl rfl (by decide +kernel) ⟨by first | decide +kernel | (dsimp only [headSpec] <;> omega), by first | decide +kernel | (dsimp only [headSpec] <;> omega)⟩) (fz_preE (va_recv hK hP (ci := 4) (q0 := 0) rfl rfl) hPc hKc hDc (fun a U g mk qE => qE.call) (fun U hU9 hW => by rw [hU9]; exact (((hE : CE A s s.heap).kept hS.2.1).narrow (fun q h => hFc q h)).warm hW)) rfl rfl hl.1 rfl (lv_room (Nat.le_of_ble_eq_true rfl)) dX4_factor_66 ⟨by first | decide +kernel | (dsimp only [headSpec] <;> omega), by first | decide +kernel | (dsimp only [headSpec] <;> omega)⟩) hS (fun q _ h => hFc q h) hFc (fun q _ h => hFc q h) (fun E ce q9 u t9_ H locs ht hvm hw9 hB9 hz1 hk1 hS hc1 hc2 hc3 => ?_) (fun r21 u t9_ H locs ht hvm hw9 hB9 hz1 hk1 hS => ?_)
        · revert u hw9 hB9
          refine fz_p4 ?_
          intro iJ_used_21 fF_tree_21 iT_fault_21 iT_place_21 hw9 hB9
          try dsimp only at hw9 hB9
          revert hB9
          refine fz_a2 ?_
          intro hEx hB9
          have b_iJ_used_21 := hw9
          try dsimp only at b_iJ_used_21
          have p8 := cj_4_0_2_3 (WJ hJ aJ kJ hT hM hL (.ref dF_tree) iJ_used_21 iJ_depth_1 jJ_ownName gJ_binder iJ_binders iJ_firstSet iJ_secondSet) (WL hL aL kL hT hM (.ref dF_tree) iL_names gL_key fL_kind fL_one fL_two fL_base iL_params fL_paramOver dL_paramOver nL_params fL_paramUnder dL_paramUnder nL_pu gL_over gL_under fL_bound iL_nameAt iL_startAt iL_steps jL_scaleOver jL_scaleUnder) (WF hF aF kF dF_tree nF_tree fF_tree_21) (WT hT aT kT fT_tape dT_tape nT_tape iT_length iT_fault_21 iT_place_21 iT_kind iT_at iT_number jT_name iT_next)
          obtain ⟨hP, hD⟩ := frameG p9 p8 hP hD hk1 hFc (fz_P ht hB9.1) hB9.2
          exact vx_out (fun x hx9 => (htab x hx9).elim) hlocks hc1 hc2 hc3 (fun t9_ ht hvm => ⟨(iJ_used_21, iJ_depth_1, gJ_binder, iJ_binders, fF_tree_21, iT_fault_21, iT_place_21, iT_kind, iT_at, iT_number, jT_name, iT_next), ⟨(by (try dsimp only); exact (by first | exact b_iJ_used_21 | with_reducible assumption | exact ⟨by omega, by omega⟩ | assumption)), (b_iJ_depth_1), (b_iJ_binders), (b_iT_at), (b_iT_number), (b_iT_next)⟩, ⟨(by have h9 := hEx; exact h9), by rw [ht]; exact hP, hD⟩, hS.F ht⟩) hS.2.2 (by decide +kernel) (by decide +kernel)
        revert u hw9 hB9
        refine fz_p4 ?_
        intro iJ_used_21 fF_tree_21 iT_fault_21 iT_place_21 hw9 hB9
        try dsimp only at hw9 hB9
        revert hw9
        refine fz_a5 ?_
        intro b_iJ_used_21 f21_0 f21_1 f21_2 f21_3
        have hz8 := hB9.2.2
        rw [ht] at hz8
        have hz9 : H.size ≤ s.heap.size + 0 := by rw [hz8]; exact hz0
        refine W.tight (cells2 := 0) (slots2 := 0) hz9 (nS_0 hz9) ?_
        clear hz8 hz9
        have p8 := cj_4_0_2_3 (WJ hJ aJ kJ hT hM hL (.ref dF_tree) iJ_used_21 iJ_depth_1 jJ_ownName gJ_binder iJ_binders iJ_firstSet iJ_secondSet) (WL hL aL kL hT hM (.ref dF_tree) iL_names gL_key fL_kind fL_one fL_two fL_base iL_params fL_paramOver dL_paramOver nL_params fL_paramUnder dL_paramUnder nL_pu gL_over gL_under fL_bound iL_nameAt iL_startAt iL_steps jL_scaleOver jL_scaleUnder) (WF hF aF kF dF_tree nF_tree fF_tree_21) (WT hT aT kT fT_tape dT_tape nT_tape iT_length iT_fault_21 iT_place_21 iT_kind iT_at iT_number jT_name iT_next)
        obtain ⟨hP, hD⟩ := frameG p9 p8 hP hD hk1 hFc (fz_P ht hB9.1) hB9.2.1
        have hNw := f21_3
        refine lv_istore_n hx hb dX4_factor_69 rfl hl (by decide) rfl (fun ls (hl : lv_has ls _ ([(1, .int r21), (0, .ref (hJ 0))])) => ?_)
        refine lv_aload_n hx hb dX4_factor_70 rfl (lv_at hl 1 rfl) ?_
        refine va_get (D := (dC, dI)) (ci := 4) (v := .ref dF_tree) (C := RX4) (T := TX4) (N := 11) hx hb hts iwsMX4_factor_in4 hown hK hP 0 rfl rfl 3 (by decide) (hts _ hm_m_X4_factor_1) (fun _ h9 => h9) rfl dX4_factor_71 ?_
        refine lv_iload_n hx hb dX4_factor_74 rfl (lv_at hl 0 rfl) ?_
        refine lv_iconst (v := 3) hx hb dX4_factor_75 (by decide) ?_
        refine lv_iadd hx hb dX4_factor_76 ?_
        refine lv_topi (fun y22 hy22 => ?_)
        obtain rfl : (iI (r21.toInt + 3)) = y22 := (hy22.trans (iI_add2 (iI_of _) (by decide : (3 : Int32) = iI 3))).symm
        refine lv_aload_n hx hb dX4_factor_77 rfl (lv_at hl 1 rfl) ?_
        refine va_get (D := (dC, dI)) (ci := 4) (v := .ref (hT 0)) (C := RX4) (T := TX4) (N := 11) hx hb hts iwsMX4_factor_in4 hown hK hP 0 rfl rfl 0 (by decide) (hts _ hm_m_X4_factor_0) (fun _ h9 => h9) rfl dX4_factor_78 ?_
        refine va_get (D := (dC, dI)) (ci := 9) (v := .int iT_number) (C := RX9) (T := TX9) (N := 9) hx hb hts iwsMX4_factor_in9 hown hK hP 14 rfl rfl 6 (by decide) (hts (.fieldLink RX4 151 "OptimaWorks$Words" "number" "I") (by decide +kernel)) (fun _ h9 => h9) rfl dX4_factor_81 ?_
        refine va_iast (cA := kF 0) (n := nF_tree) (f := fF_tree_21) hx hb hK hP hD hS 13 11 rfl rfl (vp_iI (by omega) (by omega) (by omega)) dX4_factor_84 (fun H locs hP hD hS => ?_)
        obtain ⟨u23, hu23⟩ : ∃ f9, f9 = upd fF_tree_21 ((iI (r21.toInt + 3))).toNatClampNeg iT_number := ⟨_, rfl⟩
        have hP : va_P (dC, dI) vwCl (WJ hJ aJ kJ hT hM hL (.ref dF_tree) iJ_used_21 iJ_depth_1 jJ_ownName gJ_binder iJ_binders iJ_firstSet iJ_secondSet ++ (WL hL aL kL hT hM (.ref dF_tree) iL_names gL_key fL_kind fL_one fL_two fL_base iL_params fL_paramOver dL_paramOver nL_params fL_paramUnder dL_paramUnder nL_pu gL_over gL_under fL_bound iL_nameAt iL_startAt iL_steps jL_scaleOver jL_scaleUnder ++ (WF hF aF kF dF_tree nF_tree u23 ++ (WT hT aT kT fT_tape dT_tape nT_tape iT_length iT_fault_21 iT_place_21 iT_kind iT_at iT_number jT_name iT_next)))) H := by rw [hu23]; exact hP
        have hD : va_D A (WJ hJ aJ kJ hT hM hL (.ref dF_tree) iJ_used_21 iJ_depth_1 jJ_ownName gJ_binder iJ_binders iJ_firstSet iJ_secondSet ++ (WL hL aL kL hT hM (.ref dF_tree) iL_names gL_key fL_kind fL_one fL_two fL_base iL_params fL_paramOver dL_paramOver nL_params fL_paramUnder dL_paramUnder nL_pu gL_over gL_under fL_bound iL_nameAt iL_startAt iL_steps jL_scaleOver jL_scaleUnder ++ (WF hF aF kF dF_tree nF_tree u23 ++ (WT hT aT kT fT_tape dT_tape nT_tape iT_length iT_fault_21 iT_place_21 iT_kind iT_at iT_number jT_name iT_next)))) := by rw [hu23]; exact hD
        have b_u23 : WrL fF_tree_21 u23 (r21.toInt + 3) iT_number.toInt := by rw [hu23]; exact WrL.ofx rfl (by omega) (by omega)
        clear hu23
        refine lv_aload_n hx hb dX4_factor_85 rfl (lv_at hl 1 rfl) ?_
        refine va_get (D := (dC, dI)) (ci := 4) (v := .ref (hT 0)) (C := RX4) (T := TX4) (N := 11) hx hb hts iwsMX4_factor_in4 hown hK hP 0 rfl rfl 0 (by decide) (hts _ hm_m_X4_factor_0) (fun _ h9 => h9) rfl dX4_factor_86 ?_
        have p9 := cj_4_3 (WJ hJ aJ kJ hT hM hL (.ref dF_tree) iJ_used_21 iJ_depth_1 jJ_ownName gJ_binder iJ_binders iJ_firstSet iJ_secondSet) (WL hL aL kL hT hM (.ref dF_tree) iL_names gL_key fL_kind fL_one fL_two fL_base iL_params fL_paramOver dL_paramOver nL_params fL_paramUnder dL_paramUnder nL_pu gL_over gL_under fL_bound iL_nameAt iL_startAt iL_steps jL_scaleOver jL_scaleUnder) (WF hF aF kF dF_tree nF_tree u23) (WT hT aT kT fT_tape dT_tape nT_tape iT_length iT_fault_21 iT_place_21 iT_kind iT_at iT_number jT_name iT_next)
        have hPc := hP.mem (fun q h => p9.mem_iff.mpr (List.mem_append_left _ h))
        have hDc := (hD.perm p9).left
        have hKc : va_K (dC, dI) vwCl (tT kT) _ := hK.sub [12] rfl
        have hFc := freeG p9 hD hS hA
        refine va_callv (va_runV (As := []) (rest := []) ⟨hx, hb, hml, hown, hts⟩ (m_X9_advance l hst dC dI hT aT kT fT_tape dT_tape nT_tape iT_length iT_fault_21 iT_place_21 iT_kind iT_at iT_number jT_name iT_next b_fT_tape (by first | exact b_nT_tape | with_reducible assumption | exact ⟨by omega, by omega⟩ | assumption) (b_iT_length) (b_iT_at) (b_iT_number) (b_iT_next) (by first | with_reducible assumption | omega | assumption) (by first | with_reducible assumption | omega | (rw [iI_t (by omega) (by omega)]; omega) | decide | assumption) H.size) (cwV 0 hts gwsMX4_factor_3 rfl rfl rfl (by decide +kernel) ⟨by first | decide +kernel | (dsimp only [headSpec] <;> omega), by first | decide +kernel | (dsimp only [headSpec] <;> omega)⟩) (fz_preE (va_recv hK hP (ci := 9) (q0 := 14) rfl rfl) hPc hKc hDc (fun a U g mk qE => qE.call) (fun U hU9 hW => by rw [hU9]; exact (((hE : CE A s s.heap).kept hS.2.1).narrow (fun q h => hFc q h)).warm hW)) rfl rfl hl.1 rfl (lv_room (Nat.le_of_ble_eq_true rfl)) dX4_factor_89 ⟨by first | decide +kernel | (dsimp only [headSpec] <;> omega), by first | decide +kernel | (dsimp only [headSpec] <;> omega)⟩) hS (fun q _ h => hFc q h) hFc (fun u t9_ H locs ht hvm hw9 hB9 hz1 hk1 hS => ?_)
        revert u hw9 hB9
        refine fz_p5 ?_
        intro iT_kind_24 iT_at_24 iT_number_24 jT_name_24 iT_next_24 hw9 hB9
        try dsimp only at hw9 hB9
        revert hw9
        refine fz_a7 ?_
        intro b_iT_at_24 b_iT_number_24 b_iT_next_24 f24_0 f24_1 f24_2 f24_3
        have p8 := cj_4_3 (WJ hJ aJ kJ hT hM hL (.ref dF_tree) iJ_used_21 iJ_depth_1 jJ_ownName gJ_binder iJ_binders iJ_firstSet iJ_secondSet) (WL hL aL kL hT hM (.ref dF_tree) iL_names gL_key fL_kind fL_one fL_two fL_base iL_params fL_paramOver dL_paramOver nL_params fL_paramUnder dL_paramUnder nL_pu gL_over gL_under fL_bound iL_nameAt iL_startAt iL_steps jL_scaleOver jL_scaleUnder) (WF hF aF kF dF_tree nF_tree u23) (WT hT aT kT fT_tape dT_tape nT_tape iT_length iT_fault_21 iT_place_21 iT_kind_24 iT_at_24 iT_number_24 jT_name_24 iT_next_24)
        obtain ⟨hP, hD⟩ := frameG p9 p8 hP hD hk1 hFc (fz_P ht hB9.1) hB9.2
        refine lv_goto (tgt := 189) hx hb dX4_factor_92 (by decide) ?_
        have hl : lv_has _ _ ([(1, .int r21), (0, .ref (hJ 0))]) := lv_sub hl [0, 1] rfl
        exact join2 _ _ _ _ ⟨iJ_used_21, iJ_depth_1, gJ_binder, iJ_binders, u23, iT_fault_21, iT_place_21, iT_kind_24, iT_at_24, iT_number_24, jT_name_24, iT_next_24, r21, (b_iJ_used_21), (b_iJ_depth_1), (b_iJ_binders), (b_iT_at_24), (b_iT_number_24), (b_iT_next_24), (show iT_at.toInt ≤ iT_at_24.toInt from by omega), (show iT_at_24.toInt ≤ iT_next_24.toInt from by first | done | assumption | omega | (rw [iI_t (by omega) (by omega)]; omega)), (show iT_next_24.toInt ≤ iT_length.toInt from by first | done | assumption | omega | (rw [iI_t (by omega) (by omega)]; omega)), (show (iT_kind_24.toInt = 44 ∨ iT_kind_24.toInt = 61) → iT_at_24.toInt < iT_next_24.toInt from by first | done | assumption | omega | (rw [iI_t (by omega) (by omega)]; omega)), (show iJ_used.toInt + 7 ≤ iJ_used_21.toInt from by omega), (show iJ_used_21.toInt ≤ ((nF_tree : Nat) : Int) from by first | done | assumption | omega | (rw [iI_t (by omega) (by omega)]; omega)), (show iJ_used_21.toInt % 7 = 0 from by omega), (show iJ_depth_1.toInt = (lv : Int) from by omega), (show FiL fF_tree u23 fL_kind fL_one fL_two iL_names.toInt iJ_used.toInt iJ_used_21.toInt 3 lv from by first | exact hF1 | exact FiL.leaf hNw hu1 hu7 (by omega) b_u23 (by omega) (by omega) (fun V _ h9 => nd3 h9) | exact FiL.one hNw hu1 hu7 (by omega) (by omega) hF1 b_u23 (by omega) (by omega) (fun V h8 h9 => nd6 h9 h8) | exact FiL.one hNw hu1 hu7 (by omega) (by omega) hF1 b_u23 (by omega) (by omega) (fun V h8 h9 => nd7 h9 h8)), (show r21.toInt = iJ_used.toInt from by omega), rfl, hP, hD, hS, hl⟩
      · have ts_14_2 : ¬ iT_kind.toInt = 2 := toI_neq s_14_2 rfl (by decide)
        by_cases s_14_40 : iT_kind = 40
        · have ts_14_40 : iT_kind.toInt = 40 := toI_eq s_14_40 rfl (by decide)
          refine lv_lookup (off := 128) (tgt := 142) hx hb dX4_factor_14 (by decide) (by rw [s_14_40]; decide) (by decide) ?_
          refine lv_aload_n hx hb dX4_factor_142 rfl (lv_at hl 1 rfl) ?_
          refine lv_bipush (v := 7) hx hb dX4_factor_143 (by decide) ?_
          refine W.known (fun hz0 _ => ?_)
          have p9 := cj_4_0_2_3 (WJ hJ aJ kJ hT hM hL (.ref dF_tree) iJ_used iJ_depth_1 jJ_ownName gJ_binder iJ_binders iJ_firstSet iJ_secondSet) (WL hL aL kL hT hM (.ref dF_tree) iL_names gL_key fL_kind fL_one fL_two fL_base iL_params fL_paramOver dL_paramOver nL_params fL_paramUnder dL_paramUnder nL_pu gL_over gL_under fL_bound iL_nameAt iL_startAt iL_steps jL_scaleOver jL_scaleUnder) (WF hF aF kF dF_tree nF_tree fF_tree) (WT hT aT kT fT_tape dT_tape nT_tape iT_length iT_fault_1 iT_place_1 iT_kind iT_at iT_number jT_name iT_next)
          have hPc := hP.mem (fun q h => p9.mem_iff.mpr (List.mem_append_left _ h))
          have hDc := (hD.perm p9).left
          have hKc : va_K (dC, dI) vwCl (tJ kJ ++ (tF kF ++ (tT kT))) _ := hK.sub [0, 11, 12] rfl
          have hFc := freeG p9 hD hS hA
          refine vx_calli (vx_runV (As := [.int 7]) (rest := []) ⟨hx, hb, hml, hown, hts⟩ (m_X4_node l hst dC dI hJ aJ kJ hT hM hL iJ_used iJ_depth_1 jJ_ownName gJ_binder iJ_binders iJ_firstSet iJ_secondSet hF aF kF dF_tree nF_tree fF_tree aT kT fT_tape dT_tape nT_tape iT_length iT_fault_1 iT_place_1 iT_kind iT_at iT_number jT_name iT_next 7 (b_iJ_used) (b_iJ_depth_1) (b_iJ_binders) (b_iJ_firstSet) (b_iJ_secondSet) (by first | exact b_nF_tree | with_reducible assumption | exact ⟨by omega, by omega⟩ | assumption) b_fT_tape (by first | exact b_nT_tape | with_reducible assumption | exact ⟨by omega, by omega⟩ | assumption) (b_iT_length) (b_iT_at) (b_iT_number) (b_iT_next) (by first | with_reducible assumption | omega | assumption) (by first | with_reducible assumption | omega | (rw [iI_t (by omega) (by omega)]; omega) | decide | assumption) (by first | with_reducible assumption | omega | (rw [iI_t (by omega) (by omega)]; omega) | decide | assumption) (by first | with_reducible assumption | omega | (rw [iI_t (by omega) (by omega)]; omega) | decide | assumption) H.size) (cwV 1 hts gwsMX4_factor_2 rfl rfl rfl (by decide +kernel) ⟨by first | decide +kernel | (dsimp only [headSpec] <;> omega), by first | decide +kernel | (dsimp only [headSpec] <;> omega)⟩) (fz_preE (va_recv hK hP (ci := 4) (q0 := 0) rfl rfl) hPc hKc hDc (fun a U g mk qE => qE.call) (fun U hU9 hW => by rw [hU9]; exact (((hE : CE A s s.heap).kept hS.2.1).narrow (fun q h => hFc q h)).warm hW)) rfl rfl hl.1 rfl (lv_room (Nat.le_of_ble_eq_true rfl)) dX4_factor_145 ⟨by first | decide +kernel | (dsimp only [headSpec] <;> omega), by first | decide +kernel | (dsimp only [headSpec] <;> omega)⟩) hS (fun q _ h => hFc q h) hFc (fun q _ h => hFc q h) (fun E ce q9 u t9_ H locs ht hvm hw9 hB9 hz1 hk1 hS hc1 hc2 hc3 => ?_) (fun r25 u t9_ H locs ht hvm hw9 hB9 hz1 hk1 hS => ?_)
          · revert u hw9 hB9
            refine fz_p4 ?_
            intro iJ_used_25 fF_tree_25 iT_fault_25 iT_place_25 hw9 hB9
            try dsimp only at hw9 hB9
            revert hB9
            refine fz_a2 ?_
            intro hEx hB9
            have b_iJ_used_25 := hw9
            try dsimp only at b_iJ_used_25
            have p8 := cj_4_0_2_3 (WJ hJ aJ kJ hT hM hL (.ref dF_tree) iJ_used_25 iJ_depth_1 jJ_ownName gJ_binder iJ_binders iJ_firstSet iJ_secondSet) (WL hL aL kL hT hM (.ref dF_tree) iL_names gL_key fL_kind fL_one fL_two fL_base iL_params fL_paramOver dL_paramOver nL_params fL_paramUnder dL_paramUnder nL_pu gL_over gL_under fL_bound iL_nameAt iL_startAt iL_steps jL_scaleOver jL_scaleUnder) (WF hF aF kF dF_tree nF_tree fF_tree_25) (WT hT aT kT fT_tape dT_tape nT_tape iT_length iT_fault_25 iT_place_25 iT_kind iT_at iT_number jT_name iT_next)
            obtain ⟨hP, hD⟩ := frameG p9 p8 hP hD hk1 hFc (fz_P ht hB9.1) hB9.2
            exact vx_out (fun x hx9 => (htab x hx9).elim) hlocks hc1 hc2 hc3 (fun t9_ ht hvm => ⟨(iJ_used_25, iJ_depth_1, gJ_binder, iJ_binders, fF_tree_25, iT_fault_25, iT_place_25, iT_kind, iT_at, iT_number, jT_name, iT_next), ⟨(by (try dsimp only); exact (by first | exact b_iJ_used_25 | with_reducible assumption | exact ⟨by omega, by omega⟩ | assumption)), (b_iJ_depth_1), (b_iJ_binders), (b_iT_at), (b_iT_number), (b_iT_next)⟩, ⟨(by have h9 := hEx; exact h9), by rw [ht]; exact hP, hD⟩, hS.F ht⟩) hS.2.2 (by decide +kernel) (by decide +kernel)
          revert u hw9 hB9
          refine fz_p4 ?_
          intro iJ_used_25 fF_tree_25 iT_fault_25 iT_place_25 hw9 hB9
          try dsimp only at hw9 hB9
          revert hw9
          refine fz_a5 ?_
          intro b_iJ_used_25 f25_0 f25_1 f25_2 f25_3
          have hz8 := hB9.2.2
          rw [ht] at hz8
          have hz9 : H.size ≤ s.heap.size + 0 := by rw [hz8]; exact hz0
          refine W.tight (cells2 := 0) (slots2 := 0) hz9 (nS_0 hz9) ?_
          clear hz8 hz9
          have p8 := cj_4_0_2_3 (WJ hJ aJ kJ hT hM hL (.ref dF_tree) iJ_used_25 iJ_depth_1 jJ_ownName gJ_binder iJ_binders iJ_firstSet iJ_secondSet) (WL hL aL kL hT hM (.ref dF_tree) iL_names gL_key fL_kind fL_one fL_two fL_base iL_params fL_paramOver dL_paramOver nL_params fL_paramUnder dL_paramUnder nL_pu gL_over gL_under fL_bound iL_nameAt iL_startAt iL_steps jL_scaleOver jL_scaleUnder) (WF hF aF kF dF_tree nF_tree fF_tree_25) (WT hT aT kT fT_tape dT_tape nT_tape iT_length iT_fault_25 iT_place_25 iT_kind iT_at iT_number jT_name iT_next)
          obtain ⟨hP, hD⟩ := frameG p9 p8 hP hD hk1 hFc (fz_P ht hB9.1) hB9.2.1
          have hNw := f25_3
          refine lv_istore_n hx hb dX4_factor_148 rfl hl (by decide) rfl (fun ls (hl : lv_has ls _ ([(1, .int r25), (0, .ref (hJ 0))])) => ?_)
          refine lv_aload_n hx hb dX4_factor_149 rfl (lv_at hl 1 rfl) ?_
          refine va_get (D := (dC, dI)) (ci := 4) (v := .ref (hT 0)) (C := RX4) (T := TX4) (N := 11) hx hb hts iwsMX4_factor_in4 hown hK hP 0 rfl rfl 0 (by decide) (hts _ hm_m_X4_factor_0) (fun _ h9 => h9) rfl dX4_factor_150 ?_
          have p9 := cj_4_3 (WJ hJ aJ kJ hT hM hL (.ref dF_tree) iJ_used_25 iJ_depth_1 jJ_ownName gJ_binder iJ_binders iJ_firstSet iJ_secondSet) (WL hL aL kL hT hM (.ref dF_tree) iL_names gL_key fL_kind fL_one fL_two fL_base iL_params fL_paramOver dL_paramOver nL_params fL_paramUnder dL_paramUnder nL_pu gL_over gL_under fL_bound iL_nameAt iL_startAt iL_steps jL_scaleOver jL_scaleUnder) (WF hF aF kF dF_tree nF_tree fF_tree_25) (WT hT aT kT fT_tape dT_tape nT_tape iT_length iT_fault_25 iT_place_25 iT_kind iT_at iT_number jT_name iT_next)
          have hPc := hP.mem (fun q h => p9.mem_iff.mpr (List.mem_append_left _ h))
          have hDc := (hD.perm p9).left
          have hKc : va_K (dC, dI) vwCl (tT kT) _ := hK.sub [12] rfl
          have hFc := freeG p9 hD hS hA
          refine va_callv (va_runV (As := []) (rest := []) ⟨hx, hb, hml, hown, hts⟩ (m_X9_advance l hst dC dI hT aT kT fT_tape dT_tape nT_tape iT_length iT_fault_25 iT_place_25 iT_kind iT_at iT_number jT_name iT_next b_fT_tape (by first | exact b_nT_tape | with_reducible assumption | exact ⟨by omega, by omega⟩ | assumption) (b_iT_length) (b_iT_at) (b_iT_number) (b_iT_next) (by first | with_reducible assumption | omega | assumption) (by first | with_reducible assumption | omega | (rw [iI_t (by omega) (by omega)]; omega) | decide | assumption) H.size) (cwV 0 hts gwsMX4_factor_3 rfl rfl rfl (by decide +kernel) ⟨by first | decide +kernel | (dsimp only [headSpec] <;> omega), by first | decide +kernel | (dsimp only [headSpec] <;> omega)⟩) (fz_preE (va_recv hK hP (ci := 9) (q0 := 14) rfl rfl) hPc hKc hDc (fun a U g mk qE => qE.call) (fun U hU9 hW => by rw [hU9]; exact (((hE : CE A s s.heap).kept hS.2.1).narrow (fun q h => hFc q h)).warm hW)) rfl rfl hl.1 rfl (lv_room (Nat.le_of_ble_eq_true rfl)) dX4_factor_153 ⟨by first | decide +kernel | (dsimp only [headSpec] <;> omega), by first | decide +kernel | (dsimp only [headSpec] <;> omega)⟩) hS (fun q _ h => hFc q h) hFc (fun u t9_ H locs ht hvm hw9 hB9 hz1 hk1 hS => ?_)
          revert u hw9 hB9
          refine fz_p5 ?_
          intro iT_kind_26 iT_at_26 iT_number_26 jT_name_26 iT_next_26 hw9 hB9
          try dsimp only at hw9 hB9
          revert hw9
          refine fz_a7 ?_
          intro b_iT_at_26 b_iT_number_26 b_iT_next_26 f26_0 f26_1 f26_2 f26_3
          have p8 := cj_4_3 (WJ hJ aJ kJ hT hM hL (.ref dF_tree) iJ_used_25 iJ_depth_1 jJ_ownName gJ_binder iJ_binders iJ_firstSet iJ_secondSet) (WL hL aL kL hT hM (.ref dF_tree) iL_names gL_key fL_kind fL_one fL_two fL_base iL_params fL_paramOver dL_paramOver nL_params fL_paramUnder dL_paramUnder nL_pu gL_over gL_under fL_bound iL_nameAt iL_startAt iL_steps jL_scaleOver jL_scaleUnder) (WF hF aF kF dF_tree nF_tree fF_tree_25) (WT hT aT kT fT_tape dT_tape nT_tape iT_length iT_fault_25 iT_place_25 iT_kind_26 iT_at_26 iT_number_26 jT_name_26 iT_next_26)
          obtain ⟨hP, hD⟩ := frameG p9 p8 hP hD hk1 hFc (fz_P ht hB9.1) hB9.2
          refine lv_aload_n hx hb dX4_factor_156 rfl (lv_at hl 1 rfl) ?_
          refine W.known (fun hz0 _ => ?_)
          have hFc := allFree hD hS hA
          refine vx_calli (vx_runV (As := []) (rest := []) ⟨hx, hb, hml, hown, hts⟩ (ih_X4_linear dC dI hJ aJ kJ hT hM hL iJ_used_25 iJ_depth_1 jJ_ownName gJ_binder iJ_binders iJ_firstSet iJ_secondSet aL kL iL_names gL_key fL_kind fL_one fL_two fL_base iL_params fL_paramOver dL_paramOver nL_params fL_paramUnder dL_paramUnder nL_pu gL_over gL_under fL_bound iL_nameAt iL_startAt iL_steps jL_scaleOver jL_scaleUnder hF aF kF dF_tree nF_tree fF_tree_25 aT kT fT_tape dT_tape nT_tape iT_length iT_fault_25 iT_place_25 iT_kind_26 iT_at_26 iT_number_26 jT_name_26 iT_next_26 (lv + 1) (b_iJ_used_25) (b_iJ_depth_1) (b_iJ_binders) (b_iJ_firstSet) (b_iJ_secondSet) (b_iL_names) b_fL_kind b_fL_two b_fL_base (b_iL_params) (by first | exact b_nL_params | with_reducible assumption | exact ⟨by omega, by omega⟩ | assumption) (by first | with_reducible assumption | omega | (rw [iI_t (by omega) (by omega)]; omega) | assumption) (by first | with_reducible assumption | omega | (rw [iI_t (by omega) (by omega)]; omega) | assumption) (by first | with_reducible assumption | omega | (rw [iI_t (by omega) (by omega)]; omega) | assumption) (by first | exact b_nF_tree | with_reducible assumption | exact ⟨by omega, by omega⟩ | assumption) b_fT_tape (by first | exact b_nT_tape | with_reducible assumption | exact ⟨by omega, by omega⟩ | assumption) (b_iT_length) (b_iT_at_26) (b_iT_number_26) (b_iT_next_26) (by first | with_reducible assumption | omega | assumption) (by first | with_reducible assumption | omega | (rw [iI_t (by omega) (by omega)]; omega) | decide | assumption) (by first | with_reducible assumption | omega | (rw [iI_t (by omega) (by omega)]; omega) | decide | assumption) (by first | with_reducible assumption | omega | (rw [iI_t (by omega) (by omega)]; omega) | decide | assumption) (by first | with_reducible assumption | omega | (rw [iI_t (by omega) (by omega)]; omega) | decide | assumption) (by first | with_reducible assumption | omega | (rw [iI_t (by omega) (by omega)]; omega) | decide | assumption) (by first | with_reducible assumption | omega | (rw [iI_t (by omega) (by omega)]; omega) | decide | assumption) (by first | with_reducible assumption | omega | (rw [iI_t (by omega) (by omega)]; omega) | decide | assumption) (by first | with_reducible assumption | omega | (rw [iI_t (by omega) (by omega)]; omega) | decide | assumption) H.size) (cwV 0 hts gwsMX4_factor_4 rfl rfl rfl (by decide +kernel) ⟨by first | decide +kernel | (dsimp only [headSpec] <;> omega), by first | decide +kernel | (dsimp only [headSpec] <;> omega)⟩) (fz_preE (va_recv hK hP (ci := 4) (q0 := 0) rfl rfl) hP hK hD (fun a U g mk qE => qE.call) (fun U hU9 hW => by rw [hU9]; exact (((hE : CE A s s.heap).kept hS.2.1).narrow (fun q h => hFc q h)).warm hW)) rfl rfl hl.1 rfl (lv_room (Nat.le_of_ble_eq_true rfl)) dX4_factor_157 ⟨by first | decide +kernel | (dsimp only [headSpec] <;> omega), by first | decide +kernel | (dsimp only [headSpec] <;> omega)⟩) hS (fun q _ h => hFc q h) hFc (fun q _ h => hFc q h) (fun E ce q9 u t9_ H locs ht hvm hw9 hB9 hz1 hk1 hS hc1 hc2 hc3 => ?_) (fun r27 u t9_ H locs ht hvm hw9 hB9 hz1 hk1 hS => ?_)
          · revert u hw9 hB9
            refine fz_p12 ?_
            intro iJ_used_27 iJ_depth_27 gJ_binder_27 iJ_binders_27 fF_tree_27 iT_fault_27 iT_place_27 iT_kind_27 iT_at_27 iT_number_27 jT_name_27 iT_next_27 hw9 hB9
            try dsimp only at hw9 hB9
            revert hB9
            refine fz_a2 ?_
            intro hEx hB9
            revert hw9
            refine fz_a6 ?_
            intro b_iJ_used_27 b_iJ_depth_27 b_iJ_binders_27 b_iT_at_27 b_iT_number_27 b_iT_next_27
            have hP : va_P (dC, dI) vwCl (WJ hJ aJ kJ hT hM hL (.ref dF_tree) iJ_used_27 iJ_depth_27 jJ_ownName gJ_binder_27 iJ_binders_27 iJ_firstSet iJ_secondSet ++ (WL hL aL kL hT hM (.ref dF_tree) iL_names gL_key fL_kind fL_one fL_two fL_base iL_params fL_paramOver dL_paramOver nL_params fL_paramUnder dL_paramUnder nL_pu gL_over gL_under fL_bound iL_nameAt iL_startAt iL_steps jL_scaleOver jL_scaleUnder ++ (WF hF aF kF dF_tree nF_tree fF_tree_27 ++ (WT hT aT kT fT_tape dT_tape nT_tape iT_length iT_fault_27 iT_place_27 iT_kind_27 iT_at_27 iT_number_27 jT_name_27 iT_next_27)))) H := fz_P ht hB9.1
            have hD := fz_sd hP (hB9.2.weaken (fun _ q _ h => hFc q.1 h)) rfl
            exact vx_out (fun x hx9 => (htab x hx9).elim) hlocks hc1 hc2 hc3 (fun t9_ ht hvm => ⟨(iJ_used_27, iJ_depth_27, gJ_binder_27, iJ_binders_27, fF_tree_27, iT_fault_27, iT_place_27, iT_kind_27, iT_at_27, iT_number_27, jT_name_27, iT_next_27), ⟨(b_iJ_used_27), (b_iJ_depth_27), (b_iJ_binders_27), (b_iT_at_27), (b_iT_number_27), (b_iT_next_27)⟩, ⟨(by have h9 := hEx; exact h9), by rw [ht]; exact hP, hD⟩, hS.F ht⟩) hS.2.2 (by decide +kernel) (by decide +kernel)
          revert u hw9 hB9
          refine fz_p12 ?_
          intro iJ_used_27 iJ_depth_27 gJ_binder_27 iJ_binders_27 fF_tree_27 iT_fault_27 iT_place_27 iT_kind_27 iT_at_27 iT_number_27 jT_name_27 iT_next_27 hw9 hB9
          try dsimp only at hw9 hB9
          revert hw9
          refine fz_a16 ?_
          intro b_iJ_used_27 b_iJ_depth_27 b_iJ_binders_27 b_iT_at_27 b_iT_number_27 b_iT_next_27 f27_0 f27_1 f27_2 f27_3 f27_4 f27_5 f27_6 f27_7 f27_8 f27_9
          have hz8 := hB9.2.2
          rw [ht] at hz8
          have hz9 : H.size ≤ s.heap.size + 0 := by rw [hz8]; exact hz0
          refine W.tight (cells2 := 0) (slots2 := 0) hz9 (nS_0 hz9) ?_
          clear hz8 hz9
          have hP : va_P (dC, dI) vwCl (WJ hJ aJ kJ hT hM hL (.ref dF_tree) iJ_used_27 iJ_depth_27 jJ_ownName gJ_binder_27 iJ_binders_27 iJ_firstSet iJ_secondSet ++ (WL hL aL kL hT hM (.ref dF_tree) iL_names gL_key fL_kind fL_one fL_two fL_base iL_params fL_paramOver dL_paramOver nL_params fL_paramUnder dL_paramUnder nL_pu gL_over gL_under fL_bound iL_nameAt iL_startAt iL_steps jL_scaleOver jL_scaleUnder ++ (WF hF aF kF dF_tree nF_tree fF_tree_27 ++ (WT hT aT kT fT_tape dT_tape nT_tape iT_length iT_fault_27 iT_place_27 iT_kind_27 iT_at_27 iT_number_27 jT_name_27 iT_next_27)))) H := fz_P ht hB9.1
          have hD := fz_sd hP (hB9.2.1.weaken (fun _ q _ h => hFc q.1 h)) rfl
          have hF1 := f27_1
          refine lv_istore_n hx hb dX4_factor_160 rfl hl (by decide) rfl (fun ls (hl : lv_has ls _ ([(3, .int r27), (1, .int r25), (0, .ref (hJ 0))])) => ?_)
          refine lv_aload_n hx hb dX4_factor_161 rfl (lv_at hl 2 rfl) ?_
          refine va_get (D := (dC, dI)) (ci := 4) (v := .ref dF_tree) (C := RX4) (T := TX4) (N := 11) hx hb hts iwsMX4_factor_in4 hown hK hP 0 rfl rfl 3 (by decide) (hts _ hm_m_X4_factor_1) (fun _ h9 => h9) rfl dX4_factor_162 ?_
          refine lv_iload_n hx hb dX4_factor_165 rfl (lv_at hl 1 rfl) ?_
          refine lv_iconst (v := 3) hx hb dX4_factor_166 (by decide) ?_
          refine lv_iadd hx hb dX4_factor_167 ?_
          refine lv_topi (fun y28 hy28 => ?_)
          obtain rfl : (iI (r25.toInt + 3)) = y28 := (hy28.trans (iI_add2 (iI_of _) (by decide : (3 : Int32) = iI 3))).symm
          refine lv_iload_n hx hb dX4_factor_168 rfl (lv_at hl 0 rfl) ?_
          refine va_iast (cA := kF 0) (n := nF_tree) (f := fF_tree_27) hx hb hK hP hD hS 13 11 rfl rfl (vp_iI (by omega) (by omega) (by omega)) dX4_factor_169 (fun H locs hP hD hS => ?_)
          obtain ⟨u29, hu29⟩ : ∃ f9, f9 = upd fF_tree_27 ((iI (r25.toInt + 3))).toNatClampNeg r27 := ⟨_, rfl⟩
          have hP : va_P (dC, dI) vwCl (WJ hJ aJ kJ hT hM hL (.ref dF_tree) iJ_used_27 iJ_depth_27 jJ_ownName gJ_binder_27 iJ_binders_27 iJ_firstSet iJ_secondSet ++ (WL hL aL kL hT hM (.ref dF_tree) iL_names gL_key fL_kind fL_one fL_two fL_base iL_params fL_paramOver dL_paramOver nL_params fL_paramUnder dL_paramUnder nL_pu gL_over gL_under fL_bound iL_nameAt iL_startAt iL_steps jL_scaleOver jL_scaleUnder ++ (WF hF aF kF dF_tree nF_tree u29 ++ (WT hT aT kT fT_tape dT_tape nT_tape iT_length iT_fault_27 iT_place_27 iT_kind_27 iT_at_27 iT_number_27 jT_name_27 iT_next_27)))) H := by rw [hu29]; exact hP
          have hD : va_D A (WJ hJ aJ kJ hT hM hL (.ref dF_tree) iJ_used_27 iJ_depth_27 jJ_ownName gJ_binder_27 iJ_binders_27 iJ_firstSet iJ_secondSet ++ (WL hL aL kL hT hM (.ref dF_tree) iL_names gL_key fL_kind fL_one fL_two fL_base iL_params fL_paramOver dL_paramOver nL_params fL_paramUnder dL_paramUnder nL_pu gL_over gL_under fL_bound iL_nameAt iL_startAt iL_steps jL_scaleOver jL_scaleUnder ++ (WF hF aF kF dF_tree nF_tree u29 ++ (WT hT aT kT fT_tape dT_tape nT_tape iT_length iT_fault_27 iT_place_27 iT_kind_27 iT_at_27 iT_number_27 jT_name_27 iT_next_27)))) := by rw [hu29]; exact hD
          have b_u29 : WrL fF_tree_27 u29 (r25.toInt + 3) r27.toInt := by rw [hu29]; exact WrL.ofx rfl (by omega) (by omega)
          clear hu29
          refine lv_aload_n hx hb dX4_factor_170 rfl (lv_at hl 2 rfl) ?_
          refine va_get (D := (dC, dI)) (ci := 4) (v := .ref (hT 0)) (C := RX4) (T := TX4) (N := 11) hx hb hts iwsMX4_factor_in4 hown hK hP 0 rfl rfl 0 (by decide) (hts _ hm_m_X4_factor_0) (fun _ h9 => h9) rfl dX4_factor_171 ?_
          refine lv_bipush (v := 41) hx hb dX4_factor_174 (by decide) ?_
          refine W.known (fun hz0 _ => ?_)
          have p9 := cj_4_3 (WJ hJ aJ kJ hT hM hL (.ref dF_tree) iJ_used_27 iJ_depth_27 jJ_ownName gJ_binder_27 iJ_binders_27 iJ_firstSet iJ_secondSet) (WL hL aL kL hT hM (.ref dF_tree) iL_names gL_key fL_kind fL_one fL_two fL_base iL_params fL_paramOver dL_paramOver nL_params fL_paramUnder dL_paramUnder nL_pu gL_over gL_under fL_bound iL_nameAt iL_startAt iL_steps jL_scaleOver jL_scaleUnder) (WF hF aF kF dF_tree nF_tree u29) (WT hT aT kT fT_tape dT_tape nT_tape iT_length iT_fault_27 iT_place_27 iT_kind_27 iT_at_27 iT_number_27 jT_name_27 iT_next_27)
          have hPc := hP.mem (fun q h => p9.mem_iff.mpr (List.mem_append_left _ h))
          have hDc := (hD.perm p9).left
          have hKc : va_K (dC, dI) vwCl (tT kT) _ := hK.sub [12] rfl
          have hFc := freeG p9 hD hS hA
          refine vx_callv (vx_runV (As := [.int 41]) (rest := []) ⟨hx, hb, hml, hown, hts⟩ (m_X9_take l hst dC dI hT aT kT fT_tape dT_tape nT_tape iT_length iT_fault_27 iT_place_27 iT_kind_27 iT_at_27 iT_number_27 jT_name_27 iT_next_27 41 b_fT_tape (by first | exact b_nT_tape | with_reducible assumption | exact ⟨by omega, by omega⟩ | assumption) (b_iT_length) (b_iT_at_27) (b_iT_number_27) (b_iT_next_27) (by first | with_reducible assumption | omega | assumption) (by first | with_reducible assumption | omega | (rw [iI_t (by omega) (by omega)]; omega) | decide | assumption) (by first | with_reducible assumption | omega | (rw [iI_t (by omega) (by omega)]; omega) | decide | assumption) (by first | with_reducible assumption | omega | (rw [iI_t (by omega) (by omega)]; omega) | decide | assumption) H.size) (cwV 1 hts gwsMX4_factor_5 rfl rfl rfl (by decide +kernel) ⟨by first | decide +kernel | (dsimp only [headSpec] <;> omega), by first | decide +kernel | (dsimp only [headSpec] <;> omega)⟩) (fz_preE (va_recv hK hP (ci := 9) (q0 := 14) rfl rfl) hPc hKc hDc (fun a U g mk qE => qE.call) (fun U hU9 hW => by rw [hU9]; exact (((hE : CE A s s.heap).kept hS.2.1).narrow (fun q h => hFc q h)).warm hW)) rfl rfl hl.1 rfl (lv_room (Nat.le_of_ble_eq_true rfl)) dX4_factor_176 ⟨by first | decide +kernel | (dsimp only [headSpec] <;> omega), by first | decide +kernel | (dsimp only [headSpec] <;> omega)⟩) hS (fun q _ h => hFc q h) hFc (fun q _ h => hFc q h) (fun E ce q9 u t9_ H locs ht hvm hw9 hB9 hz1 hk1 hS hc1 hc2 hc3 => ?_) (fun u t9_ H locs ht hvm hw9 hB9 hz1 hk1 hS => ?_)
          · revert u hw9 hB9
            refine fz_p7 ?_
            intro iT_fault_30 iT_place_30 iT_kind_30 iT_at_30 iT_number_30 jT_name_30 iT_next_30 hw9 hB9
            try dsimp only at hw9 hB9
            revert hB9
            refine fz_a2 ?_
            intro hEx hB9
            revert hw9
            refine fz_a3 ?_
            intro b_iT_at_30 b_iT_number_30 b_iT_next_30
            have p8 := cj_4_3 (WJ hJ aJ kJ hT hM hL (.ref dF_tree) iJ_used_27 iJ_depth_27 jJ_ownName gJ_binder_27 iJ_binders_27 iJ_firstSet iJ_secondSet) (WL hL aL kL hT hM (.ref dF_tree) iL_names gL_key fL_kind fL_one fL_two fL_base iL_params fL_paramOver dL_paramOver nL_params fL_paramUnder dL_paramUnder nL_pu gL_over gL_under fL_bound iL_nameAt iL_startAt iL_steps jL_scaleOver jL_scaleUnder) (WF hF aF kF dF_tree nF_tree u29) (WT hT aT kT fT_tape dT_tape nT_tape iT_length iT_fault_30 iT_place_30 iT_kind_30 iT_at_30 iT_number_30 jT_name_30 iT_next_30)
            obtain ⟨hP, hD⟩ := frameG p9 p8 hP hD hk1 hFc (fz_P ht hB9.1) hB9.2
            exact vx_out (fun x hx9 => (htab x hx9).elim) hlocks hc1 hc2 hc3 (fun t9_ ht hvm => ⟨(iJ_used_27, iJ_depth_27, gJ_binder_27, iJ_binders_27, u29, iT_fault_30, iT_place_30, iT_kind_30, iT_at_30, iT_number_30, jT_name_30, iT_next_30), ⟨(b_iJ_used_27), (b_iJ_depth_27), (b_iJ_binders_27), (b_iT_at_30), (b_iT_number_30), (b_iT_next_30)⟩, ⟨(by have h9 := hEx; exact h9), by rw [ht]; exact hP, hD⟩, hS.F ht⟩) hS.2.2 (by decide +kernel) (by decide +kernel)
          revert u hw9 hB9
          refine fz_p7 ?_
          intro iT_fault_30 iT_place_30 iT_kind_30 iT_at_30 iT_number_30 jT_name_30 iT_next_30 hw9 hB9
          try dsimp only at hw9 hB9
          revert hw9
          refine fz_a8 ?_
          intro b_iT_at_30 b_iT_number_30 b_iT_next_30 f30_0 f30_1 f30_2 f30_3 f30_4
          have hz8 := hB9.2.2
          rw [ht] at hz8
          have hz9 : H.size ≤ s.heap.size + 0 := by rw [hz8]; exact hz0
          refine W.tight (cells2 := 0) (slots2 := 0) hz9 (nS_0 hz9) ?_
          clear hz8 hz9
          have p8 := cj_4_3 (WJ hJ aJ kJ hT hM hL (.ref dF_tree) iJ_used_27 iJ_depth_27 jJ_ownName gJ_binder_27 iJ_binders_27 iJ_firstSet iJ_secondSet) (WL hL aL kL hT hM (.ref dF_tree) iL_names gL_key fL_kind fL_one fL_two fL_base iL_params fL_paramOver dL_paramOver nL_params fL_paramUnder dL_paramUnder nL_pu gL_over gL_under fL_bound iL_nameAt iL_startAt iL_steps jL_scaleOver jL_scaleUnder) (WF hF aF kF dF_tree nF_tree u29) (WT hT aT kT fT_tape dT_tape nT_tape iT_length iT_fault_30 iT_place_30 iT_kind_30 iT_at_30 iT_number_30 jT_name_30 iT_next_30)
          obtain ⟨hP, hD⟩ := frameG p9 p8 hP hD hk1 hFc (fz_P ht hB9.1) hB9.2.1
          refine lv_goto (tgt := 189) hx hb dX4_factor_179 (by decide) ?_
          have hl : lv_has _ _ ([(1, .int r25), (0, .ref (hJ 0))]) := lv_sub hl [1, 2] rfl
          exact join2 _ _ _ _ ⟨iJ_used_27, iJ_depth_27, gJ_binder_27, iJ_binders_27, u29, iT_fault_30, iT_place_30, iT_kind_30, iT_at_30, iT_number_30, jT_name_30, iT_next_30, r25, (b_iJ_used_27), (b_iJ_depth_27), (b_iJ_binders_27), (b_iT_at_30), (b_iT_number_30), (b_iT_next_30), (show iT_at.toInt ≤ iT_at_30.toInt from by omega), (show iT_at_30.toInt ≤ iT_next_30.toInt from by first | done | assumption | omega | (rw [iI_t (by omega) (by omega)]; omega)), (show iT_next_30.toInt ≤ iT_length.toInt from by first | done | assumption | omega | (rw [iI_t (by omega) (by omega)]; omega)), (show (iT_kind_30.toInt = 44 ∨ iT_kind_30.toInt = 61) → iT_at_30.toInt < iT_next_30.toInt from by first | done | assumption | omega | (rw [iI_t (by omega) (by omega)]; omega)), (show iJ_used.toInt + 7 ≤ iJ_used_27.toInt from by omega), (show iJ_used_27.toInt ≤ ((nF_tree : Nat) : Int) from by first | done | assumption | omega | (rw [iI_t (by omega) (by omega)]; omega)), (show iJ_used_27.toInt % 7 = 0 from by omega), (show iJ_depth_27.toInt = (lv : Int) from by omega), (show FiL fF_tree u29 fL_kind fL_one fL_two iL_names.toInt iJ_used.toInt iJ_used_27.toInt 3 lv from by first | exact hF1 | exact FiL.leaf hNw hu1 hu7 (by omega) b_u29 (by omega) (by omega) (fun V _ h9 => nd3 h9) | exact FiL.one hNw hu1 hu7 (by omega) (by omega) hF1 b_u29 (by omega) (by omega) (fun V h8 h9 => nd6 h9 h8) | exact FiL.one hNw hu1 hu7 (by omega) (by omega) hF1 b_u29 (by omega) (by omega) (fun V h8 h9 => nd7 h9 h8)), (show r25.toInt = iJ_used.toInt from by omega), rfl, hP, hD, hS, hl⟩
        · have ts_14_40 : ¬ iT_kind.toInt = 40 := toI_neq s_14_40 rfl (by decide)
          by_cases s_14_45 : iT_kind = 45
          · have ts_14_45 : iT_kind.toInt = 45 := toI_eq s_14_45 rfl (by decide)
            refine lv_lookup (off := 97) (tgt := 111) hx hb dX4_factor_14 (by decide) (by rw [s_14_45]; decide) (by decide) ?_
            refine lv_aload_n hx hb dX4_factor_111 rfl (lv_at hl 1 rfl) ?_
            refine lv_bipush (v := 6) hx hb dX4_factor_112 (by decide) ?_
            refine W.known (fun hz0 _ => ?_)
            have p9 := cj_4_0_2_3 (WJ hJ aJ kJ hT hM hL (.ref dF_tree) iJ_used iJ_depth_1 jJ_ownName gJ_binder iJ_binders iJ_firstSet iJ_secondSet) (WL hL aL kL hT hM (.ref dF_tree) iL_names gL_key fL_kind fL_one fL_two fL_base iL_params fL_paramOver dL_paramOver nL_params fL_paramUnder dL_paramUnder nL_pu gL_over gL_under fL_bound iL_nameAt iL_startAt iL_steps jL_scaleOver jL_scaleUnder) (WF hF aF kF dF_tree nF_tree fF_tree) (WT hT aT kT fT_tape dT_tape nT_tape iT_length iT_fault_1 iT_place_1 iT_kind iT_at iT_number jT_name iT_next)
            have hPc := hP.mem (fun q h => p9.mem_iff.mpr (List.mem_append_left _ h))
            have hDc := (hD.perm p9).left
            have hKc : va_K (dC, dI) vwCl (tJ kJ ++ (tF kF ++ (tT kT))) _ := hK.sub [0, 11, 12] rfl
            have hFc := freeG p9 hD hS hA
            refine vx_calli (vx_runV (As := [.int 6]) (rest := []) ⟨hx, hb, hml, hown, hts⟩ (m_X4_node l hst dC dI hJ aJ kJ hT hM hL iJ_used iJ_depth_1 jJ_ownName gJ_binder iJ_binders iJ_firstSet iJ_secondSet hF aF kF dF_tree nF_tree fF_tree aT kT fT_tape dT_tape nT_tape iT_length iT_fault_1 iT_place_1 iT_kind iT_at iT_number jT_name iT_next 6 (b_iJ_used) (b_iJ_depth_1) (b_iJ_binders) (b_iJ_firstSet) (b_iJ_secondSet) (by first | exact b_nF_tree | with_reducible assumption | exact ⟨by omega, by omega⟩ | assumption) b_fT_tape (by first | exact b_nT_tape | with_reducible assumption | exact ⟨by omega, by omega⟩ | assumption) (b_iT_length) (b_iT_at) (b_iT_number) (b_iT_next) (by first | with_reducible assumption | omega | assumption) (by first | with_reducible assumption | omega | (rw [iI_t (by omega) (by omega)]; omega) | decide | assumption) (by first | with_reducible assumption | omega | (rw [iI_t (by omega) (by omega)]; omega) | decide | assumption) (by first | with_reducible assumption | omega | (rw [iI_t (by omega) (by omega)]; omega) | decide | assumption) H.size) (cwV 1 hts gwsMX4_factor_2 rfl rfl rfl (by decide +kernel) ⟨by first | decide +kernel | (dsimp only [headSpec] <;> omega), by first | decide +kernel | (dsimp only [headSpec] <;> omega)⟩) (fz_preE (va_recv hK hP (ci := 4) (q0 := 0) rfl rfl) hPc hKc hDc (fun a U g mk qE => qE.call) (fun U hU9 hW => by rw [hU9]; exact (((hE : CE A s s.heap).kept hS.2.1).narrow (fun q h => hFc q h)).warm hW)) rfl rfl hl.1 rfl (lv_room (Nat.le_of_ble_eq_true rfl)) dX4_factor_114 ⟨by first | decide +kernel | (dsimp only [headSpec] <;> omega), by first | decide +kernel | (dsimp only [headSpec] <;> omega)⟩) hS (fun q _ h => hFc q h) hFc (fun q _ h => hFc q h) (fun E ce q9 u t9_ H locs ht hvm hw9 hB9 hz1 hk1 hS hc1 hc2 hc3 => ?_) (fun r31 u t9_ H locs ht hvm hw9 hB9 hz1 hk1 hS => ?_)
            · revert u hw9 hB9
              refine fz_p4 ?_
              intro iJ_used_31 fF_tree_31 iT_fault_31 iT_place_31 hw9 hB9
              try dsimp only at hw9 hB9
              revert hB9
              refine fz_a2 ?_
              intro hEx hB9
              have b_iJ_used_31 := hw9
              try dsimp only at b_iJ_used_31
              have p8 := cj_4_0_2_3 (WJ hJ aJ kJ hT hM hL (.ref dF_tree) iJ_used_31 iJ_depth_1 jJ_ownName gJ_binder iJ_binders iJ_firstSet iJ_secondSet) (WL hL aL kL hT hM (.ref dF_tree) iL_names gL_key fL_kind fL_one fL_two fL_base iL_params fL_paramOver dL_paramOver nL_params fL_paramUnder dL_paramUnder nL_pu gL_over gL_under fL_bound iL_nameAt iL_startAt iL_steps jL_scaleOver jL_scaleUnder) (WF hF aF kF dF_tree nF_tree fF_tree_31) (WT hT aT kT fT_tape dT_tape nT_tape iT_length iT_fault_31 iT_place_31 iT_kind iT_at iT_number jT_name iT_next)
              obtain ⟨hP, hD⟩ := frameG p9 p8 hP hD hk1 hFc (fz_P ht hB9.1) hB9.2
              exact vx_out (fun x hx9 => (htab x hx9).elim) hlocks hc1 hc2 hc3 (fun t9_ ht hvm => ⟨(iJ_used_31, iJ_depth_1, gJ_binder, iJ_binders, fF_tree_31, iT_fault_31, iT_place_31, iT_kind, iT_at, iT_number, jT_name, iT_next), ⟨(by (try dsimp only); exact (by first | exact b_iJ_used_31 | with_reducible assumption | exact ⟨by omega, by omega⟩ | assumption)), (b_iJ_depth_1), (b_iJ_binders), (b_iT_at), (b_iT_number), (b_iT_next)⟩, ⟨(by have h9 := hEx; exact h9), by rw [ht]; exact hP, hD⟩, hS.F ht⟩) hS.2.2 (by decide +kernel) (by decide +kernel)
            revert u hw9 hB9
            refine fz_p4 ?_
            intro iJ_used_31 fF_tree_31 iT_fault_31 iT_place_31 hw9 hB9
            try dsimp only at hw9 hB9
            revert hw9
            refine fz_a5 ?_
            intro b_iJ_used_31 f31_0 f31_1 f31_2 f31_3
            have hz8 := hB9.2.2
            rw [ht] at hz8
            have hz9 : H.size ≤ s.heap.size + 0 := by rw [hz8]; exact hz0
            refine W.tight (cells2 := 0) (slots2 := 0) hz9 (nS_0 hz9) ?_
            clear hz8 hz9
            have p8 := cj_4_0_2_3 (WJ hJ aJ kJ hT hM hL (.ref dF_tree) iJ_used_31 iJ_depth_1 jJ_ownName gJ_binder iJ_binders iJ_firstSet iJ_secondSet) (WL hL aL kL hT hM (.ref dF_tree) iL_names gL_key fL_kind fL_one fL_two fL_base iL_params fL_paramOver dL_paramOver nL_params fL_paramUnder dL_paramUnder nL_pu gL_over gL_under fL_bound iL_nameAt iL_startAt iL_steps jL_scaleOver jL_scaleUnder) (WF hF aF kF dF_tree nF_tree fF_tree_31) (WT hT aT kT fT_tape dT_tape nT_tape iT_length iT_fault_31 iT_place_31 iT_kind iT_at iT_number jT_name iT_next)
            obtain ⟨hP, hD⟩ := frameG p9 p8 hP hD hk1 hFc (fz_P ht hB9.1) hB9.2.1
            have hNw := f31_3
            refine lv_istore_n hx hb dX4_factor_117 rfl hl (by decide) rfl (fun ls (hl : lv_has ls _ ([(1, .int r31), (0, .ref (hJ 0))])) => ?_)
            refine lv_aload_n hx hb dX4_factor_118 rfl (lv_at hl 1 rfl) ?_
            refine va_get (D := (dC, dI)) (ci := 4) (v := .ref (hT 0)) (C := RX4) (T := TX4) (N := 11) hx hb hts iwsMX4_factor_in4 hown hK hP 0 rfl rfl 0 (by decide) (hts _ hm_m_X4_factor_0) (fun _ h9 => h9) rfl dX4_factor_119 ?_
            have p9 := cj_4_3 (WJ hJ aJ kJ hT hM hL (.ref dF_tree) iJ_used_31 iJ_depth_1 jJ_ownName gJ_binder iJ_binders iJ_firstSet iJ_secondSet) (WL hL aL kL hT hM (.ref dF_tree) iL_names gL_key fL_kind fL_one fL_two fL_base iL_params fL_paramOver dL_paramOver nL_params fL_paramUnder dL_paramUnder nL_pu gL_over gL_under fL_bound iL_nameAt iL_startAt iL_steps jL_scaleOver jL_scaleUnder) (WF hF aF kF dF_tree nF_tree fF_tree_31) (WT hT aT kT fT_tape dT_tape nT_tape iT_length iT_fault_31 iT_place_31 iT_kind iT_at iT_number jT_name iT_next)
            have hPc := hP.mem (fun q h => p9.mem_iff.mpr (List.mem_append_left _ h))
            have hDc := (hD.perm p9).left
            have hKc : va_K (dC, dI) vwCl (tT kT) _ := hK.sub [12] rfl
            have hFc := freeG p9 hD hS hA
            refine va_callv (va_runV (As := []) (rest := []) ⟨hx, hb, hml, hown, hts⟩ (m_X9_advance l hst dC dI hT aT kT fT_tape dT_tape nT_tape iT_length iT_fault_31 iT_place_31 iT_kind iT_at iT_number jT_name iT_next b_fT_tape (by first | exact b_nT_tape | with_reducible assumption | exact ⟨by omega, by omega⟩ | assumption) (b_iT_length) (b_iT_at) (b_iT_number) (b_iT_next) (by first | with_reducible assumption | omega | assumption) (by first | with_reducible assumption | omega | (rw [iI_t (by omega) (by omega)]; omega) | decide | assumption) H.size) (cwV 0 hts gwsMX4_factor_3 rfl rfl rfl (by decide +kernel) ⟨by first | decide +kernel | (dsimp only [headSpec] <;> omega), by first | decide +kernel | (dsimp only [headSpec] <;> omega)⟩) (fz_preE (va_recv hK hP (ci := 9) (q0 := 14) rfl rfl) hPc hKc hDc (fun a U g mk qE => qE.call) (fun U hU9 hW => by rw [hU9]; exact (((hE : CE A s s.heap).kept hS.2.1).narrow (fun q h => hFc q h)).warm hW)) rfl rfl hl.1 rfl (lv_room (Nat.le_of_ble_eq_true rfl)) dX4_factor_122 ⟨by first | decide +kernel | (dsimp only [headSpec] <;> omega), by first | decide +kernel | (dsimp only [headSpec] <;> omega)⟩) hS (fun q _ h => hFc q h) hFc (fun u t9_ H locs ht hvm hw9 hB9 hz1 hk1 hS => ?_)
            revert u hw9 hB9
            refine fz_p5 ?_
            intro iT_kind_32 iT_at_32 iT_number_32 jT_name_32 iT_next_32 hw9 hB9
            try dsimp only at hw9 hB9
            revert hw9
            refine fz_a7 ?_
            intro b_iT_at_32 b_iT_number_32 b_iT_next_32 f32_0 f32_1 f32_2 f32_3
            have p8 := cj_4_3 (WJ hJ aJ kJ hT hM hL (.ref dF_tree) iJ_used_31 iJ_depth_1 jJ_ownName gJ_binder iJ_binders iJ_firstSet iJ_secondSet) (WL hL aL kL hT hM (.ref dF_tree) iL_names gL_key fL_kind fL_one fL_two fL_base iL_params fL_paramOver dL_paramOver nL_params fL_paramUnder dL_paramUnder nL_pu gL_over gL_under fL_bound iL_nameAt iL_startAt iL_steps jL_scaleOver jL_scaleUnder) (WF hF aF kF dF_tree nF_tree fF_tree_31) (WT hT aT kT fT_tape dT_tape nT_tape iT_length iT_fault_31 iT_place_31 iT_kind_32 iT_at_32 iT_number_32 jT_name_32 iT_next_32)
            obtain ⟨hP, hD⟩ := frameG p9 p8 hP hD hk1 hFc (fz_P ht hB9.1) hB9.2
            refine lv_aload_n hx hb dX4_factor_125 rfl (lv_at hl 1 rfl) ?_
            refine W.known (fun hz0 _ => ?_)
            have hFc := allFree hD hS hA
            refine vx_calli (vx_runV (As := []) (rest := []) ⟨hx, hb, hml, hown, hts⟩ (ih_X4_factor dC dI hJ aJ kJ hT hM hL iJ_used_31 iJ_depth_1 jJ_ownName gJ_binder iJ_binders iJ_firstSet iJ_secondSet aL kL iL_names gL_key fL_kind fL_one fL_two fL_base iL_params fL_paramOver dL_paramOver nL_params fL_paramUnder dL_paramUnder nL_pu gL_over gL_under fL_bound iL_nameAt iL_startAt iL_steps jL_scaleOver jL_scaleUnder hF aF kF dF_tree nF_tree fF_tree_31 aT kT fT_tape dT_tape nT_tape iT_length iT_fault_31 iT_place_31 iT_kind_32 iT_at_32 iT_number_32 jT_name_32 iT_next_32 (lv + 1) (b_iJ_used_31) (b_iJ_depth_1) (b_iJ_binders) (b_iJ_firstSet) (b_iJ_secondSet) (b_iL_names) b_fL_kind b_fL_two b_fL_base (b_iL_params) (by first | exact b_nL_params | with_reducible assumption | exact ⟨by omega, by omega⟩ | assumption) (by first | with_reducible assumption | omega | (rw [iI_t (by omega) (by omega)]; omega) | assumption) (by first | with_reducible assumption | omega | (rw [iI_t (by omega) (by omega)]; omega) | assumption) (by first | with_reducible assumption | omega | (rw [iI_t (by omega) (by omega)]; omega) | assumption) (by first | exact b_nF_tree | with_reducible assumption | exact ⟨by omega, by omega⟩ | assumption) b_fT_tape (by first | exact b_nT_tape | with_reducible assumption | exact ⟨by omega, by omega⟩ | assumption) (b_iT_length) (b_iT_at_32) (b_iT_number_32) (b_iT_next_32) (by first | with_reducible assumption | omega | assumption) (by first | with_reducible assumption | omega | (rw [iI_t (by omega) (by omega)]; omega) | decide | assumption) (by first | with_reducible assumption | omega | (rw [iI_t (by omega) (by omega)]; omega) | decide | assumption) (by first | with_reducible assumption | omega | (rw [iI_t (by omega) (by omega)]; omega) | decide | assumption) (by first | with_reducible assumption | omega | (rw [iI_t (by omega) (by omega)]; omega) | decide | assumption) (by first | with_reducible assumption | omega | (rw [iI_t (by omega) (by omega)]; omega) | decide | assumption) (by first | with_reducible assumption | omega | (rw [iI_t (by omega) (by omega)]; omega) | decide | assumption) (by first | with_reducible assumption | omega | (rw [iI_t (by omega) (by omega)]; omega) | decide | assumption) (by first | with_reducible assumption | omega | (rw [iI_t (by omega) (by omega)]; omega) | decide | assumption) H.size) (cwV 0 hts gwsMX4_factor_6 rfl rfl rfl (by decide +kernel) ⟨by first | decide +kernel | (dsimp only [headSpec] <;> omega), by first | decide +kernel | (dsimp only [headSpec] <;> omega)⟩) (fz_preE (va_recv hK hP (ci := 4) (q0 := 0) rfl rfl) hP hK hD (fun a U g mk qE => qE.call) (fun U hU9 hW => by rw [hU9]; exact (((hE : CE A s s.heap).kept hS.2.1).narrow (fun q h => hFc q h)).warm hW)) rfl rfl hl.1 rfl (lv_room (Nat.le_of_ble_eq_true rfl)) dX4_factor_126 ⟨by first | decide +kernel | (dsimp only [headSpec] <;> omega), by first | decide +kernel | (dsimp only [headSpec] <;> omega)⟩) hS (fun q _ h => hFc q h) hFc (fun q _ h => hFc q h) (fun E ce q9 u t9_ H locs ht hvm hw9 hB9 hz1 hk1 hS hc1 hc2 hc3 => ?_) (fun r33 u t9_ H locs ht hvm hw9 hB9 hz1 hk1 hS => ?_)
            · revert u hw9 hB9
              refine fz_p12 ?_
              intro iJ_used_33 iJ_depth_33 gJ_binder_33 iJ_binders_33 fF_tree_33 iT_fault_33 iT_place_33 iT_kind_33 iT_at_33 iT_number_33 jT_name_33 iT_next_33 hw9 hB9
              try dsimp only at hw9 hB9
              revert hB9
              refine fz_a2 ?_
              intro hEx hB9
              revert hw9
              refine fz_a6 ?_
              intro b_iJ_used_33 b_iJ_depth_33 b_iJ_binders_33 b_iT_at_33 b_iT_number_33 b_iT_next_33
              have hP : va_P (dC, dI) vwCl (WJ hJ aJ kJ hT hM hL (.ref dF_tree) iJ_used_33 iJ_depth_33 jJ_ownName gJ_binder_33 iJ_binders_33 iJ_firstSet iJ_secondSet ++ (WL hL aL kL hT hM (.ref dF_tree) iL_names gL_key fL_kind fL_one fL_two fL_base iL_params fL_paramOver dL_paramOver nL_params fL_paramUnder dL_paramUnder nL_pu gL_over gL_under fL_bound iL_nameAt iL_startAt iL_steps jL_scaleOver jL_scaleUnder ++ (WF hF aF kF dF_tree nF_tree fF_tree_33 ++ (WT hT aT kT fT_tape dT_tape nT_tape iT_length iT_fault_33 iT_place_33 iT_kind_33 iT_at_33 iT_number_33 jT_name_33 iT_next_33)))) H := fz_P ht hB9.1
              have hD := fz_sd hP (hB9.2.weaken (fun _ q _ h => hFc q.1 h)) rfl
              exact vx_out (fun x hx9 => (htab x hx9).elim) hlocks hc1 hc2 hc3 (fun t9_ ht hvm => ⟨(iJ_used_33, iJ_depth_33, gJ_binder_33, iJ_binders_33, fF_tree_33, iT_fault_33, iT_place_33, iT_kind_33, iT_at_33, iT_number_33, jT_name_33, iT_next_33), ⟨(b_iJ_used_33), (b_iJ_depth_33), (b_iJ_binders_33), (b_iT_at_33), (b_iT_number_33), (b_iT_next_33)⟩, ⟨(by have h9 := hEx; exact h9), by rw [ht]; exact hP, hD⟩, hS.F ht⟩) hS.2.2 (by decide +kernel) (by decide +kernel)
            revert u hw9 hB9
            refine fz_p12 ?_
            intro iJ_used_33 iJ_depth_33 gJ_binder_33 iJ_binders_33 fF_tree_33 iT_fault_33 iT_place_33 iT_kind_33 iT_at_33 iT_number_33 jT_name_33 iT_next_33 hw9 hB9
            try dsimp only at hw9 hB9
            revert hw9
            refine fz_a16 ?_
            intro b_iJ_used_33 b_iJ_depth_33 b_iJ_binders_33 b_iT_at_33 b_iT_number_33 b_iT_next_33 f33_0 f33_1 f33_2 f33_3 f33_4 f33_5 f33_6 f33_7 f33_8 f33_9
            have hz8 := hB9.2.2
            rw [ht] at hz8
            have hz9 : H.size ≤ s.heap.size + 0 := by rw [hz8]; exact hz0
            refine W.tight (cells2 := 0) (slots2 := 0) hz9 (nS_0 hz9) ?_
            clear hz8 hz9
            have hP : va_P (dC, dI) vwCl (WJ hJ aJ kJ hT hM hL (.ref dF_tree) iJ_used_33 iJ_depth_33 jJ_ownName gJ_binder_33 iJ_binders_33 iJ_firstSet iJ_secondSet ++ (WL hL aL kL hT hM (.ref dF_tree) iL_names gL_key fL_kind fL_one fL_two fL_base iL_params fL_paramOver dL_paramOver nL_params fL_paramUnder dL_paramUnder nL_pu gL_over gL_under fL_bound iL_nameAt iL_startAt iL_steps jL_scaleOver jL_scaleUnder ++ (WF hF aF kF dF_tree nF_tree fF_tree_33 ++ (WT hT aT kT fT_tape dT_tape nT_tape iT_length iT_fault_33 iT_place_33 iT_kind_33 iT_at_33 iT_number_33 jT_name_33 iT_next_33)))) H := fz_P ht hB9.1
            have hD := fz_sd hP (hB9.2.1.weaken (fun _ q _ h => hFc q.1 h)) rfl
            have hF1 := f33_1
            refine lv_istore_n hx hb dX4_factor_129 rfl hl (by decide) rfl (fun ls (hl : lv_has ls _ ([(2, .int r33), (1, .int r31), (0, .ref (hJ 0))])) => ?_)
            refine lv_aload_n hx hb dX4_factor_130 rfl (lv_at hl 2 rfl) ?_
            refine va_get (D := (dC, dI)) (ci := 4) (v := .ref dF_tree) (C := RX4) (T := TX4) (N := 11) hx hb hts iwsMX4_factor_in4 hown hK hP 0 rfl rfl 3 (by decide) (hts _ hm_m_X4_factor_1) (fun _ h9 => h9) rfl dX4_factor_131 ?_
            refine lv_iload_n hx hb dX4_factor_134 rfl (lv_at hl 1 rfl) ?_
            refine lv_iconst (v := 3) hx hb dX4_factor_135 (by decide) ?_
            refine lv_iadd hx hb dX4_factor_136 ?_
            refine lv_topi (fun y34 hy34 => ?_)
            obtain rfl : (iI (r31.toInt + 3)) = y34 := (hy34.trans (iI_add2 (iI_of _) (by decide : (3 : Int32) = iI 3))).symm
            refine lv_iload_n hx hb dX4_factor_137 rfl (lv_at hl 0 rfl) ?_
            refine va_iast (cA := kF 0) (n := nF_tree) (f := fF_tree_33) hx hb hK hP hD hS 13 11 rfl rfl (vp_iI (by omega) (by omega) (by omega)) dX4_factor_138 (fun H locs hP hD hS => ?_)
            obtain ⟨u35, hu35⟩ : ∃ f9, f9 = upd fF_tree_33 ((iI (r31.toInt + 3))).toNatClampNeg r33 := ⟨_, rfl⟩
            have hP : va_P (dC, dI) vwCl (WJ hJ aJ kJ hT hM hL (.ref dF_tree) iJ_used_33 iJ_depth_33 jJ_ownName gJ_binder_33 iJ_binders_33 iJ_firstSet iJ_secondSet ++ (WL hL aL kL hT hM (.ref dF_tree) iL_names gL_key fL_kind fL_one fL_two fL_base iL_params fL_paramOver dL_paramOver nL_params fL_paramUnder dL_paramUnder nL_pu gL_over gL_under fL_bound iL_nameAt iL_startAt iL_steps jL_scaleOver jL_scaleUnder ++ (WF hF aF kF dF_tree nF_tree u35 ++ (WT hT aT kT fT_tape dT_tape nT_tape iT_length iT_fault_33 iT_place_33 iT_kind_33 iT_at_33 iT_number_33 jT_name_33 iT_next_33)))) H := by rw [hu35]; exact hP
            have hD : va_D A (WJ hJ aJ kJ hT hM hL (.ref dF_tree) iJ_used_33 iJ_depth_33 jJ_ownName gJ_binder_33 iJ_binders_33 iJ_firstSet iJ_secondSet ++ (WL hL aL kL hT hM (.ref dF_tree) iL_names gL_key fL_kind fL_one fL_two fL_base iL_params fL_paramOver dL_paramOver nL_params fL_paramUnder dL_paramUnder nL_pu gL_over gL_under fL_bound iL_nameAt iL_startAt iL_steps jL_scaleOver jL_scaleUnder ++ (WF hF aF kF dF_tree nF_tree u35 ++ (WT hT aT kT fT_tape dT_tape nT_tape iT_length iT_fault_33 iT_place_33 iT_kind_33 iT_at_33 iT_number_33 jT_name_33 iT_next_33)))) := by rw [hu35]; exact hD
            have b_u35 : WrL fF_tree_33 u35 (r31.toInt + 3) r33.toInt := by rw [hu35]; exact WrL.ofx rfl (by omega) (by omega)
            clear hu35
            refine lv_goto (tgt := 189) hx hb dX4_factor_139 (by decide) ?_
            have hl : lv_has _ _ ([(1, .int r31), (0, .ref (hJ 0))]) := lv_sub hl [1, 2] rfl
            exact join2 _ _ _ _ ⟨iJ_used_33, iJ_depth_33, gJ_binder_33, iJ_binders_33, u35, iT_fault_33, iT_place_33, iT_kind_33, iT_at_33, iT_number_33, jT_name_33, iT_next_33, r31, (b_iJ_used_33), (b_iJ_depth_33), (b_iJ_binders_33), (b_iT_at_33), (b_iT_number_33), (b_iT_next_33), (show iT_at.toInt ≤ iT_at_33.toInt from by omega), (show iT_at_33.toInt ≤ iT_next_33.toInt from by first | done | assumption | omega | (rw [iI_t (by omega) (by omega)]; omega)), (show iT_next_33.toInt ≤ iT_length.toInt from by first | done | assumption | omega | (rw [iI_t (by omega) (by omega)]; omega)), (show (iT_kind_33.toInt = 44 ∨ iT_kind_33.toInt = 61) → iT_at_33.toInt < iT_next_33.toInt from by first | done | assumption | omega | (rw [iI_t (by omega) (by omega)]; omega)), (show iJ_used.toInt + 7 ≤ iJ_used_33.toInt from by omega), (show iJ_used_33.toInt ≤ ((nF_tree : Nat) : Int) from by first | done | assumption | omega | (rw [iI_t (by omega) (by omega)]; omega)), (show iJ_used_33.toInt % 7 = 0 from by omega), (show iJ_depth_33.toInt = (lv : Int) from by omega), (show FiL fF_tree u35 fL_kind fL_one fL_two iL_names.toInt iJ_used.toInt iJ_used_33.toInt 3 lv from by first | exact hF1 | exact FiL.leaf hNw hu1 hu7 (by omega) b_u35 (by omega) (by omega) (fun V _ h9 => nd3 h9) | exact FiL.one hNw hu1 hu7 (by omega) (by omega) hF1 b_u35 (by omega) (by omega) (fun V h8 h9 => nd6 h9 h8) | exact FiL.one hNw hu1 hu7 (by omega) (by omega) hF1 b_u35 (by omega) (by omega) (fun V h8 h9 => nd7 h9 h8)), (show r31.toInt = iJ_used.toInt from by omega), rfl, hP, hD, hS, hl⟩
          · have ts_14_45 : ¬ iT_kind.toInt = 45 := toI_neq s_14_45 rfl (by decide)
            by_cases s_14_268 : iT_kind = 268
            · have ts_14_268 : iT_kind.toInt = 268 := toI_eq s_14_268 rfl (by decide)
              refine lv_lookup (off := 89) (tgt := 103) hx hb dX4_factor_14 (by decide) (by rw [s_14_268]; decide) (by decide) ?_
              refine lv_aload_n hx hb dX4_factor_103 rfl (lv_at hl 1 rfl) ?_
              refine W.known (fun hz0 _ => ?_)
              have hFc := allFree hD hS hA
              refine vx_calli (vx_runV (As := []) (rest := []) ⟨hx, hb, hml, hown, hts⟩ (ih_X4_summed dC dI hJ aJ kJ hT hM hL iJ_used iJ_depth_1 jJ_ownName gJ_binder iJ_binders iJ_firstSet iJ_secondSet aL kL iL_names gL_key fL_kind fL_one fL_two fL_base iL_params fL_paramOver dL_paramOver nL_params fL_paramUnder dL_paramUnder nL_pu gL_over gL_under fL_bound iL_nameAt iL_startAt iL_steps jL_scaleOver jL_scaleUnder hF aF kF dF_tree nF_tree fF_tree aT kT fT_tape dT_tape nT_tape iT_length iT_fault_1 iT_place_1 iT_kind iT_at iT_number jT_name iT_next lv (b_iJ_used) (b_iJ_depth_1) (b_iJ_binders) (b_iJ_firstSet) (b_iJ_secondSet) (b_iL_names) b_fL_kind b_fL_two b_fL_base (b_iL_params) (by first | exact b_nL_params | with_reducible assumption | exact ⟨by omega, by omega⟩ | assumption) (by first | with_reducible assumption | omega | (rw [iI_t (by omega) (by omega)]; omega) | assumption) (by first | with_reducible assumption | omega | (rw [iI_t (by omega) (by omega)]; omega) | assumption) (by first | with_reducible assumption | omega | (rw [iI_t (by omega) (by omega)]; omega) | assumption) (by first | exact b_nF_tree | with_reducible assumption | exact ⟨by omega, by omega⟩ | assumption) b_fT_tape (by first | exact b_nT_tape | with_reducible assumption | exact ⟨by omega, by omega⟩ | assumption) (b_iT_length) (b_iT_at) (b_iT_number) (b_iT_next) (by first | with_reducible assumption | omega | assumption) (by first | with_reducible assumption | omega | (rw [iI_t (by omega) (by omega)]; omega) | decide | assumption) (by first | with_reducible assumption | omega | (rw [iI_t (by omega) (by omega)]; omega) | decide | assumption) (by first | with_reducible assumption | omega | (rw [iI_t (by omega) (by omega)]; omega) | decide | assumption) (by first | with_reducible assumption | omega | (rw [iI_t (by omega) (by omega)]; omega) | decide | assumption) (by first | with_reducible assumption | omega | (rw [iI_t (by omega) (by omega)]; omega) | decide | assumption) (by first | with_reducible assumption | omega | (rw [iI_t (by omega) (by omega)]; omega) | decide | assumption) (by first | with_reducible assumption | omega | (rw [iI_t (by omega) (by omega)]; omega) | decide | assumption) (by first | with_reducible assumption | omega | (rw [iI_t (by omega) (by omega)]; omega) | decide | assumption) H.size) (cwV 0 hts gwsMX4_factor_7 rfl rfl rfl (by decide +kernel) ⟨by first | decide +kernel | (dsimp only [headSpec] <;> omega), by first | decide +kernel | (dsimp only [headSpec] <;> omega)⟩) (fz_preE (va_recv hK hP (ci := 4) (q0 := 0) rfl rfl) hP hK hD (fun a U g mk qE => qE.call) (fun U hU9 hW => by rw [hU9]; exact (((hE : CE A s s.heap).kept hS.2.1).narrow (fun q h => hFc q h)).warm hW)) rfl rfl hl.1 rfl (lv_room (Nat.le_of_ble_eq_true rfl)) dX4_factor_104 ⟨by first | decide +kernel | (dsimp only [headSpec] <;> omega), by first | decide +kernel | (dsimp only [headSpec] <;> omega)⟩) hS (fun q _ h => hFc q h) hFc (fun q _ h => hFc q h) (fun E ce q9 u t9_ H locs ht hvm hw9 hB9 hz1 hk1 hS hc1 hc2 hc3 => ?_) (fun r36 u t9_ H locs ht hvm hw9 hB9 hz1 hk1 hS => ?_)
              · revert u hw9 hB9
                refine fz_p12 ?_
                intro iJ_used_36 iJ_depth_36 gJ_binder_36 iJ_binders_36 fF_tree_36 iT_fault_36 iT_place_36 iT_kind_36 iT_at_36 iT_number_36 jT_name_36 iT_next_36 hw9 hB9
                try dsimp only at hw9 hB9
                revert hB9
                refine fz_a2 ?_
                intro hEx hB9
                revert hw9
                refine fz_a6 ?_
                intro b_iJ_used_36 b_iJ_depth_36 b_iJ_binders_36 b_iT_at_36 b_iT_number_36 b_iT_next_36
                have hP : va_P (dC, dI) vwCl (WJ hJ aJ kJ hT hM hL (.ref dF_tree) iJ_used_36 iJ_depth_36 jJ_ownName gJ_binder_36 iJ_binders_36 iJ_firstSet iJ_secondSet ++ (WL hL aL kL hT hM (.ref dF_tree) iL_names gL_key fL_kind fL_one fL_two fL_base iL_params fL_paramOver dL_paramOver nL_params fL_paramUnder dL_paramUnder nL_pu gL_over gL_under fL_bound iL_nameAt iL_startAt iL_steps jL_scaleOver jL_scaleUnder ++ (WF hF aF kF dF_tree nF_tree fF_tree_36 ++ (WT hT aT kT fT_tape dT_tape nT_tape iT_length iT_fault_36 iT_place_36 iT_kind_36 iT_at_36 iT_number_36 jT_name_36 iT_next_36)))) H := fz_P ht hB9.1
                have hD := fz_sd hP (hB9.2.weaken (fun _ q _ h => hFc q.1 h)) rfl
                exact vx_out (fun x hx9 => (htab x hx9).elim) hlocks hc1 hc2 hc3 (fun t9_ ht hvm => ⟨(iJ_used_36, iJ_depth_36, gJ_binder_36, iJ_binders_36, fF_tree_36, iT_fault_36, iT_place_36, iT_kind_36, iT_at_36, iT_number_36, jT_name_36, iT_next_36), ⟨(b_iJ_used_36), (b_iJ_depth_36), (b_iJ_binders_36), (b_iT_at_36), (b_iT_number_36), (b_iT_next_36)⟩, ⟨(by have h9 := hEx; exact h9), by rw [ht]; exact hP, hD⟩, hS.F ht⟩) hS.2.2 (by decide +kernel) (by decide +kernel)
              revert u hw9 hB9
              refine fz_p12 ?_
              intro iJ_used_36 iJ_depth_36 gJ_binder_36 iJ_binders_36 fF_tree_36 iT_fault_36 iT_place_36 iT_kind_36 iT_at_36 iT_number_36 jT_name_36 iT_next_36 hw9 hB9
              try dsimp only at hw9 hB9
              revert hw9
              refine fz_a16 ?_
              intro b_iJ_used_36 b_iJ_depth_36 b_iJ_binders_36 b_iT_at_36 b_iT_number_36 b_iT_next_36 f36_0 f36_1 f36_2 f36_3 f36_4 f36_5 f36_6 f36_7 f36_8 f36_9
              have hz8 := hB9.2.2
              rw [ht] at hz8
              have hz9 : H.size ≤ s.heap.size + 0 := by rw [hz8]; exact hz0
              refine W.tight (cells2 := 0) (slots2 := 0) hz9 (nS_0 hz9) ?_
              clear hz8 hz9
              have hP : va_P (dC, dI) vwCl (WJ hJ aJ kJ hT hM hL (.ref dF_tree) iJ_used_36 iJ_depth_36 jJ_ownName gJ_binder_36 iJ_binders_36 iJ_firstSet iJ_secondSet ++ (WL hL aL kL hT hM (.ref dF_tree) iL_names gL_key fL_kind fL_one fL_two fL_base iL_params fL_paramOver dL_paramOver nL_params fL_paramUnder dL_paramUnder nL_pu gL_over gL_under fL_bound iL_nameAt iL_startAt iL_steps jL_scaleOver jL_scaleUnder ++ (WF hF aF kF dF_tree nF_tree fF_tree_36 ++ (WT hT aT kT fT_tape dT_tape nT_tape iT_length iT_fault_36 iT_place_36 iT_kind_36 iT_at_36 iT_number_36 jT_name_36 iT_next_36)))) H := fz_P ht hB9.1
              have hD := fz_sd hP (hB9.2.1.weaken (fun _ q _ h => hFc q.1 h)) rfl
              have hF1 := f36_1
              refine lv_istore_n hx hb dX4_factor_107 rfl hl (by decide) rfl (fun ls (hl : lv_has ls _ ([(1, .int r36), (0, .ref (hJ 0))])) => ?_)
              refine lv_goto (tgt := 189) hx hb dX4_factor_108 (by decide) ?_
              have hl : lv_has _ _ ([(1, .int r36), (0, .ref (hJ 0))]) := lv_sub hl [0, 1] rfl
              exact join2 _ _ _ _ ⟨iJ_used_36, iJ_depth_36, gJ_binder_36, iJ_binders_36, fF_tree_36, iT_fault_36, iT_place_36, iT_kind_36, iT_at_36, iT_number_36, jT_name_36, iT_next_36, r36, (b_iJ_used_36), (b_iJ_depth_36), (b_iJ_binders_36), (b_iT_at_36), (b_iT_number_36), (b_iT_next_36), (show iT_at.toInt ≤ iT_at_36.toInt from by omega), (show iT_at_36.toInt ≤ iT_next_36.toInt from by first | done | assumption | omega | (rw [iI_t (by omega) (by omega)]; omega)), (show iT_next_36.toInt ≤ iT_length.toInt from by first | done | assumption | omega | (rw [iI_t (by omega) (by omega)]; omega)), (show (iT_kind_36.toInt = 44 ∨ iT_kind_36.toInt = 61) → iT_at_36.toInt < iT_next_36.toInt from by first | done | assumption | omega | (rw [iI_t (by omega) (by omega)]; omega)), (show iJ_used.toInt + 7 ≤ iJ_used_36.toInt from by omega), (show iJ_used_36.toInt ≤ ((nF_tree : Nat) : Int) from by first | done | assumption | omega | (rw [iI_t (by omega) (by omega)]; omega)), (show iJ_used_36.toInt % 7 = 0 from by omega), (show iJ_depth_36.toInt = (lv : Int) from by omega), (show FiL fF_tree fF_tree_36 fL_kind fL_one fL_two iL_names.toInt iJ_used.toInt iJ_used_36.toInt 3 lv from by first | exact hF1 | exact FiL.leaf hNw hu1 hu7 (by omega) b_u35 (by omega) (by omega) (fun V _ h9 => nd3 h9) | exact FiL.one hNw hu1 hu7 (by omega) (by omega) hF1 b_u35 (by omega) (by omega) (fun V h8 h9 => nd6 h9 h8) | exact FiL.one hNw hu1 hu7 (by omega) (by omega) hF1 b_u35 (by omega) (by omega) (fun V h8 h9 => nd7 h9 h8)), (show r36.toInt = iJ_used.toInt from by omega), rfl, hP, hD, hS, hl⟩
            · have ts_14_268 : ¬ iT_kind.toInt = 268 := toI_neq s_14_268 rfl (by decide)
              refine lv_lookup (off := 168) (tgt := 182) hx hb dX4_factor_14 (by decide) (by show Op.lookupswitch.offset [(1, 81), (2, 50), (40, 128), (45, 97), (268, 89)] 168 _ = 168; rw [Op.lookupswitch.offset_cons, if_neg (lk_ne s_14_1 (show Int32.toInt 1 = 1 by decide)), Op.lookupswitch.offset_cons, if_neg (lk_ne s_14_2 (show Int32.toInt 2 = 2 by decide)), Op.lookupswitch.offset_cons, if_neg (lk_ne s_14_40 (show Int32.toInt 40 = 40 by decide)), Op.lookupswitch.offset_cons, if_neg (lk_ne s_14_45 (show Int32.toInt 45 = 45 by decide)), Op.lookupswitch.offset_cons, if_neg (lk_ne s_14_268 (show Int32.toInt 268 = 268 by decide))]; rfl) (by decide) ?_
              refine lv_aload_n hx hb dX4_factor_182 rfl (lv_at hl 1 rfl) ?_
              refine va_get (D := (dC, dI)) (ci := 4) (v := .ref (hT 0)) (C := RX4) (T := TX4) (N := 11) hx hb hts iwsMX4_factor_in4 hown hK hP 0 rfl rfl 0 (by decide) (hts _ hm_m_X4_factor_0) (fun _ h9 => h9) rfl dX4_factor_183 ?_
              have p9 := cj_4_3 (WJ hJ aJ kJ hT hM hL (.ref dF_tree) iJ_used iJ_depth_1 jJ_ownName gJ_binder iJ_binders iJ_firstSet iJ_secondSet) (WL hL aL kL hT hM (.ref dF_tree) iL_names gL_key fL_kind fL_one fL_two fL_base iL_params fL_paramOver dL_paramOver nL_params fL_paramUnder dL_paramUnder nL_pu gL_over gL_under fL_bound iL_nameAt iL_startAt iL_steps jL_scaleOver jL_scaleUnder) (WF hF aF kF dF_tree nF_tree fF_tree) (WT hT aT kT fT_tape dT_tape nT_tape iT_length iT_fault_1 iT_place_1 iT_kind iT_at iT_number jT_name iT_next)
              have hPc := hP.mem (fun q h => p9.mem_iff.mpr (List.mem_append_left _ h))
              have hDc := (hD.perm p9).left
              have hKc : va_K (dC, dI) vwCl (tT kT) _ := hK.sub [12] rfl
              have hFc := freeG p9 hD hS hA
              refine vx_callv (vx_runV (As := []) (rest := []) ⟨hx, hb, hml, hown, hts⟩ (m_X9_failWord l hst dC dI hT aT kT fT_tape dT_tape nT_tape iT_length iT_fault_1 iT_place_1 iT_kind iT_at iT_number jT_name iT_next b_fT_tape (by first | exact b_nT_tape | with_reducible assumption | exact ⟨by omega, by omega⟩ | assumption) (b_iT_length) (b_iT_at) (b_iT_number) (b_iT_next) (by first | with_reducible assumption | omega | assumption) H.size) (cwV 0 hts gwsMX4_factor_8 rfl rfl rfl (by decide +kernel) ⟨by first | decide +kernel | (dsimp only [headSpec] <;> omega), by first | decide +kernel | (dsimp only [headSpec] <;> omega)⟩) (fz_preE (va_recv hK hP (ci := 9) (q0 := 14) rfl rfl) hPc hKc hDc (fun a U g mk qE => qE.call) (fun U hU9 hW => by rw [hU9]; exact (((hE : CE A s s.heap).kept hS.2.1).narrow (fun q h => hFc q h)).warm hW)) rfl rfl hl.1 rfl (lv_room (Nat.le_of_ble_eq_true rfl)) dX4_factor_186 ⟨by first | decide +kernel | (dsimp only [headSpec] <;> omega), by first | decide +kernel | (dsimp only [headSpec] <;> omega)⟩) hS (fun q _ h => hFc q h) hFc (fun q _ h => hFc q h) (fun E ce q9 u t9_ H locs ht hvm hw9 hB9 hz1 hk1 hS hc1 hc2 hc3 => ?_) (fun u t9_ H1 locs ht hvm hw9 hB9 hz1 hk1 hS => ?_)
              · revert u hw9 hB9
                refine fz_p2 ?_
                intro iT_fault_37 iT_place_37 hw9 hB9
                try dsimp only at hw9 hB9
                revert hB9
                refine fz_a2 ?_
                intro hEx hB9
                clear hw9
                have p8 := cj_4_3 (WJ hJ aJ kJ hT hM hL (.ref dF_tree) iJ_used iJ_depth_1 jJ_ownName gJ_binder iJ_binders iJ_firstSet iJ_secondSet) (WL hL aL kL hT hM (.ref dF_tree) iL_names gL_key fL_kind fL_one fL_two fL_base iL_params fL_paramOver dL_paramOver nL_params fL_paramUnder dL_paramUnder nL_pu gL_over gL_under fL_bound iL_nameAt iL_startAt iL_steps jL_scaleOver jL_scaleUnder) (WF hF aF kF dF_tree nF_tree fF_tree) (WT hT aT kT fT_tape dT_tape nT_tape iT_length iT_fault_37 iT_place_37 iT_kind iT_at iT_number jT_name iT_next)
                obtain ⟨hP, hD⟩ := frameG p9 p8 hP hD hk1 hFc (fz_P ht hB9.1) hB9.2
                exact vx_out (fun x hx9 => (htab x hx9).elim) hlocks hc1 hc2 hc3 (fun t9_ ht hvm => ⟨(iJ_used, iJ_depth_1, gJ_binder, iJ_binders, fF_tree, iT_fault_37, iT_place_37, iT_kind, iT_at, iT_number, jT_name, iT_next), ⟨(b_iJ_used), (b_iJ_depth_1), (b_iJ_binders), (b_iT_at), (b_iT_number), (b_iT_next)⟩, ⟨(by have h9 := hEx; exact h9), by rw [ht]; exact hP, hD⟩, hS.F ht⟩) hS.2.2 (by decide +kernel) (by decide +kernel)
              exact False.elim hw9
  · rintro H locs ls stk ⟨iJ_used_j2, iJ_depth_j2, gJ_binder_j2, iJ_binders_j2, fF_tree_j2, iT_fault_j2, iT_place_j2, iT_kind_j2, iT_at_j2, iT_number_j2, jT_name_j2, iT_next_j2, l1_j2, b_iJ_used_j2, b_iJ_depth_j2, b_iJ_binders_j2, b_iT_at_j2, b_iT_number_j2, b_iT_next_j2, hq0, hq1, hq2, hq3, hu1x, hu2x, hu7x, hdx, hFi, hrr, rfl, hP, hD, hS, hl⟩
    refine lv_aload_n hx hb dX4_factor_189 rfl (lv_at hl 1 rfl) ?_
    refine lv_dup hx hb dX4_factor_190 rfl ?_
    refine va_get (D := (dC, dI)) (ci := 4) (v := .int iJ_depth_j2) (C := RX4) (T := TX4) (N := 11) hx hb hts iwsMX4_factor_in4 hown hK hP 0 rfl rfl 5 (by decide) (hts _ hm_m_X4_factor_2) (fun _ h9 => h9) rfl dX4_factor_191 ?_
    refine lv_iconst (v := 1) hx hb dX4_factor_194 (by decide) ?_
    refine lv_isub hx hb dX4_factor_195 ?_
    refine lv_topi (fun y38 hy38 => ?_)
    obtain rfl : (iI (iJ_depth_j2.toInt - 1)) = y38 := (hy38.trans (iI_sub2 (iI_of _) (by decide : (1 : Int32) = iI 1))).symm
    refine va_put (D := (dC, dI)) (ci := 4) (v := .int (iI (iJ_depth_j2.toInt - 1))) (ty := .int) (C := RX4) (T := TX4) (N := 11) hx hb hts iwsMX4_factor_in4 tyX4 tyX4_ok nmX4 hown hK hP hD hS 0 rfl rfl 5 (by decide) (hts _ hm_m_X4_factor_2) (fun _ h9 => h9) rfl (by decide +kernel) rfl rfl (Nat.le_of_ble_eq_true rfl) dX4_factor_196 (fun H locs hP hD hS => ?_)
    have hP : va_P (dC, dI) vwCl (WJ hJ aJ kJ hT hM hL (.ref dF_tree) iJ_used_j2 (iI (iJ_depth_j2.toInt - 1)) jJ_ownName gJ_binder_j2 iJ_binders_j2 iJ_firstSet iJ_secondSet ++ (WL hL aL kL hT hM (.ref dF_tree) iL_names gL_key fL_kind fL_one fL_two fL_base iL_params fL_paramOver dL_paramOver nL_params fL_paramUnder dL_paramUnder nL_pu gL_over gL_under fL_bound iL_nameAt iL_startAt iL_steps jL_scaleOver jL_scaleUnder ++ (WF hF aF kF dF_tree nF_tree fF_tree_j2 ++ (WT hT aT kT fT_tape dT_tape nT_tape iT_length iT_fault_j2 iT_place_j2 iT_kind_j2 iT_at_j2 iT_number_j2 jT_name_j2 iT_next_j2)))) H := hP
    have hD := fz_sd hP (hD) rfl
    refine lv_iload_n hx hb dX4_factor_199 rfl (lv_at hl 0 rfl) ?_
    refine vx_ret ?_
    refine W.known (fun hz9 _ => ?_)
    refine W.widen (k := 1) (n := 6) (by decide +kernel) (by decide +kernel) ?_
    exact W.iret (v := l1_j2) hx hb hr (fun t9_ ht hW => ⟨⟨l1_j2, (iJ_used_j2, (iI (iJ_depth_j2.toInt - 1)), gJ_binder_j2, iJ_binders_j2, fF_tree_j2, iT_fault_j2, iT_place_j2, iT_kind_j2, iT_at_j2, iT_number_j2, jT_name_j2, iT_next_j2), rfl, ⟨b_iJ_used_j2, (by (try dsimp only); exact (iI_rng (by omega) (Int.le_trans (Int.sub_le_sub (b_iJ_depth_j2.2) (Int.le_refl _)) (by decide)) (by decide) (by decide))), b_iJ_binders_j2, b_iT_at_j2, b_iT_number_j2, b_iT_next_j2, (by (try dsimp only); first | done | assumption | omega | (rw [iI_t (by omega) (by omega)]; omega)), (by (try dsimp only); exact (hFi)), (by (try dsimp only); first | done | assumption | omega | (rw [iI_t (by omega) (by omega)]; omega)), (by (try dsimp only); first | done | assumption | omega | (rw [iI_t (by omega) (by omega)]; omega)), (by (try dsimp only); first | done | assumption | omega | (rw [iI_t (by omega) (by omega)]; omega)), (by (try dsimp only); first | done | assumption | omega | (rw [iI_t (by omega) (by omega)]; omega)), (by (try dsimp only); omega), (by (try dsimp only); first | done | assumption | omega | (rw [iI_t (by omega) (by omega)]; omega)), (by (try dsimp only); first | done | assumption | omega | (rw [iI_t (by omega) (by omega)]; omega)), (by (try dsimp only); first | done | assumption | omega | (rw [iI_t (by omega) (by omega)]; omega))⟩, by rw [ht]; exact hP, hD, by rw [ht]; first | done | exact Nat.le_antisymm hz9 hS.1⟩, hS.F ht⟩) hS.2.2 dX4_factor_200
theorem dX4_named_0 : decode cX4_named 0 = .ok (.aload_n 0, 1) := dk_42 (by decide +kernel)
theorem dX4_named_1 : decode cX4_named 1 = .ok (.aload_n 0, 1) := dk_42 (by decide +kernel)
theorem dX4_named_2 : decode cX4_named 2 = .ok (.getfield 19, 3) := dk_180 (by decide +kernel)
theorem dX4_named_5 : decode cX4_named 5 = .ok (.getfield 106, 3) := dk_180 (by decide +kernel)
theorem dX4_named_8 : decode cX4_named 8 = .ok (.invokevirtual 224, 3) := dk_182 (by decide +kernel)
theorem dX4_named_11 : decode cX4_named 11 = .ok (.istore_n 1, 1) := dk_60 (by decide +kernel)
theorem dX4_named_12 : decode cX4_named 12 = .ok (.iload_n 1, 1) := dk_27 (by decide +kernel)
theorem dX4_named_13 : decode cX4_named 13 = .ok (.iconst (-1), 1) := dk_2 (by decide +kernel)
theorem dX4_named_14 : decode cX4_named 14 = .ok (.if_icmp .eq 27, 3) := dk_159 (by decide +kernel)
theorem dX4_named_17 : decode cX4_named 17 = .ok (.aload_n 0, 1) := dk_42 (by decide +kernel)
theorem dX4_named_18 : decode cX4_named 18 = .ok (.iconst 4, 1) := dk_7 (by decide +kernel)
theorem dX4_named_19 : decode cX4_named 19 = .ok (.invokevirtual 217, 3) := dk_182 (by decide +kernel)
theorem dX4_named_22 : decode cX4_named 22 = .ok (.istore_n 2, 1) := dk_61 (by decide +kernel)
theorem dX4_named_23 : decode cX4_named 23 = .ok (.aload_n 0, 1) := dk_42 (by decide +kernel)
theorem dX4_named_24 : decode cX4_named 24 = .ok (.getfield 11, 3) := dk_180 (by decide +kernel)
theorem dX4_named_27 : decode cX4_named 27 = .ok (.iload_n 2, 1) := dk_28 (by decide +kernel)
theorem dX4_named_28 : decode cX4_named 28 = .ok (.iconst 3, 1) := dk_6 (by decide +kernel)
theorem dX4_named_29 : decode cX4_named 29 = .ok (.iadd, 1) := dk_96 (by decide +kernel)
theorem dX4_named_30 : decode cX4_named 30 = .ok (.iload_n 1, 1) := dk_27 (by decide +kernel)
theorem dX4_named_31 : decode cX4_named 31 = .ok (.iastore, 1) := dk_79 (by decide +kernel)
theorem dX4_named_32 : decode cX4_named 32 = .ok (.aload_n 0, 1) := dk_42 (by decide +kernel)
theorem dX4_named_33 : decode cX4_named 33 = .ok (.getfield 19, 3) := dk_180 (by decide +kernel)
theorem dX4_named_36 : decode cX4_named 36 = .ok (.invokevirtual 119, 3) := dk_182 (by decide +kernel)
theorem dX4_named_39 : decode cX4_named 39 = .ok (.iload_n 2, 1) := dk_28 (by decide +kernel)
theorem dX4_named_40 : decode cX4_named 40 = .ok (.ireturn, 1) := dk_172 (by decide +kernel)
theorem dX4_named_41 : decode cX4_named 41 = .ok (.aload_n 0, 1) := dk_42 (by decide +kernel)
theorem dX4_named_42 : decode cX4_named 42 = .ok (.getfield 32, 3) := dk_180 (by decide +kernel)
theorem dX4_named_45 : decode cX4_named 45 = .ok (.aload_n 0, 1) := dk_42 (by decide +kernel)
theorem dX4_named_46 : decode cX4_named 46 = .ok (.getfield 19, 3) := dk_180 (by decide +kernel)
theorem dX4_named_49 : decode cX4_named 49 = .ok (.getfield 106, 3) := dk_180 (by decide +kernel)
theorem dX4_named_52 : decode cX4_named 52 = .ok (.invokevirtual 230, 3) := dk_182 (by decide +kernel)
theorem dX4_named_55 : decode cX4_named 55 = .ok (.istore_n 2, 1) := dk_61 (by decide +kernel)
theorem dX4_named_56 : decode cX4_named 56 = .ok (.iload_n 2, 1) := dk_28 (by decide +kernel)
theorem dX4_named_57 : decode cX4_named 57 = .ok (.iconst (-1), 1) := dk_2 (by decide +kernel)
theorem dX4_named_58 : decode cX4_named 58 = .ok (.if_icmp .ne 11, 3) := dk_160 (by decide +kernel)
theorem dX4_named_61 : decode cX4_named 61 = .ok (.aload_n 0, 1) := dk_42 (by decide +kernel)
theorem dX4_named_62 : decode cX4_named 62 = .ok (.getfield 19, 3) := dk_180 (by decide +kernel)
theorem dX4_named_65 : decode cX4_named 65 = .ok (.iconst 3, 1) := dk_6 (by decide +kernel)
theorem dX4_named_66 : decode cX4_named 66 = .ok (.invokevirtual 103, 3) := dk_182 (by decide +kernel)
theorem dX4_named_69 : decode cX4_named 69 = .ok (.aload_n 0, 1) := dk_42 (by decide +kernel)
theorem dX4_named_70 : decode cX4_named 70 = .ok (.iconst 5, 1) := dk_8 (by decide +kernel)
theorem dX4_named_71 : decode cX4_named 71 = .ok (.invokevirtual 217, 3) := dk_182 (by decide +kernel)
theorem dX4_named_74 : decode cX4_named 74 = .ok (.istore_n 3, 1) := dk_62 (by decide +kernel)
theorem dX4_named_75 : decode cX4_named 75 = .ok (.aload_n 0, 1) := dk_42 (by decide +kernel)
theorem dX4_named_76 : decode cX4_named 76 = .ok (.getfield 11, 3) := dk_180 (by decide +kernel)
theorem dX4_named_79 : decode cX4_named 79 = .ok (.iload_n 3, 1) := dk_29 (by decide +kernel)
theorem dX4_named_80 : decode cX4_named 80 = .ok (.iconst 3, 1) := dk_6 (by decide +kernel)
theorem dX4_named_81 : decode cX4_named 81 = .ok (.iadd, 1) := dk_96 (by decide +kernel)
theorem dX4_named_82 : decode cX4_named 82 = .ok (.iload_n 2, 1) := dk_28 (by decide +kernel)
theorem dX4_named_83 : decode cX4_named 83 = .ok (.iastore, 1) := dk_79 (by decide +kernel)
theorem dX4_named_84 : decode cX4_named 84 = .ok (.aload_n 0, 1) := dk_42 (by decide +kernel)
theorem dX4_named_85 : decode cX4_named 85 = .ok (.getfield 19, 3) := dk_180 (by decide +kernel)
theorem dX4_named_88 : decode cX4_named 88 = .ok (.invokevirtual 119, 3) := dk_182 (by decide +kernel)
theorem dX4_named_91 : decode cX4_named 91 = .ok (.aload_n 0, 1) := dk_42 (by decide +kernel)
theorem dX4_named_92 : decode cX4_named 92 = .ok (.getfield 32, 3) := dk_180 (by decide +kernel)
theorem dX4_named_95 : decode cX4_named 95 = .ok (.getfield 201, 3) := dk_180 (by decide +kernel)
theorem dX4_named_98 : decode cX4_named 98 = .ok (.iload_n 2, 1) := dk_28 (by decide +kernel)
theorem dX4_named_99 : decode cX4_named 99 = .ok (.iaload, 1) := dk_46 (by decide +kernel)
theorem dX4_named_100 : decode cX4_named 100 = .ok (.iconst (-1), 1) := dk_2 (by decide +kernel)
theorem dX4_named_101 : decode cX4_named 101 = .ok (.if_icmp .eq 75, 3) := dk_159 (by decide +kernel)
theorem dX4_named_104 : decode cX4_named 104 = .ok (.aload_n 0, 1) := dk_42 (by decide +kernel)
theorem dX4_named_105 : decode cX4_named 105 = .ok (.getfield 19, 3) := dk_180 (by decide +kernel)
theorem dX4_named_108 : decode cX4_named 108 = .ok (.bipush 91, 2) := dk_16 (by decide +kernel)
theorem dX4_named_110 : decode cX4_named 110 = .ok (.invokevirtual 134, 3) := dk_182 (by decide +kernel)
theorem dX4_named_113 : decode cX4_named 113 = .ok (.aload_n 0, 1) := dk_42 (by decide +kernel)
theorem dX4_named_114 : decode cX4_named 114 = .ok (.invokevirtual 160, 3) := dk_182 (by decide +kernel)
theorem dX4_named_117 : decode cX4_named 117 = .ok (.istore 4, 2) := dk_54 (by decide +kernel)
theorem dX4_named_119 : decode cX4_named 119 = .ok (.aload_n 0, 1) := dk_42 (by decide +kernel)
theorem dX4_named_120 : decode cX4_named 120 = .ok (.getfield 11, 3) := dk_180 (by decide +kernel)
theorem dX4_named_123 : decode cX4_named 123 = .ok (.iload_n 3, 1) := dk_29 (by decide +kernel)
theorem dX4_named_124 : decode cX4_named 124 = .ok (.iconst 4, 1) := dk_7 (by decide +kernel)
theorem dX4_named_125 : decode cX4_named 125 = .ok (.iadd, 1) := dk_96 (by decide +kernel)
theorem dX4_named_126 : decode cX4_named 126 = .ok (.iload 4, 2) := dk_21 (by decide +kernel)
theorem dX4_named_128 : decode cX4_named 128 = .ok (.iastore, 1) := dk_79 (by decide +kernel)
theorem dX4_named_129 : decode cX4_named 129 = .ok (.aload_n 0, 1) := dk_42 (by decide +kernel)
theorem dX4_named_130 : decode cX4_named 130 = .ok (.getfield 32, 3) := dk_180 (by decide +kernel)
theorem dX4_named_133 : decode cX4_named 133 = .ok (.getfield 204, 3) := dk_180 (by decide +kernel)
theorem dX4_named_136 : decode cX4_named 136 = .ok (.iload_n 2, 1) := dk_28 (by decide +kernel)
theorem dX4_named_137 : decode cX4_named 137 = .ok (.iaload, 1) := dk_46 (by decide +kernel)
theorem dX4_named_138 : decode cX4_named 138 = .ok (.iconst (-1), 1) := dk_2 (by decide +kernel)
theorem dX4_named_139 : decode cX4_named 139 = .ok (.if_icmp .eq 28, 3) := dk_159 (by decide +kernel)
theorem dX4_named_142 : decode cX4_named 142 = .ok (.aload_n 0, 1) := dk_42 (by decide +kernel)
theorem dX4_named_143 : decode cX4_named 143 = .ok (.getfield 19, 3) := dk_180 (by decide +kernel)
theorem dX4_named_146 : decode cX4_named 146 = .ok (.bipush 44, 2) := dk_16 (by decide +kernel)
theorem dX4_named_148 : decode cX4_named 148 = .ok (.invokevirtual 134, 3) := dk_182 (by decide +kernel)
theorem dX4_named_151 : decode cX4_named 151 = .ok (.aload_n 0, 1) := dk_42 (by decide +kernel)
theorem dX4_named_152 : decode cX4_named 152 = .ok (.invokevirtual 160, 3) := dk_182 (by decide +kernel)
theorem dX4_named_155 : decode cX4_named 155 = .ok (.istore 4, 2) := dk_54 (by decide +kernel)
theorem dX4_named_157 : decode cX4_named 157 = .ok (.aload_n 0, 1) := dk_42 (by decide +kernel)
theorem dX4_named_158 : decode cX4_named 158 = .ok (.getfield 11, 3) := dk_180 (by decide +kernel)
theorem dX4_named_161 : decode cX4_named 161 = .ok (.iload_n 3, 1) := dk_29 (by decide +kernel)
theorem dX4_named_162 : decode cX4_named 162 = .ok (.iconst 5, 1) := dk_8 (by decide +kernel)
theorem dX4_named_163 : decode cX4_named 163 = .ok (.iadd, 1) := dk_96 (by decide +kernel)
theorem dX4_named_164 : decode cX4_named 164 = .ok (.iload 4, 2) := dk_21 (by decide +kernel)
theorem dX4_named_166 : decode cX4_named 166 = .ok (.iastore, 1) := dk_79 (by decide +kernel)
theorem dX4_named_167 : decode cX4_named 167 = .ok (.aload_n 0, 1) := dk_42 (by decide +kernel)
theorem dX4_named_168 : decode cX4_named 168 = .ok (.getfield 19, 3) := dk_180 (by decide +kernel)
theorem dX4_named_171 : decode cX4_named 171 = .ok (.bipush 93, 2) := dk_16 (by decide +kernel)
theorem dX4_named_173 : decode cX4_named 173 = .ok (.invokevirtual 134, 3) := dk_182 (by decide +kernel)
theorem dX4_named_176 : decode cX4_named 176 = .ok (.iload_n 3, 1) := dk_29 (by decide +kernel)
theorem dX4_named_177 : decode cX4_named 177 = .ok (.ireturn, 1) := dk_172 (by decide +kernel)
theorem iwsMX4_named_in4 : ∀ w ∈ wsX40, w ∈ wsMX4_named := fun w h => List.mem_cons_of_mem _ (iwsGR_in4 w h)
theorem iwsMX4_named_in9 : ∀ w ∈ wsX90, w ∈ wsMX4_named := fun w h => List.mem_cons_of_mem _ (iwsGR_in9 w h)
theorem iwsMX4_named_in10 : ∀ w ∈ wsX100, w ∈ wsMX4_named := fun w h => List.mem_cons_of_mem _ (iwsGR_in10 w h)
theorem gwsMX4_named_0 : GoodIn wsMX4_named (wsV RX4 224 RX4 yX4_findBinder wsMX4_findBinder) := goodIn_sub (fun w h => List.mem_cons_of_mem _ (gwsGR_6 w h)) (gdV (by decide +kernel) gdwsMX4_findBinder)
theorem gwsMX4_named_1 : GoodIn wsMX4_named (wsV RX4 230 RX10 yX10_findValue wsMX10_findValue) := goodIn_sub (fun w h => List.mem_cons_of_mem _ (gwsGR_7 w h)) (gdV (by decide +kernel) gdwsMX10_findValue)
theorem gwsMX4_named_2 : GoodIn wsMX4_named (wsV RX4 103 RX9 yX9_failHere wsMX9_failHere) := goodIn_sub (fun w h => List.mem_cons_of_mem _ (gwsGR_8 w h)) (gdV (by decide +kernel) gdwsMX9_failHere)
theorem gwsMX4_named_3 : GoodIn wsMX4_named (wsV RX4 217 RX4 yX4_node wsMX4_node) := goodIn_sub (fun w h => List.mem_cons_of_mem _ (gwsGR_1 w h)) (gdV (by decide +kernel) gdwsMX4_node)
theorem gwsMX4_named_4 : GoodIn wsMX4_named (wsV RX4 119 RX9 yX9_advance wsMX9_advance) := goodIn_sub (fun w h => List.mem_cons_of_mem _ (gwsGR_2 w h)) (gdV (by decide +kernel) gdwsMX9_advance)
theorem gwsMX4_named_5 : GoodIn wsMX4_named (wsV RX4 134 RX9 yX9_take wsMX9_take) := goodIn_sub (fun w h => List.mem_cons_of_mem _ (gwsGR_4 w h)) (gdV (by decide +kernel) gdwsMX9_take)
theorem gwsMX4_named_6 : GoodIn wsMX4_named (wsV RX4 160 RX4 yX4_linear wsMX4_linear) := goodIn_rec (hd := [.methodLink RX4 160 yX4_linear, .instanceMethod yX4_linear, .selects RX4 yX4_linear yX4_linear, .initialized RX4]) (by decide +kernel) (by decide +kernel) gdwsGR
theorem hm_m_X4_named_0 : (.fieldLink RX4 19 "OptimaWorks$Reader" "words" "LOptimaWorks$Words;" : Cond) ∈ wsMX4_named := by decide +kernel
theorem hm_m_X4_named_1 : (.fieldLink RX4 106 "OptimaWorks$Words" "name" "J" : Cond) ∈ wsMX4_named := by decide +kernel
theorem hm_m_X4_named_2 : (.fieldLink RX4 32 "OptimaWorks$Reader" "worker" "LOptimaWorks$Worker;" : Cond) ∈ wsMX4_named := by decide +kernel
theorem hm_m_X4_named_3 : (.fieldLink RX4 11 "OptimaWorks$Reader" "tree" "[I" : Cond) ∈ wsMX4_named := by decide +kernel
set_option maxHeartbeats 4000000 in
set_option maxRecDepth 100000 in
/-- a name read -/
theorem m_X4_named (l : Launch) (hst : l.stackTraces = false) (ev : Nat) (ih_X4_linear : Cm_X4_linear l (ev)) : Cm_X4_named l (ev + 1) := by
  intro dC dI hJ aJ kJ hT hM hL iJ_used iJ_depth jJ_ownName gJ_binder iJ_binders iJ_firstSet iJ_secondSet aL kL iL_names gL_key fL_kind fL_one fL_two fL_base iL_params fL_paramOver dL_paramOver nL_params fL_paramUnder dL_paramUnder nL_pu gL_over gL_under fL_bound iL_nameAt iL_startAt iL_steps jL_scaleOver jL_scaleUnder hF aF kF dF_tree nF_tree fF_tree aT kT fT_tape dT_tape nT_tape iT_length iT_fault iT_place iT_kind iT_at iT_number jT_name iT_next lv b_iJ_used b_iJ_depth b_iJ_binders b_iJ_firstSet b_iJ_secondSet b_iL_names b_fL_kind b_fL_two b_fL_base b_iL_params b_nL_params b_nm b_pm b_pu b_nF_tree b_fT_tape b_nT_tape b_iT_length b_iT_at b_iT_number b_iT_next b_len hu1 hu2 hu7 hp1 hp2 hp3 hlv hdp sz
  refine vx_ofW (cc := cX4_named) (maxL := 5) (ret := (some .int)) (by decide) rfl ?_
  intro p e s m args below meth c s₁ B hml htab hv
  obtain ⟨rfl, hsz, hP, hK, hD0, hE⟩ := hv
  have hx := B.exec
  have hb := B.bytes
  have hr := B.returns
  have hts := atoms_spec (ws := wsMX4_named) B.pre
  have hown : s.vm.findClass RX4 = some m.cls := findClass_of_methodNamed B.named
  have hlocks := B.notSynchronized
  subst hsz
  have hD := hD0.self (sz := s.heap.size)
  generalize hAe : va_A (WJ hJ aJ kJ hT hM hL (.ref dF_tree) iJ_used iJ_depth jJ_ownName gJ_binder iJ_binders iJ_firstSet iJ_secondSet ++ (WL hL aL kL hT hM (.ref dF_tree) iL_names gL_key fL_kind fL_one fL_two fL_base iL_params fL_paramOver dL_paramOver nL_params fL_paramUnder dL_paramUnder nL_pu gL_over gL_under fL_bound iL_nameAt iL_startAt iL_steps jL_scaleOver jL_scaleUnder ++ (WF hF aF kF dF_tree nF_tree fF_tree ++ (WT hT aT kT fT_tape dT_tape nT_tape iT_length iT_fault iT_place iT_kind iT_at iT_number jT_name iT_next)))) s.heap.size = A at hD hE ⊢
  have hA : ∀ q : Nat, s.heap.size ≤ q → A q := fun q h => by rw [← hAe]; exact Or.inr h
  have hS : va_S A s.heap s.heap [] := va_S.rf
  have hl := lv_entry ([.ref (hJ 0)]) (n := 5) (Nat.le_of_ble_eq_true rfl)
  rw [lg_entry_eq]
  generalize (lg_sl ([.ref (hJ 0)]) ++ List.replicate (5 - (lg_sl ([.ref (hJ 0)])).length) Slot.unset).toArray = ls at hl ⊢
  have hl : lv_has ls 5 [(0, .ref (hJ 0))] := hl
  refine lv_aload_n hx hb dX4_named_0 rfl (lv_at hl 0 rfl) ?_
  refine lv_aload_n hx hb dX4_named_1 rfl (lv_at hl 0 rfl) ?_
  refine va_get (D := (dC, dI)) (ci := 4) (v := .ref (hT 0)) (C := RX4) (T := TX4) (N := 11) hx hb hts iwsMX4_named_in4 hown hK hP 0 rfl rfl 0 (by decide) (hts _ hm_m_X4_named_0) (fun _ h9 => h9) rfl dX4_named_2 ?_
  refine va_get (D := (dC, dI)) (ci := 9) (v := .long jT_name) (C := RX9) (T := TX9) (N := 9) hx hb hts iwsMX4_named_in9 hown hK hP 14 rfl rfl 7 (by decide) (hts _ hm_m_X4_named_1) (fun _ h9 => h9) rfl dX4_named_5 ?_
  have p9 := cj_4_0 (WJ hJ aJ kJ hT hM hL (.ref dF_tree) iJ_used iJ_depth jJ_ownName gJ_binder iJ_binders iJ_firstSet iJ_secondSet) (WL hL aL kL hT hM (.ref dF_tree) iL_names gL_key fL_kind fL_one fL_two fL_base iL_params fL_paramOver dL_paramOver nL_params fL_paramUnder dL_paramUnder nL_pu gL_over gL_under fL_bound iL_nameAt iL_startAt iL_steps jL_scaleOver jL_scaleUnder) (WF hF aF kF dF_tree nF_tree fF_tree) (WT hT aT kT fT_tape dT_tape nT_tape iT_length iT_fault iT_place iT_kind iT_at iT_number jT_name iT_next)
  have hPc := hP.mem (fun q h => p9.mem_iff.mpr (List.mem_append_left _ h))
  have hDc := (hD.perm p9).left
  have hKc : va_K (dC, dI) vwCl (tJ kJ) _ := hK.sub [0] rfl
  have hFc := freeG p9 hD hS hA
  refine va_calli (va_runV (As := [.long jT_name]) (rest := []) ⟨hx, hb, hml, hown, hts⟩ (m_X4_findBinder l dC dI hJ aJ kJ hT hM hL (.ref dF_tree) iJ_used iJ_depth jJ_ownName gJ_binder iJ_binders iJ_firstSet iJ_secondSet jT_name (b_iJ_used) (b_iJ_depth) (b_iJ_binders) (b_iJ_firstSet) (b_iJ_secondSet) s.heap.size) (cwV 1 hts gwsMX4_named_0 rfl rfl rfl (by decide +kernel) ⟨by first | decide +kernel | (dsimp only [headSpec] <;> omega), by first | decide +kernel | (dsimp only [headSpec] <;> omega)⟩) (fz_pre (va_recv hK hP (ci := 4) (q0 := 0) rfl rfl) hPc hKc hDc) rfl rfl hl.1 rfl (lv_room (Nat.le_of_ble_eq_true rfl)) dX4_named_8 ⟨by first | decide +kernel | (dsimp only [headSpec] <;> omega), by first | decide +kernel | (dsimp only [headSpec] <;> omega)⟩) hS (fun q _ h => hFc q h) hFc (fun r1 u t9_ H locs ht hvm hw9 hB9 hz1 hk1 hS => ?_)
  revert hw9
  refine fz_a2 ?_
  intro b_r1 f1_0
  have p8 := p9
  obtain ⟨hP, hD⟩ := frameG p9 p8 hP hD hk1 hFc (fz_P ht hB9.1) hB9.2
  refine lv_istore_n hx hb dX4_named_11 rfl hl (by decide) rfl (fun ls (hl : lv_has ls _ ([(1, .int r1), (0, .ref (hJ 0))])) => ?_)
  refine lv_iload_n hx hb dX4_named_12 rfl (lv_at hl 0 rfl) ?_
  refine lv_iconst (v := (-1)) hx hb dX4_named_13 (by decide) ?_
  refine lv_icmp_eq (tgt := 41) hx hb dX4_named_14 (by decide) (fun c_14 => ?_) (fun c_14 => ?_)
  · have t_14 : r1.toInt = (-1) := toI_eq c_14 rfl (by decide : ((-1) : Int32).toInt = (-1))
    refine lv_aload_n hx hb dX4_named_41 rfl (lv_at hl 1 rfl) ?_
    refine va_get (D := (dC, dI)) (ci := 4) (v := .ref (hL 0)) (C := RX4) (T := TX4) (N := 11) hx hb hts iwsMX4_named_in4 hown hK hP 0 rfl rfl 2 (by decide) (hts _ hm_m_X4_named_2) (fun _ h9 => h9) rfl dX4_named_42 ?_
    refine lv_aload_n hx hb dX4_named_45 rfl (lv_at hl 1 rfl) ?_
    refine va_get (D := (dC, dI)) (ci := 4) (v := .ref (hT 0)) (C := RX4) (T := TX4) (N := 11) hx hb hts iwsMX4_named_in4 hown hK hP 0 rfl rfl 0 (by decide) (hts _ hm_m_X4_named_0) (fun _ h9 => h9) rfl dX4_named_46 ?_
    refine va_get (D := (dC, dI)) (ci := 9) (v := .long jT_name) (C := RX9) (T := TX9) (N := 9) hx hb hts iwsMX4_named_in9 hown hK hP 14 rfl rfl 7 (by decide) (hts _ hm_m_X4_named_1) (fun _ h9 => h9) rfl dX4_named_49 ?_
    have p9 := cj_4_1 (WJ hJ aJ kJ hT hM hL (.ref dF_tree) iJ_used iJ_depth jJ_ownName gJ_binder iJ_binders iJ_firstSet iJ_secondSet) (WL hL aL kL hT hM (.ref dF_tree) iL_names gL_key fL_kind fL_one fL_two fL_base iL_params fL_paramOver dL_paramOver nL_params fL_paramUnder dL_paramUnder nL_pu gL_over gL_under fL_bound iL_nameAt iL_startAt iL_steps jL_scaleOver jL_scaleUnder) (WF hF aF kF dF_tree nF_tree fF_tree) (WT hT aT kT fT_tape dT_tape nT_tape iT_length iT_fault iT_place iT_kind iT_at iT_number jT_name iT_next)
    have hPc := hP.mem (fun q h => p9.mem_iff.mpr (List.mem_append_left _ h))
    have hDc := (hD.perm p9).left
    have hKc : va_K (dC, dI) vwCl (tL kL) _ := hK.sub [1, 2, 3, 4, 5, 6, 7, 8, 9, 10] rfl
    have hFc := freeG p9 hD hS hA
    refine va_calli (va_runV (As := [.long jT_name]) (rest := []) ⟨hx, hb, hml, hown, hts⟩ (m_X10_findValue l dC dI hL aL kL hT hM (.ref dF_tree) iL_names gL_key fL_kind fL_one fL_two fL_base iL_params fL_paramOver dL_paramOver nL_params fL_paramUnder dL_paramUnder nL_pu gL_over gL_under fL_bound iL_nameAt iL_startAt iL_steps jL_scaleOver jL_scaleUnder jT_name (b_iL_names) b_fL_kind b_fL_two b_fL_base (b_iL_params) (by first | exact b_nL_params | with_reducible assumption | exact ⟨by omega, by omega⟩ | assumption) (by first | with_reducible assumption | omega | (rw [iI_t (by omega) (by omega)]; omega) | assumption) (by first | with_reducible assumption | omega | (rw [iI_t (by omega) (by omega)]; omega) | assumption) (by first | with_reducible assumption | omega | (rw [iI_t (by omega) (by omega)]; omega) | assumption) H.size) (cwV 1 hts gwsMX4_named_1 rfl rfl rfl (by decide +kernel) ⟨by first | decide +kernel | (dsimp only [headSpec] <;> omega), by first | decide +kernel | (dsimp only [headSpec] <;> omega)⟩) (fz_pre (va_recv hK hP (ci := 10) (q0 := 2) rfl rfl) hPc hKc hDc) rfl rfl hl.1 rfl (lv_room (Nat.le_of_ble_eq_true rfl)) dX4_named_52 ⟨by first | decide +kernel | (dsimp only [headSpec] <;> omega), by first | decide +kernel | (dsimp only [headSpec] <;> omega)⟩) hS (fun q _ h => hFc q h) hFc (fun r2 u t9_ H locs ht hvm hw9 hB9 hz1 hk1 hS => ?_)
    revert hw9
    refine fz_a3 ?_
    intro b_r2 f2_0 f2_1
    have p8 := p9
    obtain ⟨hP, hD⟩ := frameG p9 p8 hP hD hk1 hFc (fz_P ht hB9.1) hB9.2
    have hfw := f2_1
    refine lv_istore_n hx hb dX4_named_55 rfl hl (by decide) rfl (fun ls (hl : lv_has ls _ ([(2, .int r2), (1, .int r1), (0, .ref (hJ 0))])) => ?_)
    refine lv_iload_n hx hb dX4_named_56 rfl (lv_at hl 0 rfl) ?_
    refine lv_iconst (v := (-1)) hx hb dX4_named_57 (by decide) ?_
    refine lv_icmp_ne (tgt := 69) hx hb dX4_named_58 (by decide) (fun c_58 => ?_) (fun c_58 => ?_)
    · have t_58 : r2.toInt ≠ (-1) := toI_ne c_58 rfl (by decide : ((-1) : Int32).toInt = (-1))
      have hfv := hfw t_58
      have hfr : 0 ≤ r2.toInt ∧ r2.toInt < iL_names.toInt := ⟨by omega, by omega⟩
      have hl25 : lv ≤ 25 := by omega
      refine lv_aload_n hx hb dX4_named_69 rfl (lv_at hl 2 rfl) ?_
      refine lv_iconst (v := 5) hx hb dX4_named_70 (by decide) ?_
      refine W.known (fun hz0 _ => ?_)
      have p9 := cj_4_0_2_3 (WJ hJ aJ kJ hT hM hL (.ref dF_tree) iJ_used iJ_depth jJ_ownName gJ_binder iJ_binders iJ_firstSet iJ_secondSet) (WL hL aL kL hT hM (.ref dF_tree) iL_names gL_key fL_kind fL_one fL_two fL_base iL_params fL_paramOver dL_paramOver nL_params fL_paramUnder dL_paramUnder nL_pu gL_over gL_under fL_bound iL_nameAt iL_startAt iL_steps jL_scaleOver jL_scaleUnder) (WF hF aF kF dF_tree nF_tree fF_tree) (WT hT aT kT fT_tape dT_tape nT_tape iT_length iT_fault iT_place iT_kind iT_at iT_number jT_name iT_next)
      have hPc := hP.mem (fun q h => p9.mem_iff.mpr (List.mem_append_left _ h))
      have hDc := (hD.perm p9).left
      have hKc : va_K (dC, dI) vwCl (tJ kJ ++ (tF kF ++ (tT kT))) _ := hK.sub [0, 11, 12] rfl
      have hFc := freeG p9 hD hS hA
      refine vx_calli (vx_runV (As := [.int 5]) (rest := []) ⟨hx, hb, hml, hown, hts⟩ (m_X4_node l hst dC dI hJ aJ kJ hT hM hL iJ_used iJ_depth jJ_ownName gJ_binder iJ_binders iJ_firstSet iJ_secondSet hF aF kF dF_tree nF_tree fF_tree aT kT fT_tape dT_tape nT_tape iT_length iT_fault iT_place iT_kind iT_at iT_number jT_name iT_next 5 (b_iJ_used) (b_iJ_depth) (b_iJ_binders) (b_iJ_firstSet) (b_iJ_secondSet) (by first | exact b_nF_tree | with_reducible assumption | exact ⟨by omega, by omega⟩ | assumption) b_fT_tape (by first | exact b_nT_tape | with_reducible assumption | exact ⟨by omega, by omega⟩ | assumption) (b_iT_length) (b_iT_at) (b_iT_number) (b_iT_next) (by first | with_reducible assumption | omega | assumption) (by first | with_reducible assumption | omega | (rw [iI_t (by omega) (by omega)]; omega) | decide | assumption) (by first | with_reducible assumption | omega | (rw [iI_t (by omega) (by omega)]; omega) | decide | assumption) (by first | with_reducible assumption | omega | (rw [iI_t (by omega) (by omega)]; omega) | decide | assumption) H.size) (cwV 1 hts gwsMX4_named_3 rfl rfl rfl (by decide +kernel) ⟨by first | decide +kernel | (dsimp only [headSpec] <;> omega), by first | decide +kernel | (dsimp only [headSpec] <;> omega)⟩) (fz_preE (va_recv hK hP (ci := 4) (q0 := 0) rfl rfl) hPc hKc hDc (fun a U g mk qE => qE.call) (fun U hU9 hW => by rw [hU9]; exact (((hE : CE A s s.heap).kept hS.2.1).narrow (fun q h => hFc q h)).warm hW)) rfl rfl hl.1 rfl (lv_room (Nat.le_of_ble_eq_true rfl)) dX4_named_71 ⟨by first | decide +kernel | (dsimp only [headSpec] <;> omega), by first | decide +kernel | (dsimp only [headSpec] <;> omega)⟩) hS (fun q _ h => hFc q h) hFc (fun q _ h => hFc q h) (fun E ce q9 u t9_ H locs ht hvm hw9 hB9 hz1 hk1 hS hc1 hc2 hc3 => ?_) (fun r4 u t9_ H locs ht hvm hw9 hB9 hz1 hk1 hS => ?_)
      · revert u hw9 hB9
        refine fz_p4 ?_
        intro iJ_used_4 fF_tree_4 iT_fault_4 iT_place_4 hw9 hB9
        try dsimp only at hw9 hB9
        revert hB9
        refine fz_a2 ?_
        intro hEx hB9
        have b_iJ_used_4 := hw9
        try dsimp only at b_iJ_used_4
        have p8 := cj_4_0_2_3 (WJ hJ aJ kJ hT hM hL (.ref dF_tree) iJ_used_4 iJ_depth jJ_ownName gJ_binder iJ_binders iJ_firstSet iJ_secondSet) (WL hL aL kL hT hM (.ref dF_tree) iL_names gL_key fL_kind fL_one fL_two fL_base iL_params fL_paramOver dL_paramOver nL_params fL_paramUnder dL_paramUnder nL_pu gL_over gL_under fL_bound iL_nameAt iL_startAt iL_steps jL_scaleOver jL_scaleUnder) (WF hF aF kF dF_tree nF_tree fF_tree_4) (WT hT aT kT fT_tape dT_tape nT_tape iT_length iT_fault_4 iT_place_4 iT_kind iT_at iT_number jT_name iT_next)
        obtain ⟨hP, hD⟩ := frameG p9 p8 hP hD hk1 hFc (fz_P ht hB9.1) hB9.2
        exact vx_out (fun x hx9 => (htab x hx9).elim) hlocks hc1 hc2 hc3 (fun t9_ ht hvm => ⟨(iJ_used_4, iJ_depth, gJ_binder, iJ_binders, fF_tree_4, iT_fault_4, iT_place_4, iT_kind, iT_at, iT_number, jT_name, iT_next), ⟨(by (try dsimp only); exact (by first | exact b_iJ_used_4 | with_reducible assumption | exact ⟨by omega, by omega⟩ | assumption)), (b_iJ_depth), (b_iJ_binders), (b_iT_at), (b_iT_number), (b_iT_next)⟩, ⟨(by have h9 := hEx; exact h9), by rw [ht]; exact hP, hD⟩, hS.F ht⟩) hS.2.2 (by decide +kernel) (by decide +kernel)
      revert u hw9 hB9
      refine fz_p4 ?_
      intro iJ_used_4 fF_tree_4 iT_fault_4 iT_place_4 hw9 hB9
      try dsimp only at hw9 hB9
      revert hw9
      refine fz_a5 ?_
      intro b_iJ_used_4 f4_0 f4_1 f4_2 f4_3
      have hz8 := hB9.2.2
      rw [ht] at hz8
      have hz9 : H.size ≤ s.heap.size + 0 := by rw [hz8]; exact hz0
      refine W.tight (cells2 := 0) (slots2 := 0) hz9 (nS_0 hz9) ?_
      clear hz8 hz9
      have p8 := cj_4_0_2_3 (WJ hJ aJ kJ hT hM hL (.ref dF_tree) iJ_used_4 iJ_depth jJ_ownName gJ_binder iJ_binders iJ_firstSet iJ_secondSet) (WL hL aL kL hT hM (.ref dF_tree) iL_names gL_key fL_kind fL_one fL_two fL_base iL_params fL_paramOver dL_paramOver nL_params fL_paramUnder dL_paramUnder nL_pu gL_over gL_under fL_bound iL_nameAt iL_startAt iL_steps jL_scaleOver jL_scaleUnder) (WF hF aF kF dF_tree nF_tree fF_tree_4) (WT hT aT kT fT_tape dT_tape nT_tape iT_length iT_fault_4 iT_place_4 iT_kind iT_at iT_number jT_name iT_next)
      obtain ⟨hP, hD⟩ := frameG p9 p8 hP hD hk1 hFc (fz_P ht hB9.1) hB9.2.1
      have hNw := f4_3
      refine lv_istore_n hx hb dX4_named_74 rfl hl (by decide) rfl (fun ls (hl : lv_has ls _ ([(3, .int r4), (2, .int r2), (1, .int r1), (0, .ref (hJ 0))])) => ?_)
      refine lv_aload_n hx hb dX4_named_75 rfl (lv_at hl 3 rfl) ?_
      refine va_get (D := (dC, dI)) (ci := 4) (v := .ref dF_tree) (C := RX4) (T := TX4) (N := 11) hx hb hts iwsMX4_named_in4 hown hK hP 0 rfl rfl 3 (by decide) (hts _ hm_m_X4_named_3) (fun _ h9 => h9) rfl dX4_named_76 ?_
      refine lv_iload_n hx hb dX4_named_79 rfl (lv_at hl 0 rfl) ?_
      refine lv_iconst (v := 3) hx hb dX4_named_80 (by decide) ?_
      refine lv_iadd hx hb dX4_named_81 ?_
      refine lv_topi (fun y5 hy5 => ?_)
      obtain rfl : (iI (r4.toInt + 3)) = y5 := (hy5.trans (iI_add2 (iI_of _) (by decide : (3 : Int32) = iI 3))).symm
      refine lv_iload_n hx hb dX4_named_82 rfl (lv_at hl 1 rfl) ?_
      refine va_iast (cA := kF 0) (n := nF_tree) (f := fF_tree_4) hx hb hK hP hD hS 13 11 rfl rfl (vp_iI (by omega) (by omega) (by omega)) dX4_named_83 (fun H locs hP hD hS => ?_)
      obtain ⟨u6, hu6⟩ : ∃ f9, f9 = upd fF_tree_4 ((iI (r4.toInt + 3))).toNatClampNeg r2 := ⟨_, rfl⟩
      have hP : va_P (dC, dI) vwCl (WJ hJ aJ kJ hT hM hL (.ref dF_tree) iJ_used_4 iJ_depth jJ_ownName gJ_binder iJ_binders iJ_firstSet iJ_secondSet ++ (WL hL aL kL hT hM (.ref dF_tree) iL_names gL_key fL_kind fL_one fL_two fL_base iL_params fL_paramOver dL_paramOver nL_params fL_paramUnder dL_paramUnder nL_pu gL_over gL_under fL_bound iL_nameAt iL_startAt iL_steps jL_scaleOver jL_scaleUnder ++ (WF hF aF kF dF_tree nF_tree u6 ++ (WT hT aT kT fT_tape dT_tape nT_tape iT_length iT_fault_4 iT_place_4 iT_kind iT_at iT_number jT_name iT_next)))) H := by rw [hu6]; exact hP
      have hD : va_D A (WJ hJ aJ kJ hT hM hL (.ref dF_tree) iJ_used_4 iJ_depth jJ_ownName gJ_binder iJ_binders iJ_firstSet iJ_secondSet ++ (WL hL aL kL hT hM (.ref dF_tree) iL_names gL_key fL_kind fL_one fL_two fL_base iL_params fL_paramOver dL_paramOver nL_params fL_paramUnder dL_paramUnder nL_pu gL_over gL_under fL_bound iL_nameAt iL_startAt iL_steps jL_scaleOver jL_scaleUnder ++ (WF hF aF kF dF_tree nF_tree u6 ++ (WT hT aT kT fT_tape dT_tape nT_tape iT_length iT_fault_4 iT_place_4 iT_kind iT_at iT_number jT_name iT_next)))) := by rw [hu6]; exact hD
      have b_u6 : WrL fF_tree_4 u6 (r4.toInt + 3) r2.toInt := by rw [hu6]; exact WrL.ofx rfl (by omega) (by omega)
      clear hu6
      have hN0 : NnL fF_tree u6 fL_kind fL_one fL_two iL_names.toInt iJ_used.toInt iJ_used_4.toInt r2.toInt [] := NnL.mk hNw hu1 hu7 b_u6 (by omega) (by omega)
      refine lv_aload_n hx hb dX4_named_84 rfl (lv_at hl 3 rfl) ?_
      refine va_get (D := (dC, dI)) (ci := 4) (v := .ref (hT 0)) (C := RX4) (T := TX4) (N := 11) hx hb hts iwsMX4_named_in4 hown hK hP 0 rfl rfl 0 (by decide) (hts _ hm_m_X4_named_0) (fun _ h9 => h9) rfl dX4_named_85 ?_
      have p9 := cj_4_3 (WJ hJ aJ kJ hT hM hL (.ref dF_tree) iJ_used_4 iJ_depth jJ_ownName gJ_binder iJ_binders iJ_firstSet iJ_secondSet) (WL hL aL kL hT hM (.ref dF_tree) iL_names gL_key fL_kind fL_one fL_two fL_base iL_params fL_paramOver dL_paramOver nL_params fL_paramUnder dL_paramUnder nL_pu gL_over gL_under fL_bound iL_nameAt iL_startAt iL_steps jL_scaleOver jL_scaleUnder) (WF hF aF kF dF_tree nF_tree u6) (WT hT aT kT fT_tape dT_tape nT_tape iT_length iT_fault_4 iT_place_4 iT_kind iT_at iT_number jT_name iT_next)
      have hPc := hP.mem (fun q h => p9.mem_iff.mpr (List.mem_append_left _ h))
      have hDc := (hD.perm p9).left
      have hKc : va_K (dC, dI) vwCl (tT kT) _ := hK.sub [12] rfl
      have hFc := freeG p9 hD hS hA
      refine va_callv (va_runV (As := []) (rest := []) ⟨hx, hb, hml, hown, hts⟩ (m_X9_advance l hst dC dI hT aT kT fT_tape dT_tape nT_tape iT_length iT_fault_4 iT_place_4 iT_kind iT_at iT_number jT_name iT_next b_fT_tape (by first | exact b_nT_tape | with_reducible assumption | exact ⟨by omega, by omega⟩ | assumption) (b_iT_length) (b_iT_at) (b_iT_number) (b_iT_next) (by first | with_reducible assumption | omega | assumption) (by first | with_reducible assumption | omega | (rw [iI_t (by omega) (by omega)]; omega) | decide | assumption) H.size) (cwV 0 hts gwsMX4_named_4 rfl rfl rfl (by decide +kernel) ⟨by first | decide +kernel | (dsimp only [headSpec] <;> omega), by first | decide +kernel | (dsimp only [headSpec] <;> omega)⟩) (fz_preE (va_recv hK hP (ci := 9) (q0 := 14) rfl rfl) hPc hKc hDc (fun a U g mk qE => qE.call) (fun U hU9 hW => by rw [hU9]; exact (((hE : CE A s s.heap).kept hS.2.1).narrow (fun q h => hFc q h)).warm hW)) rfl rfl hl.1 rfl (lv_room (Nat.le_of_ble_eq_true rfl)) dX4_named_88 ⟨by first | decide +kernel | (dsimp only [headSpec] <;> omega), by first | decide +kernel | (dsimp only [headSpec] <;> omega)⟩) hS (fun q _ h => hFc q h) hFc (fun u t9_ H locs ht hvm hw9 hB9 hz1 hk1 hS => ?_)
      revert u hw9 hB9
      refine fz_p5 ?_
      intro iT_kind_7 iT_at_7 iT_number_7 jT_name_7 iT_next_7 hw9 hB9
      try dsimp only at hw9 hB9
      revert hw9
      refine fz_a7 ?_
      intro b_iT_at_7 b_iT_number_7 b_iT_next_7 f7_0 f7_1 f7_2 f7_3
      have p8 := cj_4_3 (WJ hJ aJ kJ hT hM hL (.ref dF_tree) iJ_used_4 iJ_depth jJ_ownName gJ_binder iJ_binders iJ_firstSet iJ_secondSet) (WL hL aL kL hT hM (.ref dF_tree) iL_names gL_key fL_kind fL_one fL_two fL_base iL_params fL_paramOver dL_paramOver nL_params fL_paramUnder dL_paramUnder nL_pu gL_over gL_under fL_bound iL_nameAt iL_startAt iL_steps jL_scaleOver jL_scaleUnder) (WF hF aF kF dF_tree nF_tree u6) (WT hT aT kT fT_tape dT_tape nT_tape iT_length iT_fault_4 iT_place_4 iT_kind_7 iT_at_7 iT_number_7 jT_name_7 iT_next_7)
      obtain ⟨hP, hD⟩ := frameG p9 p8 hP hD hk1 hFc (fz_P ht hB9.1) hB9.2
      refine lv_aload_n hx hb dX4_named_91 rfl (lv_at hl 3 rfl) ?_
      refine va_get (D := (dC, dI)) (ci := 4) (v := .ref (hL 0)) (C := RX4) (T := TX4) (N := 11) hx hb hts iwsMX4_named_in4 hown hK hP 0 rfl rfl 2 (by decide) (hts _ hm_m_X4_named_2) (fun _ h9 => h9) rfl dX4_named_92 ?_
      refine va_get (D := (dC, dI)) (ci := 10) (v := .ref (aL 2)) (C := RX10) (T := TX10) (N := 20) hx hb hts iwsMX4_named_in10 hown hK hP 2 rfl rfl 6 (by decide) (hts (.fieldLink RX4 201 "OptimaWorks$Worker" "one" "[I") (by decide +kernel)) (fun _ h9 => h9) rfl dX4_named_95 ?_
      refine lv_iload_n hx hb dX4_named_98 rfl (lv_at hl 1 rfl) ?_
      refine va_iald (cA := kL 2) (n := 40) (f := fL_one) hx hb hK hP 5 3 rfl rfl (vp_in_iff.mpr ⟨(by omega), (by omega)⟩) dX4_named_99 ?_
      refine lv_topi (fun v8 hv8 => ?_)
      have b_v8 : v8.toInt = twL fL_one r2.toInt := by rw [hv8]; exact tw_r
      clear hv8
      refine lv_iconst (v := (-1)) hx hb dX4_named_100 (by decide) ?_
      refine W.cut (pc := 176) (fun H locs ls stk => ∃ (iJ_used_j5 : Int32) (iJ_depth_j5 : Int32) (gJ_binder_j5 : Nat → Int64) (iJ_binders_j5 : Int32) (fF_tree_j5 : Nat → Int32) (iT_fault_j5 : Int32) (iT_place_j5 : Int32) (iT_kind_j5 : Int32) (iT_at_j5 : Int32) (iT_number_j5 : Int32) (jT_name_j5 : Int64) (iT_next_j5 : Int32), (0 ≤ iJ_used_j5.toInt ∧ iJ_used_j5.toInt ≤ 72200) ∧ (0 ≤ iJ_depth_j5.toInt ∧ iJ_depth_j5.toInt ≤ 25) ∧ (0 ≤ iJ_binders_j5.toInt ∧ iJ_binders_j5.toInt ≤ 64) ∧ (0 ≤ iT_at_j5.toInt ∧ iT_at_j5.toInt ≤ 1282) ∧ (0 ≤ iT_number_j5.toInt ∧ iT_number_j5.toInt ≤ 999999) ∧ (0 ≤ iT_next_j5.toInt ∧ iT_next_j5.toInt ≤ 1282) ∧ (iT_at.toInt ≤ iT_at_j5.toInt) ∧ (iT_at_j5.toInt ≤ iT_next_j5.toInt) ∧ (iT_next_j5.toInt ≤ iT_length.toInt) ∧ ((iT_kind_j5.toInt = 44 ∨ iT_kind_j5.toInt = 61) → iT_at_j5.toInt < iT_next_j5.toInt) ∧ (iJ_used.toInt + 7 ≤ iJ_used_j5.toInt) ∧ (iJ_used_j5.toInt ≤ ((nF_tree : Nat) : Int)) ∧ (iJ_used_j5.toInt % 7 = 0) ∧ (iJ_depth_j5.toInt = (lv : Int)) ∧ (FiL fF_tree fF_tree_j5 fL_kind fL_one fL_two iL_names.toInt iJ_used.toInt iJ_used_j5.toInt 3 lv) ∧  stk = [] ∧ va_P (dC, dI) vwCl (WJ hJ aJ kJ hT hM hL (.ref dF_tree) iJ_used_j5 iJ_depth_j5 jJ_ownName gJ_binder_j5 iJ_binders_j5 iJ_firstSet iJ_secondSet ++ (WL hL aL kL hT hM (.ref dF_tree) iL_names gL_key fL_kind fL_one fL_two fL_base iL_params fL_paramOver dL_paramOver nL_params fL_paramUnder dL_paramUnder nL_pu gL_over gL_under fL_bound iL_nameAt iL_startAt iL_steps jL_scaleOver jL_scaleUnder ++ (WF hF aF kF dF_tree nF_tree fF_tree_j5 ++ (WT hT aT kT fT_tape dT_tape nT_tape iT_length iT_fault_j5 iT_place_j5 iT_kind_j5 iT_at_j5 iT_number_j5 jT_name_j5 iT_next_j5)))) H ∧ va_D A (WJ hJ aJ kJ hT hM hL (.ref dF_tree) iJ_used_j5 iJ_depth_j5 jJ_ownName gJ_binder_j5 iJ_binders_j5 iJ_firstSet iJ_secondSet ++ (WL hL aL kL hT hM (.ref dF_tree) iL_names gL_key fL_kind fL_one fL_two fL_base iL_params fL_paramOver dL_paramOver nL_params fL_paramUnder dL_paramUnder nL_pu gL_over gL_under fL_bound iL_nameAt iL_startAt iL_steps jL_scaleOver jL_scaleUnder ++ (WF hF aF kF dF_tree nF_tree fF_tree_j5 ++ (WT hT aT kT fT_tape dT_tape nT_tape iT_length iT_fault_j5 iT_place_j5 iT_kind_j5 iT_at_j5 iT_number_j5 jT_name_j5 iT_next_j5)))) ∧ va_S A s.heap H locs ∧ lv_has ls 5 [(3, .int r4), (2, .int r2), (1, .int r1), (0, .ref (hJ 0))]) (fun join5 => ?_) ?_
      · refine lv_icmp_eq (tgt := 176) hx hb dX4_named_101 (by decide) (fun c_101 => ?_) (fun c_101 => ?_)
        · have t_101 : v8.toInt = (-1) := toI_eq c_101 rfl (by decide : ((-1) : Int32).toInt = (-1))
          have hl : lv_has _ _ ([(3, .int r4), (2, .int r2), (1, .int r1), (0, .ref (hJ 0))]) := lv_sub hl [0, 1, 2, 3] rfl
          exact join5 _ _ _ _ ⟨iJ_used_4, iJ_depth, gJ_binder, iJ_binders, u6, iT_fault_4, iT_place_4, iT_kind_7, iT_at_7, iT_number_7, jT_name_7, iT_next_7, (b_iJ_used_4), (b_iJ_depth), (b_iJ_binders), (b_iT_at_7), (b_iT_number_7), (b_iT_next_7), (show iT_at.toInt ≤ iT_at_7.toInt from by omega), (show iT_at_7.toInt ≤ iT_next_7.toInt from by first | done | assumption | omega | (rw [iI_t (by omega) (by omega)]; omega)), (show iT_next_7.toInt ≤ iT_length.toInt from by first | done | assumption | omega | (rw [iI_t (by omega) (by omega)]; omega)), (show (iT_kind_7.toInt = 44 ∨ iT_kind_7.toInt = 61) → iT_at_7.toInt < iT_next_7.toInt from by first | done | assumption | omega | (rw [iI_t (by omega) (by omega)]; omega)), (show iJ_used.toInt + 7 ≤ iJ_used_4.toInt from by omega), (show iJ_used_4.toInt ≤ ((nF_tree : Nat) : Int) from by first | done | assumption | omega | (rw [iI_t (by omega) (by omega)]; omega)), (show iJ_used_4.toInt % 7 = 0 from by omega), (show iJ_depth.toInt = (lv : Int) from by omega), (show FiL fF_tree u6 fL_kind fL_one fL_two iL_names.toInt iJ_used.toInt iJ_used_4.toInt 3 lv from by first | exact hFx | exact NnL.fin hN0 hl25 hfr hfv (fun h9 => absurd (by omega) h9)), rfl, hP, hD, hS, hl⟩
        · have t_101 : ¬ v8.toInt = (-1) := toI_neq c_101 rfl (by decide : ((-1) : Int32).toInt = (-1))
          refine lv_aload_n hx hb dX4_named_104 rfl (lv_at hl 3 rfl) ?_
          refine va_get (D := (dC, dI)) (ci := 4) (v := .ref (hT 0)) (C := RX4) (T := TX4) (N := 11) hx hb hts iwsMX4_named_in4 hown hK hP 0 rfl rfl 0 (by decide) (hts _ hm_m_X4_named_0) (fun _ h9 => h9) rfl dX4_named_105 ?_
          refine lv_bipush (v := 91) hx hb dX4_named_108 (by decide) ?_
          refine W.known (fun hz0 _ => ?_)
          have p9 := cj_4_3 (WJ hJ aJ kJ hT hM hL (.ref dF_tree) iJ_used_4 iJ_depth jJ_ownName gJ_binder iJ_binders iJ_firstSet iJ_secondSet) (WL hL aL kL hT hM (.ref dF_tree) iL_names gL_key fL_kind fL_one fL_two fL_base iL_params fL_paramOver dL_paramOver nL_params fL_paramUnder dL_paramUnder nL_pu gL_over gL_under fL_bound iL_nameAt iL_startAt iL_steps jL_scaleOver jL_scaleUnder) (WF hF aF kF dF_tree nF_tree u6) (WT hT aT kT fT_tape dT_tape nT_tape iT_length iT_fault_4 iT_place_4 iT_kind_7 iT_at_7 iT_number_7 jT_name_7 iT_next_7)
          have hPc := hP.mem (fun q h => p9.mem_iff.mpr (List.mem_append_left _ h))
          have hDc := (hD.perm p9).left
          have hKc : va_K (dC, dI) vwCl (tT kT) _ := hK.sub [12] rfl
          have hFc := freeG p9 hD hS hA
          refine vx_callv (vx_runV (As := [.int 91]) (rest := []) ⟨hx, hb, hml, hown, hts⟩ (m_X9_take l hst dC dI hT aT kT fT_tape dT_tape nT_tape iT_length iT_fault_4 iT_place_4 iT_kind_7 iT_at_7 iT_number_7 jT_name_7 iT_next_7 91 b_fT_tape (by first | exact b_nT_tape | with_reducible assumption | exact ⟨by omega, by omega⟩ | assumption) (b_iT_length) (b_iT_at_7) (b_iT_number_7) (b_iT_next_7) (by first | with_reducible assumption | omega | assumption) (by first | with_reducible assumption | omega | (rw [iI_t (by omega) (by omega)]; omega) | decide | assumption) (by first | with_reducible assumption | omega | (rw [iI_t (by omega) (by omega)]; omega) | decide | assumption) (by first | with_reducible assumption | omega | (rw [iI_t (by omega) (by omega)]; omega) | decide | assumption) H.size) (cwV 1 hts gwsMX4_named_5 rfl rfl rfl (by decide +kernel) ⟨by first | decide +kernel | (dsimp only [headSpec] <;> omega), by first | decide +kernel | (dsimp only [headSpec] <;> omega)⟩) (fz_preE (va_recv hK hP (ci := 9) (q0 := 14) rfl rfl) hPc hKc hDc (fun a U g mk qE => qE.call) (fun U hU9 hW => by rw [hU9]; exact (((hE : CE A s s.heap).kept hS.2.1).narrow (fun q h => hFc q h)).warm hW)) rfl rfl hl.1 rfl (lv_room (Nat.le_of_ble_eq_true rfl)) dX4_named_110 ⟨by first | decide +kernel | (dsimp only [headSpec] <;> omega), by first | decide +kernel | (dsimp only [headSpec] <;> omega)⟩) hS (fun q _ h => hFc q h) hFc (fun q _ h => hFc q h) (fun E ce q9 u t9_ H locs ht hvm hw9 hB9 hz1 hk1 hS hc1 hc2 hc3 => ?_) (fun u t9_ H locs ht hvm hw9 hB9 hz1 hk1 hS => ?_)
          · revert u hw9 hB9
            refine fz_p7 ?_
            intro iT_fault_23 iT_place_23 iT_kind_23 iT_at_23 iT_number_23 jT_name_23 iT_next_23 hw9 hB9
            try dsimp only at hw9 hB9
            revert hB9
            refine fz_a2 ?_
            intro hEx hB9
            revert hw9
            refine fz_a3 ?_
            intro b_iT_at_23 b_iT_number_23 b_iT_next_23
            have p8 := cj_4_3 (WJ hJ aJ kJ hT hM hL (.ref dF_tree) iJ_used_4 iJ_depth jJ_ownName gJ_binder iJ_binders iJ_firstSet iJ_secondSet) (WL hL aL kL hT hM (.ref dF_tree) iL_names gL_key fL_kind fL_one fL_two fL_base iL_params fL_paramOver dL_paramOver nL_params fL_paramUnder dL_paramUnder nL_pu gL_over gL_under fL_bound iL_nameAt iL_startAt iL_steps jL_scaleOver jL_scaleUnder) (WF hF aF kF dF_tree nF_tree u6) (WT hT aT kT fT_tape dT_tape nT_tape iT_length iT_fault_23 iT_place_23 iT_kind_23 iT_at_23 iT_number_23 jT_name_23 iT_next_23)
            obtain ⟨hP, hD⟩ := frameG p9 p8 hP hD hk1 hFc (fz_P ht hB9.1) hB9.2
            exact vx_out (fun x hx9 => (htab x hx9).elim) hlocks hc1 hc2 hc3 (fun t9_ ht hvm => ⟨(iJ_used_4, iJ_depth, gJ_binder, iJ_binders, u6, iT_fault_23, iT_place_23, iT_kind_23, iT_at_23, iT_number_23, jT_name_23, iT_next_23), ⟨(b_iJ_used_4), (b_iJ_depth), (b_iJ_binders), (b_iT_at_23), (b_iT_number_23), (b_iT_next_23)⟩, ⟨(by have h9 := hEx; exact h9), by rw [ht]; exact hP, hD⟩, hS.F ht⟩) hS.2.2 (by decide +kernel) (by decide +kernel)
          revert u hw9 hB9
          refine fz_p7 ?_
          intro iT_fault_23 iT_place_23 iT_kind_23 iT_at_23 iT_number_23 jT_name_23 iT_next_23 hw9 hB9
          try dsimp only at hw9 hB9
          revert hw9
          refine fz_a8 ?_
          intro b_iT_at_23 b_iT_number_23 b_iT_next_23 f23_0 f23_1 f23_2 f23_3 f23_4
          have hz8 := hB9.2.2
          rw [ht] at hz8
          have hz9 : H.size ≤ s.heap.size + 0 := by rw [hz8]; exact hz0
          refine W.tight (cells2 := 0) (slots2 := 0) hz9 (nS_0 hz9) ?_
          clear hz8 hz9
          have p8 := cj_4_3 (WJ hJ aJ kJ hT hM hL (.ref dF_tree) iJ_used_4 iJ_depth jJ_ownName gJ_binder iJ_binders iJ_firstSet iJ_secondSet) (WL hL aL kL hT hM (.ref dF_tree) iL_names gL_key fL_kind fL_one fL_two fL_base iL_params fL_paramOver dL_paramOver nL_params fL_paramUnder dL_paramUnder nL_pu gL_over gL_under fL_bound iL_nameAt iL_startAt iL_steps jL_scaleOver jL_scaleUnder) (WF hF aF kF dF_tree nF_tree u6) (WT hT aT kT fT_tape dT_tape nT_tape iT_length iT_fault_23 iT_place_23 iT_kind_23 iT_at_23 iT_number_23 jT_name_23 iT_next_23)
          obtain ⟨hP, hD⟩ := frameG p9 p8 hP hD hk1 hFc (fz_P ht hB9.1) hB9.2.1
          refine lv_aload_n hx hb dX4_named_113 rfl (lv_at hl 3 rfl) ?_
          refine W.known (fun hz0 _ => ?_)
          have hFc := allFree hD hS hA
          refine vx_calli (vx_runV (As := []) (rest := []) ⟨hx, hb, hml, hown, hts⟩ (ih_X4_linear dC dI hJ aJ kJ hT hM hL iJ_used_4 iJ_depth jJ_ownName gJ_binder iJ_binders iJ_firstSet iJ_secondSet aL kL iL_names gL_key fL_kind fL_one fL_two fL_base iL_params fL_paramOver dL_paramOver nL_params fL_paramUnder dL_paramUnder nL_pu gL_over gL_under fL_bound iL_nameAt iL_startAt iL_steps jL_scaleOver jL_scaleUnder hF aF kF dF_tree nF_tree u6 aT kT fT_tape dT_tape nT_tape iT_length iT_fault_23 iT_place_23 iT_kind_23 iT_at_23 iT_number_23 jT_name_23 iT_next_23 (lv + 1) (b_iJ_used_4) (b_iJ_depth) (b_iJ_binders) (b_iJ_firstSet) (b_iJ_secondSet) (b_iL_names) b_fL_kind b_fL_two b_fL_base (b_iL_params) (by first | exact b_nL_params | with_reducible assumption | exact ⟨by omega, by omega⟩ | assumption) (by first | with_reducible assumption | omega | (rw [iI_t (by omega) (by omega)]; omega) | assumption) (by first | with_reducible assumption | omega | (rw [iI_t (by omega) (by omega)]; omega) | assumption) (by first | with_reducible assumption | omega | (rw [iI_t (by omega) (by omega)]; omega) | assumption) (by first | exact b_nF_tree | with_reducible assumption | exact ⟨by omega, by omega⟩ | assumption) b_fT_tape (by first | exact b_nT_tape | with_reducible assumption | exact ⟨by omega, by omega⟩ | assumption) (b_iT_length) (b_iT_at_23) (b_iT_number_23) (b_iT_next_23) (by first | with_reducible assumption | omega | assumption) (by first | with_reducible assumption | omega | (rw [iI_t (by omega) (by omega)]; omega) | decide | assumption) (by first | with_reducible assumption | omega | (rw [iI_t (by omega) (by omega)]; omega) | decide | assumption) (by first | with_reducible assumption | omega | (rw [iI_t (by omega) (by omega)]; omega) | decide | assumption) (by first | with_reducible assumption | omega | (rw [iI_t (by omega) (by omega)]; omega) | decide | assumption) (by first | with_reducible assumption | omega | (rw [iI_t (by omega) (by omega)]; omega) | decide | assumption) (by first | with_reducible assumption | omega | (rw [iI_t (by omega) (by omega)]; omega) | decide | assumption) (by first | with_reducible assumption | omega | (rw [iI_t (by omega) (by omega)]; omega) | decide | assumption) (by first | with_reducible assumption | omega | (rw [iI_t (by omega) (by omega)]; omega) | decide | assumption) H.size) (cwV 0 hts gwsMX4_named_6 rfl rfl rfl (by decide +kernel) ⟨by first | decide +kernel | (dsimp only [headSpec] <;> omega), by first | decide +kernel | (dsimp only [headSpec] <;> omega)⟩) (fz_preE (va_recv hK hP (ci := 4) (q0 := 0) rfl rfl) hP hK hD (fun a U g mk qE => qE.call) (fun U hU9 hW => by rw [hU9]; exact (((hE : CE A s s.heap).kept hS.2.1).narrow (fun q h => hFc q h)).warm hW)) rfl rfl hl.1 rfl (lv_room (Nat.le_of_ble_eq_true rfl)) dX4_named_114 ⟨by first | decide +kernel | (dsimp only [headSpec] <;> omega), by first | decide +kernel | (dsimp only [headSpec] <;> omega)⟩) hS (fun q _ h => hFc q h) hFc (fun q _ h => hFc q h) (fun E ce q9 u t9_ H locs ht hvm hw9 hB9 hz1 hk1 hS hc1 hc2 hc3 => ?_) (fun r24 u t9_ H locs ht hvm hw9 hB9 hz1 hk1 hS => ?_)
          · revert u hw9 hB9
            refine fz_p12 ?_
            intro iJ_used_24 iJ_depth_24 gJ_binder_24 iJ_binders_24 fF_tree_24 iT_fault_24 iT_place_24 iT_kind_24 iT_at_24 iT_number_24 jT_name_24 iT_next_24 hw9 hB9
            try dsimp only at hw9 hB9
            revert hB9
            refine fz_a2 ?_
            intro hEx hB9
            revert hw9
            refine fz_a6 ?_
            intro b_iJ_used_24 b_iJ_depth_24 b_iJ_binders_24 b_iT_at_24 b_iT_number_24 b_iT_next_24
            have hP : va_P (dC, dI) vwCl (WJ hJ aJ kJ hT hM hL (.ref dF_tree) iJ_used_24 iJ_depth_24 jJ_ownName gJ_binder_24 iJ_binders_24 iJ_firstSet iJ_secondSet ++ (WL hL aL kL hT hM (.ref dF_tree) iL_names gL_key fL_kind fL_one fL_two fL_base iL_params fL_paramOver dL_paramOver nL_params fL_paramUnder dL_paramUnder nL_pu gL_over gL_under fL_bound iL_nameAt iL_startAt iL_steps jL_scaleOver jL_scaleUnder ++ (WF hF aF kF dF_tree nF_tree fF_tree_24 ++ (WT hT aT kT fT_tape dT_tape nT_tape iT_length iT_fault_24 iT_place_24 iT_kind_24 iT_at_24 iT_number_24 jT_name_24 iT_next_24)))) H := fz_P ht hB9.1
            have hD := fz_sd hP (hB9.2.weaken (fun _ q _ h => hFc q.1 h)) rfl
            exact vx_out (fun x hx9 => (htab x hx9).elim) hlocks hc1 hc2 hc3 (fun t9_ ht hvm => ⟨(iJ_used_24, iJ_depth_24, gJ_binder_24, iJ_binders_24, fF_tree_24, iT_fault_24, iT_place_24, iT_kind_24, iT_at_24, iT_number_24, jT_name_24, iT_next_24), ⟨(b_iJ_used_24), (b_iJ_depth_24), (b_iJ_binders_24), (b_iT_at_24), (b_iT_number_24), (b_iT_next_24)⟩, ⟨(by have h9 := hEx; exact h9), by rw [ht]; exact hP, hD⟩, hS.F ht⟩) hS.2.2 (by decide +kernel) (by decide +kernel)
          revert u hw9 hB9
          refine fz_p12 ?_
          intro iJ_used_24 iJ_depth_24 gJ_binder_24 iJ_binders_24 fF_tree_24 iT_fault_24 iT_place_24 iT_kind_24 iT_at_24 iT_number_24 jT_name_24 iT_next_24 hw9 hB9
          try dsimp only at hw9 hB9
          revert hw9
          refine fz_a16 ?_
          intro b_iJ_used_24 b_iJ_depth_24 b_iJ_binders_24 b_iT_at_24 b_iT_number_24 b_iT_next_24 f24_0 f24_1 f24_2 f24_3 f24_4 f24_5 f24_6 f24_7 f24_8 f24_9
          have hz8 := hB9.2.2
          rw [ht] at hz8
          have hz9 : H.size ≤ s.heap.size + 0 := by rw [hz8]; exact hz0
          refine W.tight (cells2 := 0) (slots2 := 0) hz9 (nS_0 hz9) ?_
          clear hz8 hz9
          have hP : va_P (dC, dI) vwCl (WJ hJ aJ kJ hT hM hL (.ref dF_tree) iJ_used_24 iJ_depth_24 jJ_ownName gJ_binder_24 iJ_binders_24 iJ_firstSet iJ_secondSet ++ (WL hL aL kL hT hM (.ref dF_tree) iL_names gL_key fL_kind fL_one fL_two fL_base iL_params fL_paramOver dL_paramOver nL_params fL_paramUnder dL_paramUnder nL_pu gL_over gL_under fL_bound iL_nameAt iL_startAt iL_steps jL_scaleOver jL_scaleUnder ++ (WF hF aF kF dF_tree nF_tree fF_tree_24 ++ (WT hT aT kT fT_tape dT_tape nT_tape iT_length iT_fault_24 iT_place_24 iT_kind_24 iT_at_24 iT_number_24 jT_name_24 iT_next_24)))) H := fz_P ht hB9.1
          have hD := fz_sd hP (hB9.2.1.weaken (fun _ q _ h => hFc q.1 h)) rfl
          have hF1 := f24_1
          refine lv_istore hx hb dX4_named_117 hl (by decide) rfl (fun ls (hl : lv_has ls _ ([(4, .int r24), (3, .int r4), (2, .int r2), (1, .int r1), (0, .ref (hJ 0))])) => ?_)
          refine lv_aload_n hx hb dX4_named_119 rfl (lv_at hl 4 rfl) ?_
          refine va_get (D := (dC, dI)) (ci := 4) (v := .ref dF_tree) (C := RX4) (T := TX4) (N := 11) hx hb hts iwsMX4_named_in4 hown hK hP 0 rfl rfl 3 (by decide) (hts _ hm_m_X4_named_3) (fun _ h9 => h9) rfl dX4_named_120 ?_
          refine lv_iload_n hx hb dX4_named_123 rfl (lv_at hl 1 rfl) ?_
          refine lv_iconst (v := 4) hx hb dX4_named_124 (by decide) ?_
          refine lv_iadd hx hb dX4_named_125 ?_
          refine lv_topi (fun y25 hy25 => ?_)
          obtain rfl : (iI (r4.toInt + 4)) = y25 := (hy25.trans (iI_add2 (iI_of _) (by decide : (4 : Int32) = iI 4))).symm
          refine lv_iload hx hb dX4_named_126 (lv_at hl 0 rfl) ?_
          refine va_iast (cA := kF 0) (n := nF_tree) (f := fF_tree_24) hx hb hK hP hD hS 13 11 rfl rfl (vp_iI (by omega) (by omega) (by omega)) dX4_named_128 (fun H locs hP hD hS => ?_)
          obtain ⟨u26, hu26⟩ : ∃ f9, f9 = upd fF_tree_24 ((iI (r4.toInt + 4))).toNatClampNeg r24 := ⟨_, rfl⟩
          have hP : va_P (dC, dI) vwCl (WJ hJ aJ kJ hT hM hL (.ref dF_tree) iJ_used_24 iJ_depth_24 jJ_ownName gJ_binder_24 iJ_binders_24 iJ_firstSet iJ_secondSet ++ (WL hL aL kL hT hM (.ref dF_tree) iL_names gL_key fL_kind fL_one fL_two fL_base iL_params fL_paramOver dL_paramOver nL_params fL_paramUnder dL_paramUnder nL_pu gL_over gL_under fL_bound iL_nameAt iL_startAt iL_steps jL_scaleOver jL_scaleUnder ++ (WF hF aF kF dF_tree nF_tree u26 ++ (WT hT aT kT fT_tape dT_tape nT_tape iT_length iT_fault_24 iT_place_24 iT_kind_24 iT_at_24 iT_number_24 jT_name_24 iT_next_24)))) H := by rw [hu26]; exact hP
          have hD : va_D A (WJ hJ aJ kJ hT hM hL (.ref dF_tree) iJ_used_24 iJ_depth_24 jJ_ownName gJ_binder_24 iJ_binders_24 iJ_firstSet iJ_secondSet ++ (WL hL aL kL hT hM (.ref dF_tree) iL_names gL_key fL_kind fL_one fL_two fL_base iL_params fL_paramOver dL_paramOver nL_params fL_paramUnder dL_paramUnder nL_pu gL_over gL_under fL_bound iL_nameAt iL_startAt iL_steps jL_scaleOver jL_scaleUnder ++ (WF hF aF kF dF_tree nF_tree u26 ++ (WT hT aT kT fT_tape dT_tape nT_tape iT_length iT_fault_24 iT_place_24 iT_kind_24 iT_at_24 iT_number_24 jT_name_24 iT_next_24)))) := by rw [hu26]; exact hD
          have b_u26 : WrL fF_tree_24 u26 (r4.toInt + 4) r24.toInt := by rw [hu26]; exact WrL.ofx rfl (by omega) (by omega)
          clear hu26
          have hN1 := NnL.one (L := lv) hN0 hF1 b_u26 (by omega) (by omega)
          refine lv_aload_n hx hb dX4_named_129 rfl (lv_at hl 4 rfl) ?_
          refine va_get (D := (dC, dI)) (ci := 4) (v := .ref (hL 0)) (C := RX4) (T := TX4) (N := 11) hx hb hts iwsMX4_named_in4 hown hK hP 0 rfl rfl 2 (by decide) (hts _ hm_m_X4_named_2) (fun _ h9 => h9) rfl dX4_named_130 ?_
          refine va_get (D := (dC, dI)) (ci := 10) (v := .ref (aL 3)) (C := RX10) (T := TX10) (N := 20) hx hb hts iwsMX4_named_in10 hown hK hP 2 rfl rfl 7 (by decide) (hts (.fieldLink RX4 204 "OptimaWorks$Worker" "two" "[I") (by decide +kernel)) (fun _ h9 => h9) rfl dX4_named_133 ?_
          refine lv_iload_n hx hb dX4_named_136 rfl (lv_at hl 2 rfl) ?_
          refine va_iald (cA := kL 3) (n := 40) (f := fL_two) hx hb hK hP 6 4 rfl rfl (vp_in_iff.mpr ⟨(by omega), (by omega)⟩) dX4_named_137 ?_
          refine lv_topi (fun v27 hv27 => ?_)
          have b_v27 : (-1) ≤ v27.toInt ∧ v27.toInt ≤ 39 := by rw [hv27]; exact b_fL_two _
          have b1_v27 : v27.toInt = twL fL_two r2.toInt := by rw [hv27]; exact tw_r
          clear hv27
          refine lv_iconst (v := (-1)) hx hb dX4_named_138 (by decide) ?_
          refine W.cut (pc := 167) (fun H locs ls stk => ∃ (iJ_used_j6 : Int32) (iJ_depth_j6 : Int32) (gJ_binder_j6 : Nat → Int64) (iJ_binders_j6 : Int32) (fF_tree_j6 : Nat → Int32) (iT_fault_j6 : Int32) (iT_place_j6 : Int32) (iT_kind_j6 : Int32) (iT_at_j6 : Int32) (iT_number_j6 : Int32) (jT_name_j6 : Int64) (iT_next_j6 : Int32) (l4_j6 : Int32), (0 ≤ iJ_used_j6.toInt ∧ iJ_used_j6.toInt ≤ 72200) ∧ (0 ≤ iJ_depth_j6.toInt ∧ iJ_depth_j6.toInt ≤ 25) ∧ (0 ≤ iJ_binders_j6.toInt ∧ iJ_binders_j6.toInt ≤ 64) ∧ (0 ≤ iT_at_j6.toInt ∧ iT_at_j6.toInt ≤ 1282) ∧ (0 ≤ iT_number_j6.toInt ∧ iT_number_j6.toInt ≤ 999999) ∧ (0 ≤ iT_next_j6.toInt ∧ iT_next_j6.toInt ≤ 1282) ∧ (iT_at.toInt ≤ iT_at_j6.toInt) ∧ (iT_at_j6.toInt ≤ iT_next_j6.toInt) ∧ (iT_next_j6.toInt ≤ iT_length.toInt) ∧ ((iT_kind_j6.toInt = 44 ∨ iT_kind_j6.toInt = 61) → iT_at_j6.toInt < iT_next_j6.toInt) ∧ (iJ_used.toInt + 7 ≤ iJ_used_j6.toInt) ∧ (iJ_used_j6.toInt ≤ ((nF_tree : Nat) : Int)) ∧ (iJ_used_j6.toInt % 7 = 0) ∧ (iJ_depth_j6.toInt = (lv : Int)) ∧ ((NnL fF_tree fF_tree_j6 fL_kind fL_one fL_two iL_names.toInt iJ_used.toInt iJ_used_j6.toInt r2.toInt [(twL fF_tree_j6 (iJ_used.toInt + 4), 1, lv + 1)] ∧ twL fL_two r2.toInt = -1) ∨ NnL fF_tree fF_tree_j6 fL_kind fL_one fL_two iL_names.toInt iJ_used.toInt iJ_used_j6.toInt r2.toInt [(twL fF_tree_j6 (iJ_used.toInt + 4), 1, lv + 1), (twL fF_tree_j6 (iJ_used.toInt + 5), 1, lv + 1)]) ∧  stk = [] ∧ va_P (dC, dI) vwCl (WJ hJ aJ kJ hT hM hL (.ref dF_tree) iJ_used_j6 iJ_depth_j6 jJ_ownName gJ_binder_j6 iJ_binders_j6 iJ_firstSet iJ_secondSet ++ (WL hL aL kL hT hM (.ref dF_tree) iL_names gL_key fL_kind fL_one fL_two fL_base iL_params fL_paramOver dL_paramOver nL_params fL_paramUnder dL_paramUnder nL_pu gL_over gL_under fL_bound iL_nameAt iL_startAt iL_steps jL_scaleOver jL_scaleUnder ++ (WF hF aF kF dF_tree nF_tree fF_tree_j6 ++ (WT hT aT kT fT_tape dT_tape nT_tape iT_length iT_fault_j6 iT_place_j6 iT_kind_j6 iT_at_j6 iT_number_j6 jT_name_j6 iT_next_j6)))) H ∧ va_D A (WJ hJ aJ kJ hT hM hL (.ref dF_tree) iJ_used_j6 iJ_depth_j6 jJ_ownName gJ_binder_j6 iJ_binders_j6 iJ_firstSet iJ_secondSet ++ (WL hL aL kL hT hM (.ref dF_tree) iL_names gL_key fL_kind fL_one fL_two fL_base iL_params fL_paramOver dL_paramOver nL_params fL_paramUnder dL_paramUnder nL_pu gL_over gL_under fL_bound iL_nameAt iL_startAt iL_steps jL_scaleOver jL_scaleUnder ++ (WF hF aF kF dF_tree nF_tree fF_tree_j6 ++ (WT hT aT kT fT_tape dT_tape nT_tape iT_length iT_fault_j6 iT_place_j6 iT_kind_j6 iT_at_j6 iT_number_j6 jT_name_j6 iT_next_j6)))) ∧ va_S A s.heap H locs ∧ lv_has ls 5 [(4, .int l4_j6), (3, .int r4), (2, .int r2), (1, .int r1), (0, .ref (hJ 0))]) (fun join6 => ?_) ?_
          · refine lv_icmp_eq (tgt := 167) hx hb dX4_named_139 (by decide) (fun c_139 => ?_) (fun c_139 => ?_)
            · have t_139 : v27.toInt = (-1) := toI_eq c_139 rfl (by decide : ((-1) : Int32).toInt = (-1))
              have hl : lv_has _ _ ([(4, .int r24), (3, .int r4), (2, .int r2), (1, .int r1), (0, .ref (hJ 0))]) := lv_sub hl [0, 1, 2, 3, 4] rfl
              exact join6 _ _ _ _ ⟨iJ_used_24, iJ_depth_24, gJ_binder_24, iJ_binders_24, u26, iT_fault_24, iT_place_24, iT_kind_24, iT_at_24, iT_number_24, jT_name_24, iT_next_24, r24, (b_iJ_used_24), (b_iJ_depth_24), (b_iJ_binders_24), (b_iT_at_24), (b_iT_number_24), (b_iT_next_24), (show iT_at.toInt ≤ iT_at_24.toInt from by omega), (show iT_at_24.toInt ≤ iT_next_24.toInt from by first | done | assumption | omega | (rw [iI_t (by omega) (by omega)]; omega)), (show iT_next_24.toInt ≤ iT_length.toInt from by first | done | assumption | omega | (rw [iI_t (by omega) (by omega)]; omega)), (show (iT_kind_24.toInt = 44 ∨ iT_kind_24.toInt = 61) → iT_at_24.toInt < iT_next_24.toInt from by first | done | assumption | omega | (rw [iI_t (by omega) (by omega)]; omega)), (show iJ_used.toInt + 7 ≤ iJ_used_24.toInt from by omega), (show iJ_used_24.toInt ≤ ((nF_tree : Nat) : Int) from by first | done | assumption | omega | (rw [iI_t (by omega) (by omega)]; omega)), (show iJ_used_24.toInt % 7 = 0 from by omega), (show iJ_depth_24.toInt = (lv : Int) from by omega), (show (NnL fF_tree u26 fL_kind fL_one fL_two iL_names.toInt iJ_used.toInt iJ_used_24.toInt r2.toInt [(twL u26 (iJ_used.toInt + 4), 1, lv + 1)] ∧ twL fL_two r2.toInt = -1) ∨ NnL fF_tree u26 fL_kind fL_one fL_two iL_names.toInt iJ_used.toInt iJ_used_24.toInt r2.toInt [(twL u26 (iJ_used.toInt + 4), 1, lv + 1), (twL u26 (iJ_used.toInt + 5), 1, lv + 1)] from by first | exact Or.inl ⟨hN1, by omega⟩ | exact Or.inr (NnL.two hN1 hF2 b_u26 (by omega) (by omega))), rfl, hP, hD, hS, hl⟩
            · have t_139 : ¬ v27.toInt = (-1) := toI_neq c_139 rfl (by decide : ((-1) : Int32).toInt = (-1))
              refine lv_aload_n hx hb dX4_named_142 rfl (lv_at hl 4 rfl) ?_
              refine va_get (D := (dC, dI)) (ci := 4) (v := .ref (hT 0)) (C := RX4) (T := TX4) (N := 11) hx hb hts iwsMX4_named_in4 hown hK hP 0 rfl rfl 0 (by decide) (hts _ hm_m_X4_named_0) (fun _ h9 => h9) rfl dX4_named_143 ?_
              refine lv_bipush (v := 44) hx hb dX4_named_146 (by decide) ?_
              refine W.known (fun hz0 _ => ?_)
              have p9 := cj_4_3 (WJ hJ aJ kJ hT hM hL (.ref dF_tree) iJ_used_24 iJ_depth_24 jJ_ownName gJ_binder_24 iJ_binders_24 iJ_firstSet iJ_secondSet) (WL hL aL kL hT hM (.ref dF_tree) iL_names gL_key fL_kind fL_one fL_two fL_base iL_params fL_paramOver dL_paramOver nL_params fL_paramUnder dL_paramUnder nL_pu gL_over gL_under fL_bound iL_nameAt iL_startAt iL_steps jL_scaleOver jL_scaleUnder) (WF hF aF kF dF_tree nF_tree u26) (WT hT aT kT fT_tape dT_tape nT_tape iT_length iT_fault_24 iT_place_24 iT_kind_24 iT_at_24 iT_number_24 jT_name_24 iT_next_24)
              have hPc := hP.mem (fun q h => p9.mem_iff.mpr (List.mem_append_left _ h))
              have hDc := (hD.perm p9).left
              have hKc : va_K (dC, dI) vwCl (tT kT) _ := hK.sub [12] rfl
              have hFc := freeG p9 hD hS hA
              refine vx_callv (vx_runV (As := [.int 44]) (rest := []) ⟨hx, hb, hml, hown, hts⟩ (m_X9_take l hst dC dI hT aT kT fT_tape dT_tape nT_tape iT_length iT_fault_24 iT_place_24 iT_kind_24 iT_at_24 iT_number_24 jT_name_24 iT_next_24 44 b_fT_tape (by first | exact b_nT_tape | with_reducible assumption | exact ⟨by omega, by omega⟩ | assumption) (b_iT_length) (b_iT_at_24) (b_iT_number_24) (b_iT_next_24) (by first | with_reducible assumption | omega | assumption) (by first | with_reducible assumption | omega | (rw [iI_t (by omega) (by omega)]; omega) | decide | assumption) (by first | with_reducible assumption | omega | (rw [iI_t (by omega) (by omega)]; omega) | decide | assumption) (by first | with_reducible assumption | omega | (rw [iI_t (by omega) (by omega)]; omega) | decide | assumption) H.size) (cwV 1 hts gwsMX4_named_5 rfl rfl rfl (by decide +kernel) ⟨by first | decide +kernel | (dsimp only [headSpec] <;> omega), by first | decide +kernel | (dsimp only [headSpec] <;> omega)⟩) (fz_preE (va_recv hK hP (ci := 9) (q0 := 14) rfl rfl) hPc hKc hDc (fun a U g mk qE => qE.call) (fun U hU9 hW => by rw [hU9]; exact (((hE : CE A s s.heap).kept hS.2.1).narrow (fun q h => hFc q h)).warm hW)) rfl rfl hl.1 rfl (lv_room (Nat.le_of_ble_eq_true rfl)) dX4_named_148 ⟨by first | decide +kernel | (dsimp only [headSpec] <;> omega), by first | decide +kernel | (dsimp only [headSpec] <;> omega)⟩) hS (fun q _ h => hFc q h) hFc (fun q _ h => hFc q h) (fun E ce q9 u t9_ H locs ht hvm hw9 hB9 hz1 hk1 hS hc1 hc2 hc3 => ?_) (fun u t9_ H locs ht hvm hw9 hB9 hz1 hk1 hS => ?_)
              · revert u hw9 hB9
                refine fz_p7 ?_
                intro iT_fault_32 iT_place_32 iT_kind_32 iT_at_32 iT_number_32 jT_name_32 iT_next_32 hw9 hB9
                try dsimp only at hw9 hB9
                revert hB9
                refine fz_a2 ?_
                intro hEx hB9
                revert hw9
                refine fz_a3 ?_
                intro b_iT_at_32 b_iT_number_32 b_iT_next_32
                have p8 := cj_4_3 (WJ hJ aJ kJ hT hM hL (.ref dF_tree) iJ_used_24 iJ_depth_24 jJ_ownName gJ_binder_24 iJ_binders_24 iJ_firstSet iJ_secondSet) (WL hL aL kL hT hM (.ref dF_tree) iL_names gL_key fL_kind fL_one fL_two fL_base iL_params fL_paramOver dL_paramOver nL_params fL_paramUnder dL_paramUnder nL_pu gL_over gL_under fL_bound iL_nameAt iL_startAt iL_steps jL_scaleOver jL_scaleUnder) (WF hF aF kF dF_tree nF_tree u26) (WT hT aT kT fT_tape dT_tape nT_tape iT_length iT_fault_32 iT_place_32 iT_kind_32 iT_at_32 iT_number_32 jT_name_32 iT_next_32)
                obtain ⟨hP, hD⟩ := frameG p9 p8 hP hD hk1 hFc (fz_P ht hB9.1) hB9.2
                exact vx_out (fun x hx9 => (htab x hx9).elim) hlocks hc1 hc2 hc3 (fun t9_ ht hvm => ⟨(iJ_used_24, iJ_depth_24, gJ_binder_24, iJ_binders_24, u26, iT_fault_32, iT_place_32, iT_kind_32, iT_at_32, iT_number_32, jT_name_32, iT_next_32), ⟨(b_iJ_used_24), (b_iJ_depth_24), (b_iJ_binders_24), (b_iT_at_32), (b_iT_number_32), (b_iT_next_32)⟩, ⟨(by have h9 := hEx; exact h9), by rw [ht]; exact hP, hD⟩, hS.F ht⟩) hS.2.2 (by decide +kernel) (by decide +kernel)
              revert u hw9 hB9
              refine fz_p7 ?_
              intro iT_fault_32 iT_place_32 iT_kind_32 iT_at_32 iT_number_32 jT_name_32 iT_next_32 hw9 hB9
              try dsimp only at hw9 hB9
              revert hw9
              refine fz_a8 ?_
              intro b_iT_at_32 b_iT_number_32 b_iT_next_32 f32_0 f32_1 f32_2 f32_3 f32_4
              have hz8 := hB9.2.2
              rw [ht] at hz8
              have hz9 : H.size ≤ s.heap.size + 0 := by rw [hz8]; exact hz0
              refine W.tight (cells2 := 0) (slots2 := 0) hz9 (nS_0 hz9) ?_
              clear hz8 hz9
              have p8 := cj_4_3 (WJ hJ aJ kJ hT hM hL (.ref dF_tree) iJ_used_24 iJ_depth_24 jJ_ownName gJ_binder_24 iJ_binders_24 iJ_firstSet iJ_secondSet) (WL hL aL kL hT hM (.ref dF_tree) iL_names gL_key fL_kind fL_one fL_two fL_base iL_params fL_paramOver dL_paramOver nL_params fL_paramUnder dL_paramUnder nL_pu gL_over gL_under fL_bound iL_nameAt iL_startAt iL_steps jL_scaleOver jL_scaleUnder) (WF hF aF kF dF_tree nF_tree u26) (WT hT aT kT fT_tape dT_tape nT_tape iT_length iT_fault_32 iT_place_32 iT_kind_32 iT_at_32 iT_number_32 jT_name_32 iT_next_32)
              obtain ⟨hP, hD⟩ := frameG p9 p8 hP hD hk1 hFc (fz_P ht hB9.1) hB9.2.1
              refine lv_aload_n hx hb dX4_named_151 rfl (lv_at hl 4 rfl) ?_
              refine W.known (fun hz0 _ => ?_)
              have hFc := allFree hD hS hA
              refine vx_calli (vx_runV (As := []) (rest := []) ⟨hx, hb, hml, hown, hts⟩ (ih_X4_linear dC dI hJ aJ kJ hT hM hL iJ_used_24 iJ_depth_24 jJ_ownName gJ_binder_24 iJ_binders_24 iJ_firstSet iJ_secondSet aL kL iL_names gL_key fL_kind fL_one fL_two fL_base iL_params fL_paramOver dL_paramOver nL_params fL_paramUnder dL_paramUnder nL_pu gL_over gL_under fL_bound iL_nameAt iL_startAt iL_steps jL_scaleOver jL_scaleUnder hF aF kF dF_tree nF_tree u26 aT kT fT_tape dT_tape nT_tape iT_length iT_fault_32 iT_place_32 iT_kind_32 iT_at_32 iT_number_32 jT_name_32 iT_next_32 (lv + 1) (b_iJ_used_24) (b_iJ_depth_24) (b_iJ_binders_24) (b_iJ_firstSet) (b_iJ_secondSet) (b_iL_names) b_fL_kind b_fL_two b_fL_base (b_iL_params) (by first | exact b_nL_params | with_reducible assumption | exact ⟨by omega, by omega⟩ | assumption) (by first | with_reducible assumption | omega | (rw [iI_t (by omega) (by omega)]; omega) | assumption) (by first | with_reducible assumption | omega | (rw [iI_t (by omega) (by omega)]; omega) | assumption) (by first | with_reducible assumption | omega | (rw [iI_t (by omega) (by omega)]; omega) | assumption) (by first | exact b_nF_tree | with_reducible assumption | exact ⟨by omega, by omega⟩ | assumption) b_fT_tape (by first | exact b_nT_tape | with_reducible assumption | exact ⟨by omega, by omega⟩ | assumption) (b_iT_length) (b_iT_at_32) (b_iT_number_32) (b_iT_next_32) (by first | with_reducible assumption | omega | assumption) (by first | with_reducible assumption | omega | (rw [iI_t (by omega) (by omega)]; omega) | decide | assumption) (by first | with_reducible assumption | omega | (rw [iI_t (by omega) (by omega)]; omega) | decide | assumption) (by first | with_reducible assumption | omega | (rw [iI_t (by omega) (by omega)]; omega) | decide | assumption) (by first | with_reducible assumption | omega | (rw [iI_t (by omega) (by omega)]; omega) | decide | assumption) (by first | with_reducible assumption | omega | (rw [iI_t (by omega) (by omega)]; omega) | decide | assumption) (by first | with_reducible assumption | omega | (rw [iI_t (by omega) (by omega)]; omega) | decide | assumption) (by first | with_reducible assumption | omega | (rw [iI_t (by omega) (by omega)]; omega) | decide | assumption) (by first | with_reducible assumption | omega | (rw [iI_t (by omega) (by omega)]; omega) | decide | assumption) H.size) (cwV 0 hts gwsMX4_named_6 rfl rfl rfl (by decide +kernel) ⟨by first | decide +kernel | (dsimp only [headSpec] <;> omega), by first | decide +kernel | (dsimp only [headSpec] <;> omega)⟩) (fz_preE (va_recv hK hP (ci := 4) (q0 := 0) rfl rfl) hP hK hD (fun a U g mk qE => qE.call) (fun U hU9 hW => by rw [hU9]; exact (((hE : CE A s s.heap).kept hS.2.1).narrow (fun q h => hFc q h)).warm hW)) rfl rfl hl.1 rfl (lv_room (Nat.le_of_ble_eq_true rfl)) dX4_named_152 ⟨by first | decide +kernel | (dsimp only [headSpec] <;> omega), by first | decide +kernel | (dsimp only [headSpec] <;> omega)⟩) hS (fun q _ h => hFc q h) hFc (fun q _ h => hFc q h) (fun E ce q9 u t9_ H locs ht hvm hw9 hB9 hz1 hk1 hS hc1 hc2 hc3 => ?_) (fun r33 u t9_ H locs ht hvm hw9 hB9 hz1 hk1 hS => ?_)
              · revert u hw9 hB9
                refine fz_p12 ?_
                intro iJ_used_33 iJ_depth_33 gJ_binder_33 iJ_binders_33 fF_tree_33 iT_fault_33 iT_place_33 iT_kind_33 iT_at_33 iT_number_33 jT_name_33 iT_next_33 hw9 hB9
                try dsimp only at hw9 hB9
                revert hB9
                refine fz_a2 ?_
                intro hEx hB9
                revert hw9
                refine fz_a6 ?_
                intro b_iJ_used_33 b_iJ_depth_33 b_iJ_binders_33 b_iT_at_33 b_iT_number_33 b_iT_next_33
                have hP : va_P (dC, dI) vwCl (WJ hJ aJ kJ hT hM hL (.ref dF_tree) iJ_used_33 iJ_depth_33 jJ_ownName gJ_binder_33 iJ_binders_33 iJ_firstSet iJ_secondSet ++ (WL hL aL kL hT hM (.ref dF_tree) iL_names gL_key fL_kind fL_one fL_two fL_base iL_params fL_paramOver dL_paramOver nL_params fL_paramUnder dL_paramUnder nL_pu gL_over gL_under fL_bound iL_nameAt iL_startAt iL_steps jL_scaleOver jL_scaleUnder ++ (WF hF aF kF dF_tree nF_tree fF_tree_33 ++ (WT hT aT kT fT_tape dT_tape nT_tape iT_length iT_fault_33 iT_place_33 iT_kind_33 iT_at_33 iT_number_33 jT_name_33 iT_next_33)))) H := fz_P ht hB9.1
                have hD := fz_sd hP (hB9.2.weaken (fun _ q _ h => hFc q.1 h)) rfl
                exact vx_out (fun x hx9 => (htab x hx9).elim) hlocks hc1 hc2 hc3 (fun t9_ ht hvm => ⟨(iJ_used_33, iJ_depth_33, gJ_binder_33, iJ_binders_33, fF_tree_33, iT_fault_33, iT_place_33, iT_kind_33, iT_at_33, iT_number_33, jT_name_33, iT_next_33), ⟨(b_iJ_used_33), (b_iJ_depth_33), (b_iJ_binders_33), (b_iT_at_33), (b_iT_number_33), (b_iT_next_33)⟩, ⟨(by have h9 := hEx; exact h9), by rw [ht]; exact hP, hD⟩, hS.F ht⟩) hS.2.2 (by decide +kernel) (by decide +kernel)
              revert u hw9 hB9
              refine fz_p12 ?_
              intro iJ_used_33 iJ_depth_33 gJ_binder_33 iJ_binders_33 fF_tree_33 iT_fault_33 iT_place_33 iT_kind_33 iT_at_33 iT_number_33 jT_name_33 iT_next_33 hw9 hB9
              try dsimp only at hw9 hB9
              revert hw9
              refine fz_a16 ?_
              intro b_iJ_used_33 b_iJ_depth_33 b_iJ_binders_33 b_iT_at_33 b_iT_number_33 b_iT_next_33 f33_0 f33_1 f33_2 f33_3 f33_4 f33_5 f33_6 f33_7 f33_8 f33_9
              have hz8 := hB9.2.2
              rw [ht] at hz8
              have hz9 : H.size ≤ s.heap.size + 0 := by rw [hz8]; exact hz0
              refine W.tight (cells2 := 0) (slots2 := 0) hz9 (nS_0 hz9) ?_
              clear hz8 hz9
              have hP : va_P (dC, dI) vwCl (WJ hJ aJ kJ hT hM hL (.ref dF_tree) iJ_used_33 iJ_depth_33 jJ_ownName gJ_binder_33 iJ_binders_33 iJ_firstSet iJ_secondSet ++ (WL hL aL kL hT hM (.ref dF_tree) iL_names gL_key fL_kind fL_one fL_two fL_base iL_params fL_paramOver dL_paramOver nL_params fL_paramUnder dL_paramUnder nL_pu gL_over gL_under fL_bound iL_nameAt iL_startAt iL_steps jL_scaleOver jL_scaleUnder ++ (WF hF aF kF dF_tree nF_tree fF_tree_33 ++ (WT hT aT kT fT_tape dT_tape nT_tape iT_length iT_fault_33 iT_place_33 iT_kind_33 iT_at_33 iT_number_33 jT_name_33 iT_next_33)))) H := fz_P ht hB9.1
              have hD := fz_sd hP (hB9.2.1.weaken (fun _ q _ h => hFc q.1 h)) rfl
              have hF2 := f33_1
              refine lv_istore hx hb dX4_named_155 hl (by decide) rfl (fun ls (hl : lv_has ls _ ([(4, .int r33), (3, .int r4), (2, .int r2), (1, .int r1), (0, .ref (hJ 0))])) => ?_)
              refine lv_aload_n hx hb dX4_named_157 rfl (lv_at hl 4 rfl) ?_
              refine va_get (D := (dC, dI)) (ci := 4) (v := .ref dF_tree) (C := RX4) (T := TX4) (N := 11) hx hb hts iwsMX4_named_in4 hown hK hP 0 rfl rfl 3 (by decide) (hts _ hm_m_X4_named_3) (fun _ h9 => h9) rfl dX4_named_158 ?_
              refine lv_iload_n hx hb dX4_named_161 rfl (lv_at hl 1 rfl) ?_
              refine lv_iconst (v := 5) hx hb dX4_named_162 (by decide) ?_
              refine lv_iadd hx hb dX4_named_163 ?_
              refine lv_topi (fun y34 hy34 => ?_)
              obtain rfl : (iI (r4.toInt + 5)) = y34 := (hy34.trans (iI_add2 (iI_of _) (by decide : (5 : Int32) = iI 5))).symm
              refine lv_iload hx hb dX4_named_164 (lv_at hl 0 rfl) ?_
              refine va_iast (cA := kF 0) (n := nF_tree) (f := fF_tree_33) hx hb hK hP hD hS 13 11 rfl rfl (vp_iI (by omega) (by omega) (by omega)) dX4_named_166 (fun H locs hP hD hS => ?_)
              obtain ⟨u35, hu35⟩ : ∃ f9, f9 = upd fF_tree_33 ((iI (r4.toInt + 5))).toNatClampNeg r33 := ⟨_, rfl⟩
              have hP : va_P (dC, dI) vwCl (WJ hJ aJ kJ hT hM hL (.ref dF_tree) iJ_used_33 iJ_depth_33 jJ_ownName gJ_binder_33 iJ_binders_33 iJ_firstSet iJ_secondSet ++ (WL hL aL kL hT hM (.ref dF_tree) iL_names gL_key fL_kind fL_one fL_two fL_base iL_params fL_paramOver dL_paramOver nL_params fL_paramUnder dL_paramUnder nL_pu gL_over gL_under fL_bound iL_nameAt iL_startAt iL_steps jL_scaleOver jL_scaleUnder ++ (WF hF aF kF dF_tree nF_tree u35 ++ (WT hT aT kT fT_tape dT_tape nT_tape iT_length iT_fault_33 iT_place_33 iT_kind_33 iT_at_33 iT_number_33 jT_name_33 iT_next_33)))) H := by rw [hu35]; exact hP
              have hD : va_D A (WJ hJ aJ kJ hT hM hL (.ref dF_tree) iJ_used_33 iJ_depth_33 jJ_ownName gJ_binder_33 iJ_binders_33 iJ_firstSet iJ_secondSet ++ (WL hL aL kL hT hM (.ref dF_tree) iL_names gL_key fL_kind fL_one fL_two fL_base iL_params fL_paramOver dL_paramOver nL_params fL_paramUnder dL_paramUnder nL_pu gL_over gL_under fL_bound iL_nameAt iL_startAt iL_steps jL_scaleOver jL_scaleUnder ++ (WF hF aF kF dF_tree nF_tree u35 ++ (WT hT aT kT fT_tape dT_tape nT_tape iT_length iT_fault_33 iT_place_33 iT_kind_33 iT_at_33 iT_number_33 jT_name_33 iT_next_33)))) := by rw [hu35]; exact hD
              have b_u35 : WrL fF_tree_33 u35 (r4.toInt + 5) r33.toInt := by rw [hu35]; exact WrL.ofx rfl (by omega) (by omega)
              clear hu35
              have hl : lv_has _ _ ([(4, .int r33), (3, .int r4), (2, .int r2), (1, .int r1), (0, .ref (hJ 0))]) := lv_sub hl [0, 1, 2, 3, 4] rfl
              exact join6 _ _ _ _ ⟨iJ_used_33, iJ_depth_33, gJ_binder_33, iJ_binders_33, u35, iT_fault_33, iT_place_33, iT_kind_33, iT_at_33, iT_number_33, jT_name_33, iT_next_33, r33, (b_iJ_used_33), (b_iJ_depth_33), (b_iJ_binders_33), (b_iT_at_33), (b_iT_number_33), (b_iT_next_33), (show iT_at.toInt ≤ iT_at_33.toInt from by omega), (show iT_at_33.toInt ≤ iT_next_33.toInt from by first | done | assumption | omega | (rw [iI_t (by omega) (by omega)]; omega)), (show iT_next_33.toInt ≤ iT_length.toInt from by first | done | assumption | omega | (rw [iI_t (by omega) (by omega)]; omega)), (show (iT_kind_33.toInt = 44 ∨ iT_kind_33.toInt = 61) → iT_at_33.toInt < iT_next_33.toInt from by first | done | assumption | omega | (rw [iI_t (by omega) (by omega)]; omega)), (show iJ_used.toInt + 7 ≤ iJ_used_33.toInt from by omega), (show iJ_used_33.toInt ≤ ((nF_tree : Nat) : Int) from by first | done | assumption | omega | (rw [iI_t (by omega) (by omega)]; omega)), (show iJ_used_33.toInt % 7 = 0 from by omega), (show iJ_depth_33.toInt = (lv : Int) from by omega), (show (NnL fF_tree u35 fL_kind fL_one fL_two iL_names.toInt iJ_used.toInt iJ_used_33.toInt r2.toInt [(twL u35 (iJ_used.toInt + 4), 1, lv + 1)] ∧ twL fL_two r2.toInt = -1) ∨ NnL fF_tree u35 fL_kind fL_one fL_two iL_names.toInt iJ_used.toInt iJ_used_33.toInt r2.toInt [(twL u35 (iJ_used.toInt + 4), 1, lv + 1), (twL u35 (iJ_used.toInt + 5), 1, lv + 1)] from by first | exact Or.inl ⟨hN1, by omega⟩ | exact Or.inr (NnL.two hN1 hF2 b_u35 (by omega) (by omega))), rfl, hP, hD, hS, hl⟩
          · rintro H locs ls stk ⟨iJ_used_j6, iJ_depth_j6, gJ_binder_j6, iJ_binders_j6, fF_tree_j6, iT_fault_j6, iT_place_j6, iT_kind_j6, iT_at_j6, iT_number_j6, jT_name_j6, iT_next_j6, l4_j6, b_iJ_used_j6, b_iJ_depth_j6, b_iJ_binders_j6, b_iT_at_j6, b_iT_number_j6, b_iT_next_j6, hq0, hq1, hq2, hq3, hu1x, hu2x, hu7x, hdx, hNn, rfl, hP, hD, hS, hl⟩
            refine lv_aload_n hx hb dX4_named_167 rfl (lv_at hl 4 rfl) ?_
            refine va_get (D := (dC, dI)) (ci := 4) (v := .ref (hT 0)) (C := RX4) (T := TX4) (N := 11) hx hb hts iwsMX4_named_in4 hown hK hP 0 rfl rfl 0 (by decide) (hts _ hm_m_X4_named_0) (fun _ h9 => h9) rfl dX4_named_168 ?_
            refine lv_bipush (v := 93) hx hb dX4_named_171 (by decide) ?_
            refine W.known (fun hz0 _ => ?_)
            have p9 := cj_4_3 (WJ hJ aJ kJ hT hM hL (.ref dF_tree) iJ_used_j6 iJ_depth_j6 jJ_ownName gJ_binder_j6 iJ_binders_j6 iJ_firstSet iJ_secondSet) (WL hL aL kL hT hM (.ref dF_tree) iL_names gL_key fL_kind fL_one fL_two fL_base iL_params fL_paramOver dL_paramOver nL_params fL_paramUnder dL_paramUnder nL_pu gL_over gL_under fL_bound iL_nameAt iL_startAt iL_steps jL_scaleOver jL_scaleUnder) (WF hF aF kF dF_tree nF_tree fF_tree_j6) (WT hT aT kT fT_tape dT_tape nT_tape iT_length iT_fault_j6 iT_place_j6 iT_kind_j6 iT_at_j6 iT_number_j6 jT_name_j6 iT_next_j6)
            have hPc := hP.mem (fun q h => p9.mem_iff.mpr (List.mem_append_left _ h))
            have hDc := (hD.perm p9).left
            have hKc : va_K (dC, dI) vwCl (tT kT) _ := hK.sub [12] rfl
            have hFc := freeG p9 hD hS hA
            refine vx_callv (vx_runV (As := [.int 93]) (rest := []) ⟨hx, hb, hml, hown, hts⟩ (m_X9_take l hst dC dI hT aT kT fT_tape dT_tape nT_tape iT_length iT_fault_j6 iT_place_j6 iT_kind_j6 iT_at_j6 iT_number_j6 jT_name_j6 iT_next_j6 93 b_fT_tape (by first | exact b_nT_tape | with_reducible assumption | exact ⟨by omega, by omega⟩ | assumption) (b_iT_length) (b_iT_at_j6) (b_iT_number_j6) (b_iT_next_j6) (by first | with_reducible assumption | omega | assumption) (by first | with_reducible assumption | omega | (rw [iI_t (by omega) (by omega)]; omega) | decide | assumption) (by first | with_reducible assumption | omega | (rw [iI_t (by omega) (by omega)]; omega) | decide | assumption) (by first | with_reducible assumption | omega | (rw [iI_t (by omega) (by omega)]; omega) | decide | assumption) H.size) (cwV 1 hts gwsMX4_named_5 rfl rfl rfl (by decide +kernel) ⟨by first | decide +kernel | (dsimp only [headSpec] <;> omega), by first | decide +kernel | (dsimp only [headSpec] <;> omega)⟩) (fz_preE (va_recv hK hP (ci := 9) (q0 := 14) rfl rfl) hPc hKc hDc (fun a U g mk qE => qE.call) (fun U hU9 hW => by rw [hU9]; exact (((hE : CE A s s.heap).kept hS.2.1).narrow (fun q h => hFc q h)).warm hW)) rfl rfl hl.1 rfl (lv_room (Nat.le_of_ble_eq_true rfl)) dX4_named_173 ⟨by first | decide +kernel | (dsimp only [headSpec] <;> omega), by first | decide +kernel | (dsimp only [headSpec] <;> omega)⟩) hS (fun q _ h => hFc q h) hFc (fun q _ h => hFc q h) (fun E ce q9 u t9_ H locs ht hvm hw9 hB9 hz1 hk1 hS hc1 hc2 hc3 => ?_) (fun u t9_ H locs ht hvm hw9 hB9 hz1 hk1 hS => ?_)
            · revert u hw9 hB9
              refine fz_p7 ?_
              intro iT_fault_36 iT_place_36 iT_kind_36 iT_at_36 iT_number_36 jT_name_36 iT_next_36 hw9 hB9
              try dsimp only at hw9 hB9
              revert hB9
              refine fz_a2 ?_
              intro hEx hB9
              revert hw9
              refine fz_a3 ?_
              intro b_iT_at_36 b_iT_number_36 b_iT_next_36
              have p8 := cj_4_3 (WJ hJ aJ kJ hT hM hL (.ref dF_tree) iJ_used_j6 iJ_depth_j6 jJ_ownName gJ_binder_j6 iJ_binders_j6 iJ_firstSet iJ_secondSet) (WL hL aL kL hT hM (.ref dF_tree) iL_names gL_key fL_kind fL_one fL_two fL_base iL_params fL_paramOver dL_paramOver nL_params fL_paramUnder dL_paramUnder nL_pu gL_over gL_under fL_bound iL_nameAt iL_startAt iL_steps jL_scaleOver jL_scaleUnder) (WF hF aF kF dF_tree nF_tree fF_tree_j6) (WT hT aT kT fT_tape dT_tape nT_tape iT_length iT_fault_36 iT_place_36 iT_kind_36 iT_at_36 iT_number_36 jT_name_36 iT_next_36)
              obtain ⟨hP, hD⟩ := frameG p9 p8 hP hD hk1 hFc (fz_P ht hB9.1) hB9.2
              exact vx_out (fun x hx9 => (htab x hx9).elim) hlocks hc1 hc2 hc3 (fun t9_ ht hvm => ⟨(iJ_used_j6, iJ_depth_j6, gJ_binder_j6, iJ_binders_j6, fF_tree_j6, iT_fault_36, iT_place_36, iT_kind_36, iT_at_36, iT_number_36, jT_name_36, iT_next_36), ⟨(b_iJ_used_j6), (b_iJ_depth_j6), (b_iJ_binders_j6), (b_iT_at_36), (b_iT_number_36), (b_iT_next_36)⟩, ⟨(by have h9 := hEx; exact h9), by rw [ht]; exact hP, hD⟩, hS.F ht⟩) hS.2.2 (by decide +kernel) (by decide +kernel)
            revert u hw9 hB9
            refine fz_p7 ?_
            intro iT_fault_36 iT_place_36 iT_kind_36 iT_at_36 iT_number_36 jT_name_36 iT_next_36 hw9 hB9
            try dsimp only at hw9 hB9
            revert hw9
            refine fz_a8 ?_
            intro b_iT_at_36 b_iT_number_36 b_iT_next_36 f36_0 f36_1 f36_2 f36_3 f36_4
            have hz8 := hB9.2.2
            rw [ht] at hz8
            have hz9 : H.size ≤ s.heap.size + 0 := by rw [hz8]; exact hz0
            refine W.tight (cells2 := 0) (slots2 := 0) hz9 (nS_0 hz9) ?_
            clear hz8 hz9
            have p8 := cj_4_3 (WJ hJ aJ kJ hT hM hL (.ref dF_tree) iJ_used_j6 iJ_depth_j6 jJ_ownName gJ_binder_j6 iJ_binders_j6 iJ_firstSet iJ_secondSet) (WL hL aL kL hT hM (.ref dF_tree) iL_names gL_key fL_kind fL_one fL_two fL_base iL_params fL_paramOver dL_paramOver nL_params fL_paramUnder dL_paramUnder nL_pu gL_over gL_under fL_bound iL_nameAt iL_startAt iL_steps jL_scaleOver jL_scaleUnder) (WF hF aF kF dF_tree nF_tree fF_tree_j6) (WT hT aT kT fT_tape dT_tape nT_tape iT_length iT_fault_36 iT_place_36 iT_kind_36 iT_at_36 iT_number_36 jT_name_36 iT_next_36)
            obtain ⟨hP, hD⟩ := frameG p9 p8 hP hD hk1 hFc (fz_P ht hB9.1) hB9.2.1
            have hFx := NnL.finA hNn hl25 hfr hfv
            have hl : lv_has _ _ ([(3, .int r4), (2, .int r2), (1, .int r1), (0, .ref (hJ 0))]) := lv_sub hl [1, 2, 3, 4] rfl
            exact join5 _ _ _ _ ⟨iJ_used_j6, iJ_depth_j6, gJ_binder_j6, iJ_binders_j6, fF_tree_j6, iT_fault_36, iT_place_36, iT_kind_36, iT_at_36, iT_number_36, jT_name_36, iT_next_36, (b_iJ_used_j6), (b_iJ_depth_j6), (b_iJ_binders_j6), (b_iT_at_36), (b_iT_number_36), (b_iT_next_36), (show iT_at.toInt ≤ iT_at_36.toInt from by omega), (show iT_at_36.toInt ≤ iT_next_36.toInt from by first | done | assumption | omega | (rw [iI_t (by omega) (by omega)]; omega)), (show iT_next_36.toInt ≤ iT_length.toInt from by first | done | assumption | omega | (rw [iI_t (by omega) (by omega)]; omega)), (show (iT_kind_36.toInt = 44 ∨ iT_kind_36.toInt = 61) → iT_at_36.toInt < iT_next_36.toInt from by first | done | assumption | omega | (rw [iI_t (by omega) (by omega)]; omega)), (show iJ_used.toInt + 7 ≤ iJ_used_j6.toInt from by omega), (show iJ_used_j6.toInt ≤ ((nF_tree : Nat) : Int) from by first | done | assumption | omega | (rw [iI_t (by omega) (by omega)]; omega)), (show iJ_used_j6.toInt % 7 = 0 from by omega), (show iJ_depth_j6.toInt = (lv : Int) from by omega), (show FiL fF_tree fF_tree_j6 fL_kind fL_one fL_two iL_names.toInt iJ_used.toInt iJ_used_j6.toInt 3 lv from by first | exact hFx | exact NnL.fin hN0 hl25 hfr hfv (fun h9 => absurd (by omega) h9)), rfl, hP, hD, hS, hl⟩
      · rintro H locs ls stk ⟨iJ_used_j5, iJ_depth_j5, gJ_binder_j5, iJ_binders_j5, fF_tree_j5, iT_fault_j5, iT_place_j5, iT_kind_j5, iT_at_j5, iT_number_j5, jT_name_j5, iT_next_j5, b_iJ_used_j5, b_iJ_depth_j5, b_iJ_binders_j5, b_iT_at_j5, b_iT_number_j5, b_iT_next_j5, hq0, hq1, hq2, hq3, hu1x, hu2x, hu7x, hdx, hFi, rfl, hP, hD, hS, hl⟩
        refine lv_iload_n hx hb dX4_named_176 rfl (lv_at hl 0 rfl) ?_
        refine vx_ret ?_
        refine W.known (fun hz9 _ => ?_)
        refine W.widen (k := 1) (n := 6) (by decide +kernel) (by decide +kernel) ?_
        exact W.iret (v := r4) hx hb hr (fun t9_ ht hW => ⟨⟨r4, (iJ_used_j5, iJ_depth_j5, gJ_binder_j5, iJ_binders_j5, fF_tree_j5, iT_fault_j5, iT_place_j5, iT_kind_j5, iT_at_j5, iT_number_j5, jT_name_j5, iT_next_j5), rfl, ⟨(by (try dsimp only); exact (by first | exact b_iJ_used_j5 | with_reducible assumption | exact ⟨by omega, by omega⟩ | assumption)), (by (try dsimp only); exact (by first | exact b_iJ_depth_j5 | with_reducible assumption | exact ⟨by omega, by omega⟩ | assumption)), (by (try dsimp only); exact (by first | exact b_iJ_binders_j5 | with_reducible assumption | exact ⟨by omega, by omega⟩ | assumption)), (by (try dsimp only); exact (by first | exact b_iT_at_j5 | with_reducible assumption | exact ⟨by omega, by omega⟩ | assumption)), (by (try dsimp only); exact (by first | exact b_iT_number_j5 | with_reducible assumption | exact ⟨by omega, by omega⟩ | assumption)), (by (try dsimp only); exact (by first | exact b_iT_next_j5 | with_reducible assumption | exact ⟨by omega, by omega⟩ | assumption)), (by (try dsimp only); first | done | assumption | omega | (rw [iI_t (by omega) (by omega)]; omega)), (by (try dsimp only); first | exact hFi | exact FiL.leaf hNw hu1 hu7 (by omega) b_u35 (by omega) (by omega) (fun V h8 h9 => nd4 h9 (by rw [h8]; omega) (by rw [h8]; omega))), (by (try dsimp only); first | done | assumption | omega | (rw [iI_t (by omega) (by omega)]; omega)), (by (try dsimp only); first | done | assumption | omega | (rw [iI_t (by omega) (by omega)]; omega)), (by (try dsimp only); first | done | assumption | omega | (rw [iI_t (by omega) (by omega)]; omega)), (by (try dsimp only); first | done | assumption | omega | (rw [iI_t (by omega) (by omega)]; omega)), (by (try dsimp only); omega), (by (try dsimp only); first | done | assumption | omega | (rw [iI_t (by omega) (by omega)]; omega)), (by (try dsimp only); first | done | assumption | omega | (rw [iI_t (by omega) (by omega)]; omega)), (by (try dsimp only); first | done | assumption | omega | (rw [iI_t (by omega) (by omega)]; omega))⟩, by rw [ht]; exact hP, hD, by rw [ht]; first | done | exact Nat.le_antisymm hz9 hS.1⟩, hS.F ht⟩) hS.2.2 dX4_named_177
    · have t_58 : r2.toInt = (-1) := toI_nne c_58 rfl (by decide : ((-1) : Int32).toInt = (-1))
      refine lv_aload_n hx hb dX4_named_61 rfl (lv_at hl 2 rfl) ?_
      refine va_get (D := (dC, dI)) (ci := 4) (v := .ref (hT 0)) (C := RX4) (T := TX4) (N := 11) hx hb hts iwsMX4_named_in4 hown hK hP 0 rfl rfl 0 (by decide) (hts _ hm_m_X4_named_0) (fun _ h9 => h9) rfl dX4_named_62 ?_
      refine lv_iconst (v := 3) hx hb dX4_named_65 (by decide) ?_
      have p9 := cj_4_3 (WJ hJ aJ kJ hT hM hL (.ref dF_tree) iJ_used iJ_depth jJ_ownName gJ_binder iJ_binders iJ_firstSet iJ_secondSet) (WL hL aL kL hT hM (.ref dF_tree) iL_names gL_key fL_kind fL_one fL_two fL_base iL_params fL_paramOver dL_paramOver nL_params fL_paramUnder dL_paramUnder nL_pu gL_over gL_under fL_bound iL_nameAt iL_startAt iL_steps jL_scaleOver jL_scaleUnder) (WF hF aF kF dF_tree nF_tree fF_tree) (WT hT aT kT fT_tape dT_tape nT_tape iT_length iT_fault iT_place iT_kind iT_at iT_number jT_name iT_next)
      have hPc := hP.mem (fun q h => p9.mem_iff.mpr (List.mem_append_left _ h))
      have hDc := (hD.perm p9).left
      have hKc : va_K (dC, dI) vwCl (tT kT) _ := hK.sub [12] rfl
      have hFc := freeG p9 hD hS hA
      refine vx_callv (vx_runV (As := [.int 3]) (rest := []) ⟨hx, hb, hml, hown, hts⟩ (m_X9_failHere l hst dC dI hT aT kT fT_tape dT_tape nT_tape iT_length iT_fault iT_place iT_kind iT_at iT_number jT_name iT_next 3 b_fT_tape (by first | exact b_nT_tape | with_reducible assumption | exact ⟨by omega, by omega⟩ | assumption) (b_iT_length) (b_iT_at) (b_iT_number) (b_iT_next) (by first | with_reducible assumption | omega | assumption) H.size) (cwV 1 hts gwsMX4_named_2 rfl rfl rfl (by decide +kernel) ⟨by first | decide +kernel | (dsimp only [headSpec] <;> omega), by first | decide +kernel | (dsimp only [headSpec] <;> omega)⟩) (fz_preE (va_recv hK hP (ci := 9) (q0 := 14) rfl rfl) hPc hKc hDc (fun a U g mk qE => qE.call) (fun U hU9 hW => by rw [hU9]; exact (((hE : CE A s s.heap).kept hS.2.1).narrow (fun q h => hFc q h)).warm hW)) rfl rfl hl.1 rfl (lv_room (Nat.le_of_ble_eq_true rfl)) dX4_named_66 ⟨by first | decide +kernel | (dsimp only [headSpec] <;> omega), by first | decide +kernel | (dsimp only [headSpec] <;> omega)⟩) hS (fun q _ h => hFc q h) hFc (fun q _ h => hFc q h) (fun E ce q9 u t9_ H locs ht hvm hw9 hB9 hz1 hk1 hS hc1 hc2 hc3 => ?_) (fun u t9_ H1 locs ht hvm hw9 hB9 hz1 hk1 hS => ?_)
      · revert u hw9 hB9
        refine fz_p2 ?_
        intro iT_fault_37 iT_place_37 hw9 hB9
        try dsimp only at hw9 hB9
        revert hB9
        refine fz_a2 ?_
        intro hEx hB9
        clear hw9
        have p8 := cj_4_3 (WJ hJ aJ kJ hT hM hL (.ref dF_tree) iJ_used iJ_depth jJ_ownName gJ_binder iJ_binders iJ_firstSet iJ_secondSet) (WL hL aL kL hT hM (.ref dF_tree) iL_names gL_key fL_kind fL_one fL_two fL_base iL_params fL_paramOver dL_paramOver nL_params fL_paramUnder dL_paramUnder nL_pu gL_over gL_under fL_bound iL_nameAt iL_startAt iL_steps jL_scaleOver jL_scaleUnder) (WF hF aF kF dF_tree nF_tree fF_tree) (WT hT aT kT fT_tape dT_tape nT_tape iT_length iT_fault_37 iT_place_37 iT_kind iT_at iT_number jT_name iT_next)
        obtain ⟨hP, hD⟩ := frameG p9 p8 hP hD hk1 hFc (fz_P ht hB9.1) hB9.2
        exact vx_out (fun x hx9 => (htab x hx9).elim) hlocks hc1 hc2 hc3 (fun t9_ ht hvm => ⟨(iJ_used, iJ_depth, gJ_binder, iJ_binders, fF_tree, iT_fault_37, iT_place_37, iT_kind, iT_at, iT_number, jT_name, iT_next), ⟨(b_iJ_used), (b_iJ_depth), (b_iJ_binders), (b_iT_at), (b_iT_number), (b_iT_next)⟩, ⟨(by have h9 := hEx; exact h9), by rw [ht]; exact hP, hD⟩, hS.F ht⟩) hS.2.2 (by decide +kernel) (by decide +kernel)
      exact False.elim hw9
  · have t_14 : ¬ r1.toInt = (-1) := toI_neq c_14 rfl (by decide : ((-1) : Int32).toInt = (-1))
    refine lv_aload_n hx hb dX4_named_17 rfl (lv_at hl 1 rfl) ?_
    refine lv_iconst (v := 4) hx hb dX4_named_18 (by decide) ?_
    refine W.known (fun hz0 _ => ?_)
    have p9 := cj_4_0_2_3 (WJ hJ aJ kJ hT hM hL (.ref dF_tree) iJ_used iJ_depth jJ_ownName gJ_binder iJ_binders iJ_firstSet iJ_secondSet) (WL hL aL kL hT hM (.ref dF_tree) iL_names gL_key fL_kind fL_one fL_two fL_base iL_params fL_paramOver dL_paramOver nL_params fL_paramUnder dL_paramUnder nL_pu gL_over gL_under fL_bound iL_nameAt iL_startAt iL_steps jL_scaleOver jL_scaleUnder) (WF hF aF kF dF_tree nF_tree fF_tree) (WT hT aT kT fT_tape dT_tape nT_tape iT_length iT_fault iT_place iT_kind iT_at iT_number jT_name iT_next)
    have hPc := hP.mem (fun q h => p9.mem_iff.mpr (List.mem_append_left _ h))
    have hDc := (hD.perm p9).left
    have hKc : va_K (dC, dI) vwCl (tJ kJ ++ (tF kF ++ (tT kT))) _ := hK.sub [0, 11, 12] rfl
    have hFc := freeG p9 hD hS hA
    refine vx_calli (vx_runV (As := [.int 4]) (rest := []) ⟨hx, hb, hml, hown, hts⟩ (m_X4_node l hst dC dI hJ aJ kJ hT hM hL iJ_used iJ_depth jJ_ownName gJ_binder iJ_binders iJ_firstSet iJ_secondSet hF aF kF dF_tree nF_tree fF_tree aT kT fT_tape dT_tape nT_tape iT_length iT_fault iT_place iT_kind iT_at iT_number jT_name iT_next 4 (b_iJ_used) (b_iJ_depth) (b_iJ_binders) (b_iJ_firstSet) (b_iJ_secondSet) (by first | exact b_nF_tree | with_reducible assumption | exact ⟨by omega, by omega⟩ | assumption) b_fT_tape (by first | exact b_nT_tape | with_reducible assumption | exact ⟨by omega, by omega⟩ | assumption) (b_iT_length) (b_iT_at) (b_iT_number) (b_iT_next) (by first | with_reducible assumption | omega | assumption) (by first | with_reducible assumption | omega | (rw [iI_t (by omega) (by omega)]; omega) | decide | assumption) (by first | with_reducible assumption | omega | (rw [iI_t (by omega) (by omega)]; omega) | decide | assumption) (by first | with_reducible assumption | omega | (rw [iI_t (by omega) (by omega)]; omega) | decide | assumption) H.size) (cwV 1 hts gwsMX4_named_3 rfl rfl rfl (by decide +kernel) ⟨by first | decide +kernel | (dsimp only [headSpec] <;> omega), by first | decide +kernel | (dsimp only [headSpec] <;> omega)⟩) (fz_preE (va_recv hK hP (ci := 4) (q0 := 0) rfl rfl) hPc hKc hDc (fun a U g mk qE => qE.call) (fun U hU9 hW => by rw [hU9]; exact (((hE : CE A s s.heap).kept hS.2.1).narrow (fun q h => hFc q h)).warm hW)) rfl rfl hl.1 rfl (lv_room (Nat.le_of_ble_eq_true rfl)) dX4_named_19 ⟨by first | decide +kernel | (dsimp only [headSpec] <;> omega), by first | decide +kernel | (dsimp only [headSpec] <;> omega)⟩) hS (fun q _ h => hFc q h) hFc (fun q _ h => hFc q h) (fun E ce q9 u t9_ H locs ht hvm hw9 hB9 hz1 hk1 hS hc1 hc2 hc3 => ?_) (fun r38 u t9_ H locs ht hvm hw9 hB9 hz1 hk1 hS => ?_)
    · revert u hw9 hB9
      refine fz_p4 ?_
      intro iJ_used_38 fF_tree_38 iT_fault_38 iT_place_38 hw9 hB9
      try dsimp only at hw9 hB9
      revert hB9
      refine fz_a2 ?_
      intro hEx hB9
      have b_iJ_used_38 := hw9
      try dsimp only at b_iJ_used_38
      have p8 := cj_4_0_2_3 (WJ hJ aJ kJ hT hM hL (.ref dF_tree) iJ_used_38 iJ_depth jJ_ownName gJ_binder iJ_binders iJ_firstSet iJ_secondSet) (WL hL aL kL hT hM (.ref dF_tree) iL_names gL_key fL_kind fL_one fL_two fL_base iL_params fL_paramOver dL_paramOver nL_params fL_paramUnder dL_paramUnder nL_pu gL_over gL_under fL_bound iL_nameAt iL_startAt iL_steps jL_scaleOver jL_scaleUnder) (WF hF aF kF dF_tree nF_tree fF_tree_38) (WT hT aT kT fT_tape dT_tape nT_tape iT_length iT_fault_38 iT_place_38 iT_kind iT_at iT_number jT_name iT_next)
      obtain ⟨hP, hD⟩ := frameG p9 p8 hP hD hk1 hFc (fz_P ht hB9.1) hB9.2
      exact vx_out (fun x hx9 => (htab x hx9).elim) hlocks hc1 hc2 hc3 (fun t9_ ht hvm => ⟨(iJ_used_38, iJ_depth, gJ_binder, iJ_binders, fF_tree_38, iT_fault_38, iT_place_38, iT_kind, iT_at, iT_number, jT_name, iT_next), ⟨(by (try dsimp only); exact (by first | exact b_iJ_used_38 | with_reducible assumption | exact ⟨by omega, by omega⟩ | assumption)), (b_iJ_depth), (b_iJ_binders), (b_iT_at), (b_iT_number), (b_iT_next)⟩, ⟨(by have h9 := hEx; exact h9), by rw [ht]; exact hP, hD⟩, hS.F ht⟩) hS.2.2 (by decide +kernel) (by decide +kernel)
    revert u hw9 hB9
    refine fz_p4 ?_
    intro iJ_used_38 fF_tree_38 iT_fault_38 iT_place_38 hw9 hB9
    try dsimp only at hw9 hB9
    revert hw9
    refine fz_a5 ?_
    intro b_iJ_used_38 f38_0 f38_1 f38_2 f38_3
    have hz8 := hB9.2.2
    rw [ht] at hz8
    have hz9 : H.size ≤ s.heap.size + 0 := by rw [hz8]; exact hz0
    refine W.tight (cells2 := 0) (slots2 := 0) hz9 (nS_0 hz9) ?_
    clear hz8 hz9
    have p8 := cj_4_0_2_3 (WJ hJ aJ kJ hT hM hL (.ref dF_tree) iJ_used_38 iJ_depth jJ_ownName gJ_binder iJ_binders iJ_firstSet iJ_secondSet) (WL hL aL kL hT hM (.ref dF_tree) iL_names gL_key fL_kind fL_one fL_two fL_base iL_params fL_paramOver dL_paramOver nL_params fL_paramUnder dL_paramUnder nL_pu gL_over gL_under fL_bound iL_nameAt iL_startAt iL_steps jL_scaleOver jL_scaleUnder) (WF hF aF kF dF_tree nF_tree fF_tree_38) (WT hT aT kT fT_tape dT_tape nT_tape iT_length iT_fault_38 iT_place_38 iT_kind iT_at iT_number jT_name iT_next)
    obtain ⟨hP, hD⟩ := frameG p9 p8 hP hD hk1 hFc (fz_P ht hB9.1) hB9.2.1
    have hNw := f38_3
    refine lv_istore_n hx hb dX4_named_22 rfl hl (by decide) rfl (fun ls (hl : lv_has ls _ ([(2, .int r38), (1, .int r1), (0, .ref (hJ 0))])) => ?_)
    refine lv_aload_n hx hb dX4_named_23 rfl (lv_at hl 2 rfl) ?_
    refine va_get (D := (dC, dI)) (ci := 4) (v := .ref dF_tree) (C := RX4) (T := TX4) (N := 11) hx hb hts iwsMX4_named_in4 hown hK hP 0 rfl rfl 3 (by decide) (hts _ hm_m_X4_named_3) (fun _ h9 => h9) rfl dX4_named_24 ?_
    refine lv_iload_n hx hb dX4_named_27 rfl (lv_at hl 0 rfl) ?_
    refine lv_iconst (v := 3) hx hb dX4_named_28 (by decide) ?_
    refine lv_iadd hx hb dX4_named_29 ?_
    refine lv_topi (fun y39 hy39 => ?_)
    obtain rfl : (iI (r38.toInt + 3)) = y39 := (hy39.trans (iI_add2 (iI_of _) (by decide : (3 : Int32) = iI 3))).symm
    refine lv_iload_n hx hb dX4_named_30 rfl (lv_at hl 1 rfl) ?_
    refine va_iast (cA := kF 0) (n := nF_tree) (f := fF_tree_38) hx hb hK hP hD hS 13 11 rfl rfl (vp_iI (by omega) (by omega) (by omega)) dX4_named_31 (fun H locs hP hD hS => ?_)
    obtain ⟨u40, hu40⟩ : ∃ f9, f9 = upd fF_tree_38 ((iI (r38.toInt + 3))).toNatClampNeg r1 := ⟨_, rfl⟩
    have hP : va_P (dC, dI) vwCl (WJ hJ aJ kJ hT hM hL (.ref dF_tree) iJ_used_38 iJ_depth jJ_ownName gJ_binder iJ_binders iJ_firstSet iJ_secondSet ++ (WL hL aL kL hT hM (.ref dF_tree) iL_names gL_key fL_kind fL_one fL_two fL_base iL_params fL_paramOver dL_paramOver nL_params fL_paramUnder dL_paramUnder nL_pu gL_over gL_under fL_bound iL_nameAt iL_startAt iL_steps jL_scaleOver jL_scaleUnder ++ (WF hF aF kF dF_tree nF_tree u40 ++ (WT hT aT kT fT_tape dT_tape nT_tape iT_length iT_fault_38 iT_place_38 iT_kind iT_at iT_number jT_name iT_next)))) H := by rw [hu40]; exact hP
    have hD : va_D A (WJ hJ aJ kJ hT hM hL (.ref dF_tree) iJ_used_38 iJ_depth jJ_ownName gJ_binder iJ_binders iJ_firstSet iJ_secondSet ++ (WL hL aL kL hT hM (.ref dF_tree) iL_names gL_key fL_kind fL_one fL_two fL_base iL_params fL_paramOver dL_paramOver nL_params fL_paramUnder dL_paramUnder nL_pu gL_over gL_under fL_bound iL_nameAt iL_startAt iL_steps jL_scaleOver jL_scaleUnder ++ (WF hF aF kF dF_tree nF_tree u40 ++ (WT hT aT kT fT_tape dT_tape nT_tape iT_length iT_fault_38 iT_place_38 iT_kind iT_at iT_number jT_name iT_next)))) := by rw [hu40]; exact hD
    have b_u40 : WrL fF_tree_38 u40 (r38.toInt + 3) r1.toInt := by rw [hu40]; exact WrL.ofx rfl (by omega) (by omega)
    clear hu40
    refine lv_aload_n hx hb dX4_named_32 rfl (lv_at hl 2 rfl) ?_
    refine va_get (D := (dC, dI)) (ci := 4) (v := .ref (hT 0)) (C := RX4) (T := TX4) (N := 11) hx hb hts iwsMX4_named_in4 hown hK hP 0 rfl rfl 0 (by decide) (hts _ hm_m_X4_named_0) (fun _ h9 => h9) rfl dX4_named_33 ?_
    have p9 := cj_4_3 (WJ hJ aJ kJ hT hM hL (.ref dF_tree) iJ_used_38 iJ_depth jJ_ownName gJ_binder iJ_binders iJ_firstSet iJ_secondSet) (WL hL aL kL hT hM (.ref dF_tree) iL_names gL_key fL_kind fL_one fL_two fL_base iL_params fL_paramOver dL_paramOver nL_params fL_paramUnder dL_paramUnder nL_pu gL_over gL_under fL_bound iL_nameAt iL_startAt iL_steps jL_scaleOver jL_scaleUnder) (WF hF aF kF dF_tree nF_tree u40) (WT hT aT kT fT_tape dT_tape nT_tape iT_length iT_fault_38 iT_place_38 iT_kind iT_at iT_number jT_name iT_next)
    have hPc := hP.mem (fun q h => p9.mem_iff.mpr (List.mem_append_left _ h))
    have hDc := (hD.perm p9).left
    have hKc : va_K (dC, dI) vwCl (tT kT) _ := hK.sub [12] rfl
    have hFc := freeG p9 hD hS hA
    refine va_callv (va_runV (As := []) (rest := []) ⟨hx, hb, hml, hown, hts⟩ (m_X9_advance l hst dC dI hT aT kT fT_tape dT_tape nT_tape iT_length iT_fault_38 iT_place_38 iT_kind iT_at iT_number jT_name iT_next b_fT_tape (by first | exact b_nT_tape | with_reducible assumption | exact ⟨by omega, by omega⟩ | assumption) (b_iT_length) (b_iT_at) (b_iT_number) (b_iT_next) (by first | with_reducible assumption | omega | assumption) (by first | with_reducible assumption | omega | (rw [iI_t (by omega) (by omega)]; omega) | decide | assumption) H.size) (cwV 0 hts gwsMX4_named_4 rfl rfl rfl (by decide +kernel) ⟨by first | decide +kernel | (dsimp only [headSpec] <;> omega), by first | decide +kernel | (dsimp only [headSpec] <;> omega)⟩) (fz_preE (va_recv hK hP (ci := 9) (q0 := 14) rfl rfl) hPc hKc hDc (fun a U g mk qE => qE.call) (fun U hU9 hW => by rw [hU9]; exact (((hE : CE A s s.heap).kept hS.2.1).narrow (fun q h => hFc q h)).warm hW)) rfl rfl hl.1 rfl (lv_room (Nat.le_of_ble_eq_true rfl)) dX4_named_36 ⟨by first | decide +kernel | (dsimp only [headSpec] <;> omega), by first | decide +kernel | (dsimp only [headSpec] <;> omega)⟩) hS (fun q _ h => hFc q h) hFc (fun u t9_ H locs ht hvm hw9 hB9 hz1 hk1 hS => ?_)
    revert u hw9 hB9
    refine fz_p5 ?_
    intro iT_kind_41 iT_at_41 iT_number_41 jT_name_41 iT_next_41 hw9 hB9
    try dsimp only at hw9 hB9
    revert hw9
    refine fz_a7 ?_
    intro b_iT_at_41 b_iT_number_41 b_iT_next_41 f41_0 f41_1 f41_2 f41_3
    have p8 := cj_4_3 (WJ hJ aJ kJ hT hM hL (.ref dF_tree) iJ_used_38 iJ_depth jJ_ownName gJ_binder iJ_binders iJ_firstSet iJ_secondSet) (WL hL aL kL hT hM (.ref dF_tree) iL_names gL_key fL_kind fL_one fL_two fL_base iL_params fL_paramOver dL_paramOver nL_params fL_paramUnder dL_paramUnder nL_pu gL_over gL_under fL_bound iL_nameAt iL_startAt iL_steps jL_scaleOver jL_scaleUnder) (WF hF aF kF dF_tree nF_tree u40) (WT hT aT kT fT_tape dT_tape nT_tape iT_length iT_fault_38 iT_place_38 iT_kind_41 iT_at_41 iT_number_41 jT_name_41 iT_next_41)
    obtain ⟨hP, hD⟩ := frameG p9 p8 hP hD hk1 hFc (fz_P ht hB9.1) hB9.2
    refine lv_iload_n hx hb dX4_named_39 rfl (lv_at hl 0 rfl) ?_
    refine vx_ret ?_
    refine W.known (fun hz9 _ => ?_)
    refine W.widen (k := 1) (n := 6) (by decide +kernel) (by decide +kernel) ?_
    exact W.iret (v := r38) hx hb hr (fun t9_ ht hW => ⟨⟨r38, (iJ_used_38, iJ_depth, gJ_binder, iJ_binders, u40, iT_fault_38, iT_place_38, iT_kind_41, iT_at_41, iT_number_41, jT_name_41, iT_next_41), rfl, ⟨b_iJ_used_38, b_iJ_depth, b_iJ_binders, b_iT_at_41, b_iT_number_41, b_iT_next_41, (by (try dsimp only); first | done | assumption | omega | (rw [iI_t (by omega) (by omega)]; omega)), (by (try dsimp only); first | exact hFi | exact FiL.leaf hNw hu1 hu7 (by omega) b_u40 (by omega) (by omega) (fun V h8 h9 => nd4 h9 (by rw [h8]; omega) (by rw [h8]; omega))), (by (try dsimp only); first | done | assumption | omega | (rw [iI_t (by omega) (by omega)]; omega)), (by (try dsimp only); first | done | assumption | omega | (rw [iI_t (by omega) (by omega)]; omega)), (by (try dsimp only); first | done | assumption | omega | (rw [iI_t (by omega) (by omega)]; omega)), (by (try dsimp only); first | done | assumption | omega | (rw [iI_t (by omega) (by omega)]; omega)), (by (try dsimp only); omega), (by (try dsimp only); first | done | assumption | omega | (rw [iI_t (by omega) (by omega)]; omega)), (by (try dsimp only); first | done | assumption | omega | (rw [iI_t (by omega) (by omega)]; omega)), (by (try dsimp only); first | done | assumption | omega | (rw [iI_t (by omega) (by omega)]; omega))⟩, by rw [ht]; exact hP, hD, by rw [ht]; first | done | exact Nat.le_antisymm hz9 hS.1⟩, hS.F ht⟩) hS.2.2 dX4_named_40
end
section
theorem dX4_summed_0 : decode cX4_summed 0 = .ok (.aload_n 0, 1) := dk_42 (by decide +kernel)
theorem dX4_summed_1 : decode cX4_summed 1 = .ok (.bipush 8, 2) := dk_16 (by decide +kernel)
theorem dX4_summed_3 : decode cX4_summed 3 = .ok (.invokevirtual 217, 3) := dk_182 (by decide +kernel)
theorem dX4_summed_6 : decode cX4_summed 6 = .ok (.istore_n 1, 1) := dk_60 (by decide +kernel)
theorem dX4_summed_7 : decode cX4_summed 7 = .ok (.aload_n 0, 1) := dk_42 (by decide +kernel)
theorem dX4_summed_8 : decode cX4_summed 8 = .ok (.getfield 19, 3) := dk_180 (by decide +kernel)
theorem dX4_summed_11 : decode cX4_summed 11 = .ok (.getfield 67, 3) := dk_180 (by decide +kernel)
theorem dX4_summed_14 : decode cX4_summed 14 = .ok (.istore_n 2, 1) := dk_61 (by decide +kernel)
theorem dX4_summed_15 : decode cX4_summed 15 = .ok (.aload_n 0, 1) := dk_42 (by decide +kernel)
theorem dX4_summed_16 : decode cX4_summed 16 = .ok (.getfield 60, 3) := dk_180 (by decide +kernel)
theorem dX4_summed_19 : decode cX4_summed 19 = .ok (.istore_n 3, 1) := dk_62 (by decide +kernel)
theorem dX4_summed_20 : decode cX4_summed 20 = .ok (.aload_n 0, 1) := dk_42 (by decide +kernel)
theorem dX4_summed_21 : decode cX4_summed 21 = .ok (.getfield 19, 3) := dk_180 (by decide +kernel)
theorem dX4_summed_24 : decode cX4_summed 24 = .ok (.invokevirtual 119, 3) := dk_182 (by decide +kernel)
theorem dX4_summed_27 : decode cX4_summed 27 = .ok (.aload_n 0, 1) := dk_42 (by decide +kernel)
theorem dX4_summed_28 : decode cX4_summed 28 = .ok (.getfield 19, 3) := dk_180 (by decide +kernel)
theorem dX4_summed_31 : decode cX4_summed 31 = .ok (.bipush 123, 2) := dk_16 (by decide +kernel)
theorem dX4_summed_33 : decode cX4_summed 33 = .ok (.invokevirtual 134, 3) := dk_182 (by decide +kernel)
theorem dX4_summed_36 : decode cX4_summed 36 = .ok (.aload_n 0, 1) := dk_42 (by decide +kernel)
theorem dX4_summed_37 : decode cX4_summed 37 = .ok (.invokevirtual 178, 3) := dk_182 (by decide +kernel)
theorem dX4_summed_40 : decode cX4_summed 40 = .ok (.istore 4, 2) := dk_54 (by decide +kernel)
theorem dX4_summed_42 : decode cX4_summed 42 = .ok (.aload_n 0, 1) := dk_42 (by decide +kernel)
theorem dX4_summed_43 : decode cX4_summed 43 = .ok (.getfield 11, 3) := dk_180 (by decide +kernel)
theorem dX4_summed_46 : decode cX4_summed 46 = .ok (.iload 4, 2) := dk_21 (by decide +kernel)
theorem dX4_summed_48 : decode cX4_summed 48 = .ok (.iconst 1, 1) := dk_4 (by decide +kernel)
theorem dX4_summed_49 : decode cX4_summed 49 = .ok (.iadd, 1) := dk_96 (by decide +kernel)
theorem dX4_summed_50 : decode cX4_summed 50 = .ok (.iload_n 2, 1) := dk_28 (by decide +kernel)
theorem dX4_summed_51 : decode cX4_summed 51 = .ok (.iastore, 1) := dk_79 (by decide +kernel)
theorem dX4_summed_52 : decode cX4_summed 52 = .ok (.aload_n 0, 1) := dk_42 (by decide +kernel)
theorem dX4_summed_53 : decode cX4_summed 53 = .ok (.getfield 11, 3) := dk_180 (by decide +kernel)
theorem dX4_summed_56 : decode cX4_summed 56 = .ok (.iload_n 1, 1) := dk_27 (by decide +kernel)
theorem dX4_summed_57 : decode cX4_summed 57 = .ok (.iconst 3, 1) := dk_6 (by decide +kernel)
theorem dX4_summed_58 : decode cX4_summed 58 = .ok (.iadd, 1) := dk_96 (by decide +kernel)
theorem dX4_summed_59 : decode cX4_summed 59 = .ok (.iload 4, 2) := dk_21 (by decide +kernel)
theorem dX4_summed_61 : decode cX4_summed 61 = .ok (.iastore, 1) := dk_79 (by decide +kernel)
theorem dX4_summed_62 : decode cX4_summed 62 = .ok (.aload_n 0, 1) := dk_42 (by decide +kernel)
theorem dX4_summed_63 : decode cX4_summed 63 = .ok (.getfield 19, 3) := dk_180 (by decide +kernel)
theorem dX4_summed_66 : decode cX4_summed 66 = .ok (.getfield 51, 3) := dk_180 (by decide +kernel)
theorem dX4_summed_69 : decode cX4_summed 69 = .ok (.sipush 264, 3) := dk_17 (by decide +kernel)
theorem dX4_summed_72 : decode cX4_summed 72 = .ok (.if_icmp .ne 26, 3) := dk_160 (by decide +kernel)
theorem dX4_summed_75 : decode cX4_summed 75 = .ok (.aload_n 0, 1) := dk_42 (by decide +kernel)
theorem dX4_summed_76 : decode cX4_summed 76 = .ok (.getfield 19, 3) := dk_180 (by decide +kernel)
theorem dX4_summed_79 : decode cX4_summed 79 = .ok (.invokevirtual 119, 3) := dk_182 (by decide +kernel)
theorem dX4_summed_82 : decode cX4_summed 82 = .ok (.aload_n 0, 1) := dk_42 (by decide +kernel)
theorem dX4_summed_83 : decode cX4_summed 83 = .ok (.invokevirtual 181, 3) := dk_182 (by decide +kernel)
theorem dX4_summed_86 : decode cX4_summed 86 = .ok (.istore 5, 2) := dk_54 (by decide +kernel)
theorem dX4_summed_88 : decode cX4_summed 88 = .ok (.aload_n 0, 1) := dk_42 (by decide +kernel)
theorem dX4_summed_89 : decode cX4_summed 89 = .ok (.getfield 11, 3) := dk_180 (by decide +kernel)
theorem dX4_summed_92 : decode cX4_summed 92 = .ok (.iload_n 1, 1) := dk_27 (by decide +kernel)
theorem dX4_summed_93 : decode cX4_summed 93 = .ok (.iconst 4, 1) := dk_7 (by decide +kernel)
theorem dX4_summed_94 : decode cX4_summed 94 = .ok (.iadd, 1) := dk_96 (by decide +kernel)
theorem dX4_summed_95 : decode cX4_summed 95 = .ok (.iload 5, 2) := dk_21 (by decide +kernel)
theorem dX4_summed_97 : decode cX4_summed 97 = .ok (.iastore, 1) := dk_79 (by decide +kernel)
theorem dX4_summed_98 : decode cX4_summed 98 = .ok (.aload_n 0, 1) := dk_42 (by decide +kernel)
theorem dX4_summed_99 : decode cX4_summed 99 = .ok (.getfield 19, 3) := dk_180 (by decide +kernel)
theorem dX4_summed_102 : decode cX4_summed 102 = .ok (.bipush 125, 2) := dk_16 (by decide +kernel)
theorem dX4_summed_104 : decode cX4_summed 104 = .ok (.invokevirtual 134, 3) := dk_182 (by decide +kernel)
theorem dX4_summed_107 : decode cX4_summed 107 = .ok (.aload_n 0, 1) := dk_42 (by decide +kernel)
theorem dX4_summed_108 : decode cX4_summed 108 = .ok (.invokevirtual 243, 3) := dk_182 (by decide +kernel)
theorem dX4_summed_111 : decode cX4_summed 111 = .ok (.istore 5, 2) := dk_54 (by decide +kernel)
theorem dX4_summed_113 : decode cX4_summed 113 = .ok (.aload_n 0, 1) := dk_42 (by decide +kernel)
theorem dX4_summed_114 : decode cX4_summed 114 = .ok (.getfield 11, 3) := dk_180 (by decide +kernel)
theorem dX4_summed_117 : decode cX4_summed 117 = .ok (.iload_n 1, 1) := dk_27 (by decide +kernel)
theorem dX4_summed_118 : decode cX4_summed 118 = .ok (.iconst 5, 1) := dk_8 (by decide +kernel)
theorem dX4_summed_119 : decode cX4_summed 119 = .ok (.iadd, 1) := dk_96 (by decide +kernel)
theorem dX4_summed_120 : decode cX4_summed 120 = .ok (.iload 5, 2) := dk_21 (by decide +kernel)
theorem dX4_summed_122 : decode cX4_summed 122 = .ok (.iastore, 1) := dk_79 (by decide +kernel)
theorem dX4_summed_123 : decode cX4_summed 123 = .ok (.aload_n 0, 1) := dk_42 (by decide +kernel)
theorem dX4_summed_124 : decode cX4_summed 124 = .ok (.iload_n 3, 1) := dk_29 (by decide +kernel)
theorem dX4_summed_125 : decode cX4_summed 125 = .ok (.putfield 60, 3) := dk_181 (by decide +kernel)
theorem dX4_summed_128 : decode cX4_summed 128 = .ok (.iload_n 1, 1) := dk_27 (by decide +kernel)
theorem dX4_summed_129 : decode cX4_summed 129 = .ok (.ireturn, 1) := dk_172 (by decide +kernel)
theorem iwsMX4_summed_in4 : ∀ w ∈ wsX40, w ∈ wsMX4_summed := fun w h => List.mem_cons_of_mem _ (iwsGR_in4 w h)
theorem iwsMX4_summed_in9 : ∀ w ∈ wsX90, w ∈ wsMX4_summed := fun w h => List.mem_cons_of_mem _ (iwsGR_in9 w h)
theorem gwsMX4_summed_0 : GoodIn wsMX4_summed (wsV RX4 217 RX4 yX4_node wsMX4_node) := goodIn_sub (fun w h => List.mem_cons_of_mem _ (gwsGR_1 w h)) (gdV (by decide +kernel) gdwsMX4_node)
theorem gwsMX4_summed_1 : GoodIn wsMX4_summed (wsV RX4 119 RX9 yX9_advance wsMX9_advance) := goodIn_sub (fun w h => List.mem_cons_of_mem _ (gwsGR_2 w h)) (gdV (by decide +kernel) gdwsMX9_advance)
theorem gwsMX4_summed_2 : GoodIn wsMX4_summed (wsV RX4 134 RX9 yX9_take wsMX9_take) := goodIn_sub (fun w h => List.mem_cons_of_mem _ (gwsGR_4 w h)) (gdV (by decide +kernel) gdwsMX9_take)
theorem gwsMX4_summed_3 : GoodIn wsMX4_summed (wsV RX4 178 RX4 yX4_binding wsMX4_binding) := goodIn_sub (fun w h => List.mem_cons_of_mem _ (gwsGR_9 w h)) (gdV (by decide +kernel) gdwsMX4_binding)
theorem gwsMX4_summed_4 : GoodIn wsMX4_summed (wsV RX4 181 RX4 yX4_anyOf wsMX4_anyOf) := goodIn_rec (hd := [.methodLink RX4 181 yX4_anyOf, .instanceMethod yX4_anyOf, .selects RX4 yX4_anyOf yX4_anyOf, .initialized RX4]) (by decide +kernel) (by decide +kernel) gdwsGR
theorem gwsMX4_summed_5 : GoodIn wsMX4_summed (wsV RX4 243 RX4 yX4_factor wsMX4_factor) := goodIn_rec (hd := [.methodLink RX4 243 yX4_factor, .instanceMethod yX4_factor, .selects RX4 yX4_factor yX4_factor, .initialized RX4]) (by decide +kernel) (by decide +kernel) gdwsGR
theorem hm_m_X4_summed_0 : (.fieldLink RX4 19 "OptimaWorks$Reader" "words" "LOptimaWorks$Words;" : Cond) ∈ wsMX4_summed := by decide +kernel
theorem hm_m_X4_summed_1 : (.fieldLink RX4 60 "OptimaWorks$Reader" "binders" "I" : Cond) ∈ wsMX4_summed := by decide +kernel
theorem hm_m_X4_summed_2 : (.fieldLink RX4 11 "OptimaWorks$Reader" "tree" "[I" : Cond) ∈ wsMX4_summed := by decide +kernel
set_option maxHeartbeats 4000000 in
set_option maxRecDepth 100000 in
/-- a sum read -/
theorem m_X4_summed (l : Launch) (hst : l.stackTraces = false) (ev : Nat) (ih_X4_anyOf : Cm_X4_anyOf l (ev)) (ih_X4_factor : Cm_X4_factor l (ev)) : Cm_X4_summed l (ev + 1) := by
  intro dC dI hJ aJ kJ hT hM hL iJ_used iJ_depth jJ_ownName gJ_binder iJ_binders iJ_firstSet iJ_secondSet aL kL iL_names gL_key fL_kind fL_one fL_two fL_base iL_params fL_paramOver dL_paramOver nL_params fL_paramUnder dL_paramUnder nL_pu gL_over gL_under fL_bound iL_nameAt iL_startAt iL_steps jL_scaleOver jL_scaleUnder hF aF kF dF_tree nF_tree fF_tree aT kT fT_tape dT_tape nT_tape iT_length iT_fault iT_place iT_kind iT_at iT_number jT_name iT_next lv b_iJ_used b_iJ_depth b_iJ_binders b_iJ_firstSet b_iJ_secondSet b_iL_names b_fL_kind b_fL_two b_fL_base b_iL_params b_nL_params b_nm b_pm b_pu b_nF_tree b_fT_tape b_nT_tape b_iT_length b_iT_at b_iT_number b_iT_next b_len hu1 hu2 hu7 hp1 hp2 hp3 hlv hdp sz
  refine vx_ofW (cc := cX4_summed) (maxL := 6) (ret := (some .int)) (by decide) rfl ?_
  intro p e s m args below meth c s₁ B hml htab hv
  obtain ⟨rfl, hsz, hP, hK, hD0, hE⟩ := hv
  have hx := B.exec
  have hb := B.bytes
  have hr := B.returns
  have hts := atoms_spec (ws := wsMX4_summed) B.pre
  have hown : s.vm.findClass RX4 = some m.cls := findClass_of_methodNamed B.named
  have hlocks := B.notSynchronized
  subst hsz
  have hD := hD0.self (sz := s.heap.size)
  generalize hAe : va_A (WJ hJ aJ kJ hT hM hL (.ref dF_tree) iJ_used iJ_depth jJ_ownName gJ_binder iJ_binders iJ_firstSet iJ_secondSet ++ (WL hL aL kL hT hM (.ref dF_tree) iL_names gL_key fL_kind fL_one fL_two fL_base iL_params fL_paramOver dL_paramOver nL_params fL_paramUnder dL_paramUnder nL_pu gL_over gL_under fL_bound iL_nameAt iL_startAt iL_steps jL_scaleOver jL_scaleUnder ++ (WF hF aF kF dF_tree nF_tree fF_tree ++ (WT hT aT kT fT_tape dT_tape nT_tape iT_length iT_fault iT_place iT_kind iT_at iT_number jT_name iT_next)))) s.heap.size = A at hD hE ⊢
  have hA : ∀ q : Nat, s.heap.size ≤ q → A q := fun q h => by rw [← hAe]; exact Or.inr h
  have hS : va_S A s.heap s.heap [] := va_S.rf
  have hl := lv_entry ([.ref (hJ 0)]) (n := 6) (Nat.le_of_ble_eq_true rfl)
  rw [lg_entry_eq]
  generalize (lg_sl ([.ref (hJ 0)]) ++ List.replicate (6 - (lg_sl ([.ref (hJ 0)])).length) Slot.unset).toArray = ls at hl ⊢
  have hl : lv_has ls 6 [(0, .ref (hJ 0))] := hl
  refine lv_aload_n hx hb dX4_summed_0 rfl (lv_at hl 0 rfl) ?_
  refine lv_bipush (v := 8) hx hb dX4_summed_1 (by decide) ?_
  refine W.known (fun hz0 _ => ?_)
  have p9 := cj_4_0_2_3 (WJ hJ aJ kJ hT hM hL (.ref dF_tree) iJ_used iJ_depth jJ_ownName gJ_binder iJ_binders iJ_firstSet iJ_secondSet) (WL hL aL kL hT hM (.ref dF_tree) iL_names gL_key fL_kind fL_one fL_two fL_base iL_params fL_paramOver dL_paramOver nL_params fL_paramUnder dL_paramUnder nL_pu gL_over gL_under fL_bound iL_nameAt iL_startAt iL_steps jL_scaleOver jL_scaleUnder) (WF hF aF kF dF_tree nF_tree fF_tree) (WT hT aT kT fT_tape dT_tape nT_tape iT_length iT_fault iT_place iT_kind iT_at iT_number jT_name iT_next)
  have hPc := hP.mem (fun q h => p9.mem_iff.mpr (List.mem_append_left _ h))
  have hDc := (hD.perm p9).left
  have hKc : va_K (dC, dI) vwCl (tJ kJ ++ (tF kF ++ (tT kT))) _ := hK.sub [0, 11, 12] rfl
  have hFc := freeG p9 hD hS hA
  refine vx_calli (vx_runV (As := [.int 8]) (rest := []) ⟨hx, hb, hml, hown, hts⟩ (m_X4_node l hst dC dI hJ aJ kJ hT hM hL iJ_used iJ_depth jJ_ownName gJ_binder iJ_binders iJ_firstSet iJ_secondSet hF aF kF dF_tree nF_tree fF_tree aT kT fT_tape dT_tape nT_tape iT_length iT_fault iT_place iT_kind iT_at iT_number jT_name iT_next 8 (b_iJ_used) (b_iJ_depth) (b_iJ_binders) (b_iJ_firstSet) (b_iJ_secondSet) (by first | exact b_nF_tree | with_reducible assumption | exact ⟨by omega, by omega⟩ | assumption) b_fT_tape (by first | exact b_nT_tape | with_reducible assumption | exact ⟨by omega, by omega⟩ | assumption) (b_iT_length) (b_iT_at) (b_iT_number) (b_iT_next) (by first | with_reducible assumption | omega | assumption) (by first | with_reducible assumption | omega | (rw [iI_t (by omega) (by omega)]; omega) | decide | assumption) (by first | with_reducible assumption | omega | (rw [iI_t (by omega) (by omega)]; omega) | decide | assumption) (by first | with_reducible assumption | omega | (rw [iI_t (by omega) (by omega)]; omega) | decide | assumption) s.heap.size) (cwV 1 hts gwsMX4_summed_0 rfl rfl rfl (by decide +kernel) ⟨by first | decide +kernel | (dsimp only [headSpec] <;> omega), by first | decide +kernel | (dsimp only [headSpec] <;> omega)⟩) (fz_preE (va_recv hK hP (ci := 4) (q0 := 0) rfl rfl) hPc hKc hDc (fun a U g mk qE => qE.call) (fun U hU9 hW => by rw [hU9]; exact (((hE : CE A s s.heap).kept hS.2.1).narrow (fun q h => hFc q h)).warm hW)) rfl rfl hl.1 rfl (lv_room (Nat.le_of_ble_eq_true rfl)) dX4_summed_3 ⟨by first | decide +kernel | (dsimp only [headSpec] <;> omega), by first | decide +kernel | (dsimp only [headSpec] <;> omega)⟩) hS (fun q _ h => hFc q h) hFc (fun q _ h => hFc q h) (fun E ce q9 u t9_ H locs ht hvm hw9 hB9 hz1 hk1 hS hc1 hc2 hc3 => ?_) (fun r1 u t9_ H locs ht hvm hw9 hB9 hz1 hk1 hS => ?_)
  · revert u hw9 hB9
    refine fz_p4 ?_
    intro iJ_used_1 fF_tree_1 iT_fault_1 iT_place_1 hw9 hB9
    try dsimp only at hw9 hB9
    revert hB9
    refine fz_a2 ?_
    intro hEx hB9
    have b_iJ_used_1 := hw9
    try dsimp only at b_iJ_used_1
    have p8 := cj_4_0_2_3 (WJ hJ aJ kJ hT hM hL (.ref dF_tree) iJ_used_1 iJ_depth jJ_ownName gJ_binder iJ_binders iJ_firstSet iJ_secondSet) (WL hL aL kL hT hM (.ref dF_tree) iL_names gL_key fL_kind fL_one fL_two fL_base iL_params fL_paramOver dL_paramOver nL_params fL_paramUnder dL_paramUnder nL_pu gL_over gL_under fL_bound iL_nameAt iL_startAt iL_steps jL_scaleOver jL_scaleUnder) (WF hF aF kF dF_tree nF_tree fF_tree_1) (WT hT aT kT fT_tape dT_tape nT_tape iT_length iT_fault_1 iT_place_1 iT_kind iT_at iT_number jT_name iT_next)
    obtain ⟨hP, hD⟩ := frameG p9 p8 hP hD hk1 hFc (fz_P ht hB9.1) hB9.2
    exact vx_out (fun x hx9 => (htab x hx9).elim) hlocks hc1 hc2 hc3 (fun t9_ ht hvm => ⟨(iJ_used_1, iJ_depth, gJ_binder, iJ_binders, fF_tree_1, iT_fault_1, iT_place_1, iT_kind, iT_at, iT_number, jT_name, iT_next), ⟨(by (try dsimp only); exact (by first | exact b_iJ_used_1 | with_reducible assumption | exact ⟨by omega, by omega⟩ | assumption)), (b_iJ_depth), (b_iJ_binders), (b_iT_at), (b_iT_number), (b_iT_next)⟩, ⟨(by have h9 := hEx; exact h9), by rw [ht]; exact hP, hD⟩, hS.F ht⟩) hS.2.2 (by decide +kernel) (by decide +kernel)
  revert u hw9 hB9
  refine fz_p4 ?_
  intro iJ_used_1 fF_tree_1 iT_fault_1 iT_place_1 hw9 hB9
  try dsimp only at hw9 hB9
  revert hw9
  refine fz_a5 ?_
  intro b_iJ_used_1 f1_0 f1_1 f1_2 f1_3
  have hz8 := hB9.2.2
  rw [ht] at hz8
  have hz9 : H.size ≤ s.heap.size + 0 := by rw [hz8]; exact hz0
  refine W.tight (cells2 := 0) (slots2 := 0) hz9 (nS_0 hz9) ?_
  clear hz8 hz9
  have p8 := cj_4_0_2_3 (WJ hJ aJ kJ hT hM hL (.ref dF_tree) iJ_used_1 iJ_depth jJ_ownName gJ_binder iJ_binders iJ_firstSet iJ_secondSet) (WL hL aL kL hT hM (.ref dF_tree) iL_names gL_key fL_kind fL_one fL_two fL_base iL_params fL_paramOver dL_paramOver nL_params fL_paramUnder dL_paramUnder nL_pu gL_over gL_under fL_bound iL_nameAt iL_startAt iL_steps jL_scaleOver jL_scaleUnder) (WF hF aF kF dF_tree nF_tree fF_tree_1) (WT hT aT kT fT_tape dT_tape nT_tape iT_length iT_fault_1 iT_place_1 iT_kind iT_at iT_number jT_name iT_next)
  obtain ⟨hP, hD⟩ := frameG p9 p8 hP hD hk1 hFc (fz_P ht hB9.1) hB9.2.1
  have hNw := f1_3
  refine lv_istore_n hx hb dX4_summed_6 rfl hl (by decide) rfl (fun ls (hl : lv_has ls _ ([(1, .int r1), (0, .ref (hJ 0))])) => ?_)
  refine lv_aload_n hx hb dX4_summed_7 rfl (lv_at hl 1 rfl) ?_
  refine va_get (D := (dC, dI)) (ci := 4) (v := .ref (hT 0)) (C := RX4) (T := TX4) (N := 11) hx hb hts iwsMX4_summed_in4 hown hK hP 0 rfl rfl 0 (by decide) (hts _ hm_m_X4_summed_0) (fun _ h9 => h9) rfl dX4_summed_8 ?_
  refine va_get (D := (dC, dI)) (ci := 9) (v := .int iT_at) (C := RX9) (T := TX9) (N := 9) hx hb hts iwsMX4_summed_in9 hown hK hP 14 rfl rfl 5 (by decide) (hts (.fieldLink RX4 67 "OptimaWorks$Words" "at" "I") (by decide +kernel)) (fun _ h9 => h9) rfl dX4_summed_11 ?_
  refine lv_istore_n hx hb dX4_summed_14 rfl hl (by decide) rfl (fun ls (hl : lv_has ls _ ([(2, .int iT_at), (1, .int r1), (0, .ref (hJ 0))])) => ?_)
  refine lv_aload_n hx hb dX4_summed_15 rfl (lv_at hl 2 rfl) ?_
  refine va_get (D := (dC, dI)) (ci := 4) (v := .int iJ_binders) (C := RX4) (T := TX4) (N := 11) hx hb hts iwsMX4_summed_in4 hown hK hP 0 rfl rfl 8 (by decide) (hts _ hm_m_X4_summed_1) (fun _ h9 => h9) rfl dX4_summed_16 ?_
  refine lv_istore_n hx hb dX4_summed_19 rfl hl (by decide) rfl (fun ls (hl : lv_has ls _ ([(3, .int iJ_binders), (2, .int iT_at), (1, .int r1), (0, .ref (hJ 0))])) => ?_)
  refine lv_aload_n hx hb dX4_summed_20 rfl (lv_at hl 3 rfl) ?_
  refine va_get (D := (dC, dI)) (ci := 4) (v := .ref (hT 0)) (C := RX4) (T := TX4) (N := 11) hx hb hts iwsMX4_summed_in4 hown hK hP 0 rfl rfl 0 (by decide) (hts _ hm_m_X4_summed_0) (fun _ h9 => h9) rfl dX4_summed_21 ?_
  have p9 := cj_4_3 (WJ hJ aJ kJ hT hM hL (.ref dF_tree) iJ_used_1 iJ_depth jJ_ownName gJ_binder iJ_binders iJ_firstSet iJ_secondSet) (WL hL aL kL hT hM (.ref dF_tree) iL_names gL_key fL_kind fL_one fL_two fL_base iL_params fL_paramOver dL_paramOver nL_params fL_paramUnder dL_paramUnder nL_pu gL_over gL_under fL_bound iL_nameAt iL_startAt iL_steps jL_scaleOver jL_scaleUnder) (WF hF aF kF dF_tree nF_tree fF_tree_1) (WT hT aT kT fT_tape dT_tape nT_tape iT_length iT_fault_1 iT_place_1 iT_kind iT_at iT_number jT_name iT_next)
  have hPc := hP.mem (fun q h => p9.mem_iff.mpr (List.mem_append_left _ h))
  have hDc := (hD.perm p9).left
  have hKc : va_K (dC, dI) vwCl (tT kT) _ := hK.sub [12] rfl
  have hFc := freeG p9 hD hS hA
  refine va_callv (va_runV (As := []) (rest := []) ⟨hx, hb, hml, hown, hts⟩ (m_X9_advance l hst dC dI hT aT kT fT_tape dT_tape nT_tape iT_length iT_fault_1 iT_place_1 iT_kind iT_at iT_number jT_name iT_next b_fT_tape (by first | exact b_nT_tape | with_reducible assumption | exact ⟨by omega, by omega⟩ | assumption) (b_iT_length) (b_iT_at) (b_iT_number) (b_iT_next) (by first | with_reducible assumption | omega | assumption) (by first | with_reducible assumption | omega | (rw [iI_t (by omega) (by omega)]; omega) | decide | assumption) H.size) (cwV 0 hts gwsMX4_summed_1 rfl rfl rfl (by decide +kernel) ⟨by first | decide +kernel | (dsimp only [headSpec] <;> omega), by first | decide +kernel | (dsimp only [headSpec] <;> omega)⟩) (fz_preE (va_recv hK hP (ci := 9) (q0 := 14) rfl rfl) hPc hKc hDc (fun a U g mk qE => qE.call) (fun U hU9 hW => by rw [hU9]; exact (((hE : CE A s s.heap).kept hS.2.1).narrow (fun q h => hFc q h)).warm hW)) rfl rfl hl.1 rfl (lv_room (Nat.le_of_ble_eq_true rfl)) dX4_summed_24 ⟨by first | decide +kernel | (dsimp only [headSpec] <;> omega), by first | decide +kernel | (dsimp only [headSpec] <;> omega)⟩) hS (fun q _ h => hFc q h) hFc (fun u t9_ H locs ht hvm hw9 hB9 hz1 hk1 hS => ?_)
  revert u hw9 hB9
  refine fz_p5 ?_
  intro iT_kind_2 iT_at_2 iT_number_2 jT_name_2 iT_next_2 hw9 hB9
  try dsimp only at hw9 hB9
  revert hw9
  refine fz_a7 ?_
  intro b_iT_at_2 b_iT_number_2 b_iT_next_2 f2_0 f2_1 f2_2 f2_3
  have p8 := cj_4_3 (WJ hJ aJ kJ hT hM hL (.ref dF_tree) iJ_used_1 iJ_depth jJ_ownName gJ_binder iJ_binders iJ_firstSet iJ_secondSet) (WL hL aL kL hT hM (.ref dF_tree) iL_names gL_key fL_kind fL_one fL_two fL_base iL_params fL_paramOver dL_paramOver nL_params fL_paramUnder dL_paramUnder nL_pu gL_over gL_under fL_bound iL_nameAt iL_startAt iL_steps jL_scaleOver jL_scaleUnder) (WF hF aF kF dF_tree nF_tree fF_tree_1) (WT hT aT kT fT_tape dT_tape nT_tape iT_length iT_fault_1 iT_place_1 iT_kind_2 iT_at_2 iT_number_2 jT_name_2 iT_next_2)
  obtain ⟨hP, hD⟩ := frameG p9 p8 hP hD hk1 hFc (fz_P ht hB9.1) hB9.2
  refine lv_aload_n hx hb dX4_summed_27 rfl (lv_at hl 3 rfl) ?_
  refine va_get (D := (dC, dI)) (ci := 4) (v := .ref (hT 0)) (C := RX4) (T := TX4) (N := 11) hx hb hts iwsMX4_summed_in4 hown hK hP 0 rfl rfl 0 (by decide) (hts _ hm_m_X4_summed_0) (fun _ h9 => h9) rfl dX4_summed_28 ?_
  refine lv_bipush (v := 123) hx hb dX4_summed_31 (by decide) ?_
  refine W.known (fun hz0 _ => ?_)
  have p9 := cj_4_3 (WJ hJ aJ kJ hT hM hL (.ref dF_tree) iJ_used_1 iJ_depth jJ_ownName gJ_binder iJ_binders iJ_firstSet iJ_secondSet) (WL hL aL kL hT hM (.ref dF_tree) iL_names gL_key fL_kind fL_one fL_two fL_base iL_params fL_paramOver dL_paramOver nL_params fL_paramUnder dL_paramUnder nL_pu gL_over gL_under fL_bound iL_nameAt iL_startAt iL_steps jL_scaleOver jL_scaleUnder) (WF hF aF kF dF_tree nF_tree fF_tree_1) (WT hT aT kT fT_tape dT_tape nT_tape iT_length iT_fault_1 iT_place_1 iT_kind_2 iT_at_2 iT_number_2 jT_name_2 iT_next_2)
  have hPc := hP.mem (fun q h => p9.mem_iff.mpr (List.mem_append_left _ h))
  have hDc := (hD.perm p9).left
  have hKc : va_K (dC, dI) vwCl (tT kT) _ := hK.sub [12] rfl
  have hFc := freeG p9 hD hS hA
  refine vx_callv (vx_runV (As := [.int 123]) (rest := []) ⟨hx, hb, hml, hown, hts⟩ (m_X9_take l hst dC dI hT aT kT fT_tape dT_tape nT_tape iT_length iT_fault_1 iT_place_1 iT_kind_2 iT_at_2 iT_number_2 jT_name_2 iT_next_2 123 b_fT_tape (by first | exact b_nT_tape | with_reducible assumption | exact ⟨by omega, by omega⟩ | assumption) (b_iT_length) (b_iT_at_2) (b_iT_number_2) (b_iT_next_2) (by first | with_reducible assumption | omega | assumption) (by first | with_reducible assumption | omega | (rw [iI_t (by omega) (by omega)]; omega) | decide | assumption) (by first | with_reducible assumption | omega | (rw [iI_t (by omega) (by omega)]; omega) | decide | assumption) (by first | with_reducible assumption | omega | (rw [iI_t (by omega) (by omega)]; omega) | decide | assumption) H.size) (cwV 1 hts gwsMX4_summed_2 rfl rfl rfl (by decide +kernel) ⟨by first | decide +kernel | (dsimp only [headSpec] <;> omega), by first | decide +kernel | (dsimp only [headSpec] <;> omega)⟩) (fz_preE (va_recv hK hP (ci := 9) (q0 := 14) rfl rfl) hPc hKc hDc (fun a U g mk qE => qE.call) (fun U hU9 hW => by rw [hU9]; exact (((hE : CE A s s.heap).kept hS.2.1).narrow (fun q h => hFc q h)).warm hW)) rfl rfl hl.1 rfl (lv_room (Nat.le_of_ble_eq_true rfl)) dX4_summed_33 ⟨by first | decide +kernel | (dsimp only [headSpec] <;> omega), by first | decide +kernel | (dsimp only [headSpec] <;> omega)⟩) hS (fun q _ h => hFc q h) hFc (fun q _ h => hFc q h) (fun E ce q9 u t9_ H locs ht hvm hw9 hB9 hz1 hk1 hS hc1 hc2 hc3 => ?_) (fun u t9_ H locs ht hvm hw9 hB9 hz1 hk1 hS => ?_)
  · revert u hw9 hB9
    refine fz_p7 ?_
    intro iT_fault_3 iT_place_3 iT_kind_3 iT_at_3 iT_number_3 jT_name_3 iT_next_3 hw9 hB9
    try dsimp only at hw9 hB9
    revert hB9
    refine fz_a2 ?_
    intro hEx hB9
    revert hw9
    refine fz_a3 ?_
    intro b_iT_at_3 b_iT_number_3 b_iT_next_3
    have p8 := cj_4_3 (WJ hJ aJ kJ hT hM hL (.ref dF_tree) iJ_used_1 iJ_depth jJ_ownName gJ_binder iJ_binders iJ_firstSet iJ_secondSet) (WL hL aL kL hT hM (.ref dF_tree) iL_names gL_key fL_kind fL_one fL_two fL_base iL_params fL_paramOver dL_paramOver nL_params fL_paramUnder dL_paramUnder nL_pu gL_over gL_under fL_bound iL_nameAt iL_startAt iL_steps jL_scaleOver jL_scaleUnder) (WF hF aF kF dF_tree nF_tree fF_tree_1) (WT hT aT kT fT_tape dT_tape nT_tape iT_length iT_fault_3 iT_place_3 iT_kind_3 iT_at_3 iT_number_3 jT_name_3 iT_next_3)
    obtain ⟨hP, hD⟩ := frameG p9 p8 hP hD hk1 hFc (fz_P ht hB9.1) hB9.2
    exact vx_out (fun x hx9 => (htab x hx9).elim) hlocks hc1 hc2 hc3 (fun t9_ ht hvm => ⟨(iJ_used_1, iJ_depth, gJ_binder, iJ_binders, fF_tree_1, iT_fault_3, iT_place_3, iT_kind_3, iT_at_3, iT_number_3, jT_name_3, iT_next_3), ⟨(b_iJ_used_1), (b_iJ_depth), (b_iJ_binders), (b_iT_at_3), (b_iT_number_3), (b_iT_next_3)⟩, ⟨(by have h9 := hEx; exact h9), by rw [ht]; exact hP, hD⟩, hS.F ht⟩) hS.2.2 (by decide +kernel) (by decide +kernel)
  revert u hw9 hB9
  refine fz_p7 ?_
  intro iT_fault_3 iT_place_3 iT_kind_3 iT_at_3 iT_number_3 jT_name_3 iT_next_3 hw9 hB9
  try dsimp only at hw9 hB9
  revert hw9
  refine fz_a8 ?_
  intro b_iT_at_3 b_iT_number_3 b_iT_next_3 f3_0 f3_1 f3_2 f3_3 f3_4
  have hz8 := hB9.2.2
  rw [ht] at hz8
  have hz9 : H.size ≤ s.heap.size + 0 := by rw [hz8]; exact hz0
  refine W.tight (cells2 := 0) (slots2 := 0) hz9 (nS_0 hz9) ?_
  clear hz8 hz9
  have p8 := cj_4_3 (WJ hJ aJ kJ hT hM hL (.ref dF_tree) iJ_used_1 iJ_depth jJ_ownName gJ_binder iJ_binders iJ_firstSet iJ_secondSet) (WL hL aL kL hT hM (.ref dF_tree) iL_names gL_key fL_kind fL_one fL_two fL_base iL_params fL_paramOver dL_paramOver nL_params fL_paramUnder dL_paramUnder nL_pu gL_over gL_under fL_bound iL_nameAt iL_startAt iL_steps jL_scaleOver jL_scaleUnder) (WF hF aF kF dF_tree nF_tree fF_tree_1) (WT hT aT kT fT_tape dT_tape nT_tape iT_length iT_fault_3 iT_place_3 iT_kind_3 iT_at_3 iT_number_3 jT_name_3 iT_next_3)
  obtain ⟨hP, hD⟩ := frameG p9 p8 hP hD hk1 hFc (fz_P ht hB9.1) hB9.2.1
  refine lv_aload_n hx hb dX4_summed_36 rfl (lv_at hl 3 rfl) ?_
  refine W.known (fun hz0 _ => ?_)
  have hFc := allFree hD hS hA
  refine vx_calli (vx_runV (As := []) (rest := []) ⟨hx, hb, hml, hown, hts⟩ (m_X4_binding l hst dC dI hJ aJ kJ hT hM hL iJ_used_1 iJ_depth jJ_ownName gJ_binder iJ_binders iJ_firstSet iJ_secondSet aL kL iL_names gL_key fL_kind fL_one fL_two fL_base iL_params fL_paramOver dL_paramOver nL_params fL_paramUnder dL_paramUnder nL_pu gL_over gL_under fL_bound iL_nameAt iL_startAt iL_steps jL_scaleOver jL_scaleUnder hF aF kF dF_tree nF_tree fF_tree_1 aT kT fT_tape dT_tape nT_tape iT_length iT_fault_3 iT_place_3 iT_kind_3 iT_at_3 iT_number_3 jT_name_3 iT_next_3 lv (b_iJ_used_1) (b_iJ_depth) (b_iJ_binders) (b_iJ_firstSet) (b_iJ_secondSet) (b_iL_names) b_fL_kind b_fL_two b_fL_base (b_iL_params) (by first | exact b_nL_params | with_reducible assumption | exact ⟨by omega, by omega⟩ | assumption) (by first | with_reducible assumption | omega | (rw [iI_t (by omega) (by omega)]; omega) | assumption) (by first | with_reducible assumption | omega | (rw [iI_t (by omega) (by omega)]; omega) | assumption) (by first | with_reducible assumption | omega | (rw [iI_t (by omega) (by omega)]; omega) | assumption) (by first | exact b_nF_tree | with_reducible assumption | exact ⟨by omega, by omega⟩ | assumption) b_fT_tape (by first | exact b_nT_tape | with_reducible assumption | exact ⟨by omega, by omega⟩ | assumption) (b_iT_length) (b_iT_at_3) (b_iT_number_3) (b_iT_next_3) (by first | with_reducible assumption | omega | assumption) (by first | with_reducible assumption | omega | (rw [iI_t (by omega) (by omega)]; omega) | decide | assumption) (by first | with_reducible assumption | omega | (rw [iI_t (by omega) (by omega)]; omega) | decide | assumption) (by first | with_reducible assumption | omega | (rw [iI_t (by omega) (by omega)]; omega) | decide | assumption) (by first | with_reducible assumption | omega | (rw [iI_t (by omega) (by omega)]; omega) | decide | assumption) (by first | with_reducible assumption | omega | (rw [iI_t (by omega) (by omega)]; omega) | decide | assumption) (by first | with_reducible assumption | omega | (rw [iI_t (by omega) (by omega)]; omega) | decide | assumption) (by first | with_reducible assumption | omega | (rw [iI_t (by omega) (by omega)]; omega) | decide | assumption) H.size) (cwV 0 hts gwsMX4_summed_3 rfl rfl rfl (by decide +kernel) ⟨by first | decide +kernel | (dsimp only [headSpec] <;> omega), by first | decide +kernel | (dsimp only [headSpec] <;> omega)⟩) (fz_preE (va_recv hK hP (ci := 4) (q0 := 0) rfl rfl) hP hK hD (fun a U g mk qE => qE.call) (fun U hU9 hW => by rw [hU9]; exact (((hE : CE A s s.heap).kept hS.2.1).narrow (fun q h => hFc q h)).warm hW)) rfl rfl hl.1 rfl (lv_room (Nat.le_of_ble_eq_true rfl)) dX4_summed_37 ⟨by first | decide +kernel | (dsimp only [headSpec] <;> omega), by first | decide +kernel | (dsimp only [headSpec] <;> omega)⟩) hS (fun q _ h => hFc q h) hFc (fun q _ h => hFc q h) (fun E ce q9 u t9_ H locs ht hvm hw9 hB9 hz1 hk1 hS hc1 hc2 hc3 => ?_) (fun r4 u t9_ H locs ht hvm hw9 hB9 hz1 hk1 hS => ?_)
  · revert u hw9 hB9
    refine fz_p11 ?_
    intro iJ_used_4 gJ_binder_4 iJ_binders_4 fF_tree_4 iT_fault_4 iT_place_4 iT_kind_4 iT_at_4 iT_number_4 jT_name_4 iT_next_4 hw9 hB9
    try dsimp only at hw9 hB9
    revert hB9
    refine fz_a2 ?_
    intro hEx hB9
    revert hw9
    refine fz_a5 ?_
    intro b_iJ_used_4 b_iJ_binders_4 b_iT_at_4 b_iT_number_4 b_iT_next_4
    have hP : va_P (dC, dI) vwCl (WJ hJ aJ kJ hT hM hL (.ref dF_tree) iJ_used_4 iJ_depth jJ_ownName gJ_binder_4 iJ_binders_4 iJ_firstSet iJ_secondSet ++ (WL hL aL kL hT hM (.ref dF_tree) iL_names gL_key fL_kind fL_one fL_two fL_base iL_params fL_paramOver dL_paramOver nL_params fL_paramUnder dL_paramUnder nL_pu gL_over gL_under fL_bound iL_nameAt iL_startAt iL_steps jL_scaleOver jL_scaleUnder ++ (WF hF aF kF dF_tree nF_tree fF_tree_4 ++ (WT hT aT kT fT_tape dT_tape nT_tape iT_length iT_fault_4 iT_place_4 iT_kind_4 iT_at_4 iT_number_4 jT_name_4 iT_next_4)))) H := fz_P ht hB9.1
    have hD := fz_sd hP (hB9.2.weaken (fun _ q _ h => hFc q.1 h)) rfl
    exact vx_out (fun x hx9 => (htab x hx9).elim) hlocks hc1 hc2 hc3 (fun t9_ ht hvm => ⟨(iJ_used_4, iJ_depth, gJ_binder_4, iJ_binders_4, fF_tree_4, iT_fault_4, iT_place_4, iT_kind_4, iT_at_4, iT_number_4, jT_name_4, iT_next_4), ⟨(b_iJ_used_4), (b_iJ_depth), (b_iJ_binders_4), (b_iT_at_4), (b_iT_number_4), (b_iT_next_4)⟩, ⟨(by have h9 := hEx; exact h9), by rw [ht]; exact hP, hD⟩, hS.F ht⟩) hS.2.2 (by decide +kernel) (by decide +kernel)
  revert u hw9 hB9
  refine fz_p11 ?_
  intro iJ_used_4 gJ_binder_4 iJ_binders_4 fF_tree_4 iT_fault_4 iT_place_4 iT_kind_4 iT_at_4 iT_number_4 jT_name_4 iT_next_4 hw9 hB9
  try dsimp only at hw9 hB9
  revert hw9
  refine fz_a14 ?_
  intro b_iJ_used_4 b_iJ_binders_4 b_iT_at_4 b_iT_number_4 b_iT_next_4 f4_0 f4_1 f4_2 f4_3 f4_4 f4_5 f4_6 f4_7 f4_8
  have hz8 := hB9.2.2
  rw [ht] at hz8
  have hz9 : H.size ≤ s.heap.size + 0 := by rw [hz8]; exact hz0
  refine W.tight (cells2 := 0) (slots2 := 0) hz9 (nS_0 hz9) ?_
  clear hz8 hz9
  have hP : va_P (dC, dI) vwCl (WJ hJ aJ kJ hT hM hL (.ref dF_tree) iJ_used_4 iJ_depth jJ_ownName gJ_binder_4 iJ_binders_4 iJ_firstSet iJ_secondSet ++ (WL hL aL kL hT hM (.ref dF_tree) iL_names gL_key fL_kind fL_one fL_two fL_base iL_params fL_paramOver dL_paramOver nL_params fL_paramUnder dL_paramUnder nL_pu gL_over gL_under fL_bound iL_nameAt iL_startAt iL_steps jL_scaleOver jL_scaleUnder ++ (WF hF aF kF dF_tree nF_tree fF_tree_4 ++ (WT hT aT kT fT_tape dT_tape nT_tape iT_length iT_fault_4 iT_place_4 iT_kind_4 iT_at_4 iT_number_4 jT_name_4 iT_next_4)))) H := fz_P ht hB9.1
  have hD := fz_sd hP (hB9.2.1.weaken (fun _ q _ h => hFc q.1 h)) rfl
  have hF1 := f4_1
  refine lv_istore hx hb dX4_summed_40 hl (by decide) rfl (fun ls (hl : lv_has ls _ ([(4, .int r4), (3, .int iJ_binders), (2, .int iT_at), (1, .int r1), (0, .ref (hJ 0))])) => ?_)
  refine lv_aload_n hx hb dX4_summed_42 rfl (lv_at hl 4 rfl) ?_
  refine va_get (D := (dC, dI)) (ci := 4) (v := .ref dF_tree) (C := RX4) (T := TX4) (N := 11) hx hb hts iwsMX4_summed_in4 hown hK hP 0 rfl rfl 3 (by decide) (hts _ hm_m_X4_summed_2) (fun _ h9 => h9) rfl dX4_summed_43 ?_
  refine lv_iload hx hb dX4_summed_46 (lv_at hl 0 rfl) ?_
  refine lv_iconst (v := 1) hx hb dX4_summed_48 (by decide) ?_
  refine lv_iadd hx hb dX4_summed_49 ?_
  refine lv_topi (fun y5 hy5 => ?_)
  obtain rfl : (iI (r4.toInt + 1)) = y5 := (hy5.trans (iI_add2 (iI_of _) (by decide : (1 : Int32) = iI 1))).symm
  refine lv_iload_n hx hb dX4_summed_50 rfl (lv_at hl 2 rfl) ?_
  refine va_iast (cA := kF 0) (n := nF_tree) (f := fF_tree_4) hx hb hK hP hD hS 13 11 rfl rfl (vp_iI (by omega) (by omega) (by omega)) dX4_summed_51 (fun H locs hP hD hS => ?_)
  obtain ⟨u6, hu6⟩ : ∃ f9, f9 = upd fF_tree_4 ((iI (r4.toInt + 1))).toNatClampNeg iT_at := ⟨_, rfl⟩
  have hP : va_P (dC, dI) vwCl (WJ hJ aJ kJ hT hM hL (.ref dF_tree) iJ_used_4 iJ_depth jJ_ownName gJ_binder_4 iJ_binders_4 iJ_firstSet iJ_secondSet ++ (WL hL aL kL hT hM (.ref dF_tree) iL_names gL_key fL_kind fL_one fL_two fL_base iL_params fL_paramOver dL_paramOver nL_params fL_paramUnder dL_paramUnder nL_pu gL_over gL_under fL_bound iL_nameAt iL_startAt iL_steps jL_scaleOver jL_scaleUnder ++ (WF hF aF kF dF_tree nF_tree u6 ++ (WT hT aT kT fT_tape dT_tape nT_tape iT_length iT_fault_4 iT_place_4 iT_kind_4 iT_at_4 iT_number_4 jT_name_4 iT_next_4)))) H := by rw [hu6]; exact hP
  have hD : va_D A (WJ hJ aJ kJ hT hM hL (.ref dF_tree) iJ_used_4 iJ_depth jJ_ownName gJ_binder_4 iJ_binders_4 iJ_firstSet iJ_secondSet ++ (WL hL aL kL hT hM (.ref dF_tree) iL_names gL_key fL_kind fL_one fL_two fL_base iL_params fL_paramOver dL_paramOver nL_params fL_paramUnder dL_paramUnder nL_pu gL_over gL_under fL_bound iL_nameAt iL_startAt iL_steps jL_scaleOver jL_scaleUnder ++ (WF hF aF kF dF_tree nF_tree u6 ++ (WT hT aT kT fT_tape dT_tape nT_tape iT_length iT_fault_4 iT_place_4 iT_kind_4 iT_at_4 iT_number_4 jT_name_4 iT_next_4)))) := by rw [hu6]; exact hD
  have b_u6 : WrL fF_tree_4 u6 (r4.toInt + 1) iT_at.toInt := by rw [hu6]; exact WrL.ofx rfl (by omega) (by omega)
  clear hu6
  refine lv_aload_n hx hb dX4_summed_52 rfl (lv_at hl 4 rfl) ?_
  refine va_get (D := (dC, dI)) (ci := 4) (v := .ref dF_tree) (C := RX4) (T := TX4) (N := 11) hx hb hts iwsMX4_summed_in4 hown hK hP 0 rfl rfl 3 (by decide) (hts _ hm_m_X4_summed_2) (fun _ h9 => h9) rfl dX4_summed_53 ?_
  refine lv_iload_n hx hb dX4_summed_56 rfl (lv_at hl 3 rfl) ?_
  refine lv_iconst (v := 3) hx hb dX4_summed_57 (by decide) ?_
  refine lv_iadd hx hb dX4_summed_58 ?_
  refine lv_topi (fun y7 hy7 => ?_)
  obtain rfl : (iI (r1.toInt + 3)) = y7 := (hy7.trans (iI_add2 (iI_of _) (by decide : (3 : Int32) = iI 3))).symm
  refine lv_iload hx hb dX4_summed_59 (lv_at hl 0 rfl) ?_
  refine va_iast (cA := kF 0) (n := nF_tree) (f := u6) hx hb hK hP hD hS 13 11 rfl rfl (vp_iI (by omega) (by omega) (by omega)) dX4_summed_61 (fun H locs hP hD hS => ?_)
  obtain ⟨u8, hu8⟩ : ∃ f9, f9 = upd u6 ((iI (r1.toInt + 3))).toNatClampNeg r4 := ⟨_, rfl⟩
  have hP : va_P (dC, dI) vwCl (WJ hJ aJ kJ hT hM hL (.ref dF_tree) iJ_used_4 iJ_depth jJ_ownName gJ_binder_4 iJ_binders_4 iJ_firstSet iJ_secondSet ++ (WL hL aL kL hT hM (.ref dF_tree) iL_names gL_key fL_kind fL_one fL_two fL_base iL_params fL_paramOver dL_paramOver nL_params fL_paramUnder dL_paramUnder nL_pu gL_over gL_under fL_bound iL_nameAt iL_startAt iL_steps jL_scaleOver jL_scaleUnder ++ (WF hF aF kF dF_tree nF_tree u8 ++ (WT hT aT kT fT_tape dT_tape nT_tape iT_length iT_fault_4 iT_place_4 iT_kind_4 iT_at_4 iT_number_4 jT_name_4 iT_next_4)))) H := by rw [hu8]; exact hP
  have hD : va_D A (WJ hJ aJ kJ hT hM hL (.ref dF_tree) iJ_used_4 iJ_depth jJ_ownName gJ_binder_4 iJ_binders_4 iJ_firstSet iJ_secondSet ++ (WL hL aL kL hT hM (.ref dF_tree) iL_names gL_key fL_kind fL_one fL_two fL_base iL_params fL_paramOver dL_paramOver nL_params fL_paramUnder dL_paramUnder nL_pu gL_over gL_under fL_bound iL_nameAt iL_startAt iL_steps jL_scaleOver jL_scaleUnder ++ (WF hF aF kF dF_tree nF_tree u8 ++ (WT hT aT kT fT_tape dT_tape nT_tape iT_length iT_fault_4 iT_place_4 iT_kind_4 iT_at_4 iT_number_4 jT_name_4 iT_next_4)))) := by rw [hu8]; exact hD
  have b_u8 : WrL u6 u8 (r1.toInt + 3) r4.toInt := by rw [hu8]; exact WrL.ofx rfl (by omega) (by omega)
  clear hu8
  have hS1 := UnL.sum1 hNw hu1 hu7 (by omega) hF1 b_u6 (by omega) b_u8 (by omega) (by omega)
  refine lv_aload_n hx hb dX4_summed_62 rfl (lv_at hl 4 rfl) ?_
  refine va_get (D := (dC, dI)) (ci := 4) (v := .ref (hT 0)) (C := RX4) (T := TX4) (N := 11) hx hb hts iwsMX4_summed_in4 hown hK hP 0 rfl rfl 0 (by decide) (hts _ hm_m_X4_summed_0) (fun _ h9 => h9) rfl dX4_summed_63 ?_
  refine va_get (D := (dC, dI)) (ci := 9) (v := .int iT_kind_4) (C := RX9) (T := TX9) (N := 9) hx hb hts iwsMX4_summed_in9 hown hK hP 14 rfl rfl 4 (by decide) (hts (.fieldLink RX4 51 "OptimaWorks$Words" "kind" "I") (by decide +kernel)) (fun _ h9 => h9) rfl dX4_summed_66 ?_
  refine lv_sipush (v := 264) hx hb dX4_summed_69 (by decide) ?_
  refine W.cut (pc := 98) (fun H locs ls stk => ∃ (iJ_used_j2 : Int32) (iJ_depth_j2 : Int32) (gJ_binder_j2 : Nat → Int64) (iJ_binders_j2 : Int32) (fF_tree_j2 : Nat → Int32) (iT_fault_j2 : Int32) (iT_place_j2 : Int32) (iT_kind_j2 : Int32) (iT_at_j2 : Int32) (iT_number_j2 : Int32) (jT_name_j2 : Int64) (iT_next_j2 : Int32), (0 ≤ iJ_used_j2.toInt ∧ iJ_used_j2.toInt ≤ 72200) ∧ (0 ≤ iJ_depth_j2.toInt ∧ iJ_depth_j2.toInt ≤ 25) ∧ (0 ≤ iJ_binders_j2.toInt ∧ iJ_binders_j2.toInt ≤ 64) ∧ (0 ≤ iT_at_j2.toInt ∧ iT_at_j2.toInt ≤ 1282) ∧ (0 ≤ iT_number_j2.toInt ∧ iT_number_j2.toInt ≤ 999999) ∧ (0 ≤ iT_next_j2.toInt ∧ iT_next_j2.toInt ≤ 1282) ∧ (iT_at.toInt ≤ iT_at_j2.toInt) ∧ (iT_at_j2.toInt ≤ iT_next_j2.toInt) ∧ (iT_next_j2.toInt ≤ iT_length.toInt) ∧ ((iT_kind_j2.toInt = 44 ∨ iT_kind_j2.toInt = 61) → iT_at_j2.toInt < iT_next_j2.toInt) ∧ (iJ_used.toInt + 7 ≤ iJ_used_j2.toInt) ∧ (iJ_used_j2.toInt ≤ ((nF_tree : Nat) : Int)) ∧ (iJ_used_j2.toInt % 7 = 0) ∧ (iJ_depth_j2.toInt = (lv : Int)) ∧ (SmL fF_tree fF_tree_j2 fL_kind fL_one fL_two iL_names.toInt iJ_used.toInt iJ_used_j2.toInt lv) ∧  stk = [] ∧ va_P (dC, dI) vwCl (WJ hJ aJ kJ hT hM hL (.ref dF_tree) iJ_used_j2 iJ_depth_j2 jJ_ownName gJ_binder_j2 iJ_binders_j2 iJ_firstSet iJ_secondSet ++ (WL hL aL kL hT hM (.ref dF_tree) iL_names gL_key fL_kind fL_one fL_two fL_base iL_params fL_paramOver dL_paramOver nL_params fL_paramUnder dL_paramUnder nL_pu gL_over gL_under fL_bound iL_nameAt iL_startAt iL_steps jL_scaleOver jL_scaleUnder ++ (WF hF aF kF dF_tree nF_tree fF_tree_j2 ++ (WT hT aT kT fT_tape dT_tape nT_tape iT_length iT_fault_j2 iT_place_j2 iT_kind_j2 iT_at_j2 iT_number_j2 jT_name_j2 iT_next_j2)))) H ∧ va_D A (WJ hJ aJ kJ hT hM hL (.ref dF_tree) iJ_used_j2 iJ_depth_j2 jJ_ownName gJ_binder_j2 iJ_binders_j2 iJ_firstSet iJ_secondSet ++ (WL hL aL kL hT hM (.ref dF_tree) iL_names gL_key fL_kind fL_one fL_two fL_base iL_params fL_paramOver dL_paramOver nL_params fL_paramUnder dL_paramUnder nL_pu gL_over gL_under fL_bound iL_nameAt iL_startAt iL_steps jL_scaleOver jL_scaleUnder ++ (WF hF aF kF dF_tree nF_tree fF_tree_j2 ++ (WT hT aT kT fT_tape dT_tape nT_tape iT_length iT_fault_j2 iT_place_j2 iT_kind_j2 iT_at_j2 iT_number_j2 jT_name_j2 iT_next_j2)))) ∧ va_S A s.heap H locs ∧ lv_has ls 6 [(4, .int r4), (3, .int iJ_binders), (2, .int iT_at), (1, .int r1), (0, .ref (hJ 0))]) (fun join2 => ?_) ?_
  · refine lv_icmp_ne (tgt := 98) hx hb dX4_summed_72 (by decide) (fun c_72 => ?_) (fun c_72 => ?_)
    · have t_72 : iT_kind_4.toInt ≠ 264 := toI_ne c_72 rfl (by decide : (264 : Int32).toInt = 264)
      have hl : lv_has _ _ ([(4, .int r4), (3, .int iJ_binders), (2, .int iT_at), (1, .int r1), (0, .ref (hJ 0))]) := lv_sub hl [0, 1, 2, 3, 4] rfl
      exact join2 _ _ _ _ ⟨iJ_used_4, iJ_depth, gJ_binder_4, iJ_binders_4, u8, iT_fault_4, iT_place_4, iT_kind_4, iT_at_4, iT_number_4, jT_name_4, iT_next_4, (b_iJ_used_4), (b_iJ_depth), (b_iJ_binders_4), (b_iT_at_4), (b_iT_number_4), (b_iT_next_4), (show iT_at.toInt ≤ iT_at_4.toInt from by omega), (show iT_at_4.toInt ≤ iT_next_4.toInt from by first | done | assumption | omega | (rw [iI_t (by omega) (by omega)]; omega)), (show iT_next_4.toInt ≤ iT_length.toInt from by first | done | assumption | omega | (rw [iI_t (by omega) (by omega)]; omega)), (show (iT_kind_4.toInt = 44 ∨ iT_kind_4.toInt = 61) → iT_at_4.toInt < iT_next_4.toInt from by first | done | assumption | omega | (rw [iI_t (by omega) (by omega)]; omega)), (show iJ_used.toInt + 7 ≤ iJ_used_4.toInt from by omega), (show iJ_used_4.toInt ≤ ((nF_tree : Nat) : Int) from by first | done | assumption | omega | (rw [iI_t (by omega) (by omega)]; omega)), (show iJ_used_4.toInt % 7 = 0 from by omega), (show iJ_depth.toInt = (lv : Int) from by omega), (show SmL fF_tree u8 fL_kind fL_one fL_two iL_names.toInt iJ_used.toInt iJ_used_4.toInt lv from by first | exact Or.inl hS1 | exact SmL.truth hS1.1 hF2 b_u8 (by omega) (by omega)), rfl, hP, hD, hS, hl⟩
    · have t_72 : iT_kind_4.toInt = 264 := toI_nne c_72 rfl (by decide : (264 : Int32).toInt = 264)
      refine lv_aload_n hx hb dX4_summed_75 rfl (lv_at hl 4 rfl) ?_
      refine va_get (D := (dC, dI)) (ci := 4) (v := .ref (hT 0)) (C := RX4) (T := TX4) (N := 11) hx hb hts iwsMX4_summed_in4 hown hK hP 0 rfl rfl 0 (by decide) (hts _ hm_m_X4_summed_0) (fun _ h9 => h9) rfl dX4_summed_76 ?_
      have p9 := cj_4_3 (WJ hJ aJ kJ hT hM hL (.ref dF_tree) iJ_used_4 iJ_depth jJ_ownName gJ_binder_4 iJ_binders_4 iJ_firstSet iJ_secondSet) (WL hL aL kL hT hM (.ref dF_tree) iL_names gL_key fL_kind fL_one fL_two fL_base iL_params fL_paramOver dL_paramOver nL_params fL_paramUnder dL_paramUnder nL_pu gL_over gL_under fL_bound iL_nameAt iL_startAt iL_steps jL_scaleOver jL_scaleUnder) (WF hF aF kF dF_tree nF_tree u8) (WT hT aT kT fT_tape dT_tape nT_tape iT_length iT_fault_4 iT_place_4 iT_kind_4 iT_at_4 iT_number_4 jT_name_4 iT_next_4)
      have hPc := hP.mem (fun q h => p9.mem_iff.mpr (List.mem_append_left _ h))
      have hDc := (hD.perm p9).left
      have hKc : va_K (dC, dI) vwCl (tT kT) _ := hK.sub [12] rfl
      have hFc := freeG p9 hD hS hA
      refine va_callv (va_runV (As := []) (rest := []) ⟨hx, hb, hml, hown, hts⟩ (m_X9_advance l hst dC dI hT aT kT fT_tape dT_tape nT_tape iT_length iT_fault_4 iT_place_4 iT_kind_4 iT_at_4 iT_number_4 jT_name_4 iT_next_4 b_fT_tape (by first | exact b_nT_tape | with_reducible assumption | exact ⟨by omega, by omega⟩ | assumption) (b_iT_length) (b_iT_at_4) (b_iT_number_4) (b_iT_next_4) (by first | with_reducible assumption | omega | assumption) (by first | with_reducible assumption | omega | (rw [iI_t (by omega) (by omega)]; omega) | decide | assumption) H.size) (cwV 0 hts gwsMX4_summed_1 rfl rfl rfl (by decide +kernel) ⟨by first | decide +kernel | (dsimp only [headSpec] <;> omega), by first | decide +kernel | (dsimp only [headSpec] <;> omega)⟩) (fz_preE (va_recv hK hP (ci := 9) (q0 := 14) rfl rfl) hPc hKc hDc (fun a U g mk qE => qE.call) (fun U hU9 hW => by rw [hU9]; exact (((hE : CE A s s.heap).kept hS.2.1).narrow (fun q h => hFc q h)).warm hW)) rfl rfl hl.1 rfl (lv_room (Nat.le_of_ble_eq_true rfl)) dX4_summed_79 ⟨by first | decide +kernel | (dsimp only [headSpec] <;> omega), by first | decide +kernel | (dsimp only [headSpec] <;> omega)⟩) hS (fun q _ h => hFc q h) hFc (fun u t9_ H locs ht hvm hw9 hB9 hz1 hk1 hS => ?_)
      revert u hw9 hB9
      refine fz_p5 ?_
      intro iT_kind_13 iT_at_13 iT_number_13 jT_name_13 iT_next_13 hw9 hB9
      try dsimp only at hw9 hB9
      revert hw9
      refine fz_a7 ?_
      intro b_iT_at_13 b_iT_number_13 b_iT_next_13 f13_0 f13_1 f13_2 f13_3
      have p8 := cj_4_3 (WJ hJ aJ kJ hT hM hL (.ref dF_tree) iJ_used_4 iJ_depth jJ_ownName gJ_binder_4 iJ_binders_4 iJ_firstSet iJ_secondSet) (WL hL aL kL hT hM (.ref dF_tree) iL_names gL_key fL_kind fL_one fL_two fL_base iL_params fL_paramOver dL_paramOver nL_params fL_paramUnder dL_paramUnder nL_pu gL_over gL_under fL_bound iL_nameAt iL_startAt iL_steps jL_scaleOver jL_scaleUnder) (WF hF aF kF dF_tree nF_tree u8) (WT hT aT kT fT_tape dT_tape nT_tape iT_length iT_fault_4 iT_place_4 iT_kind_13 iT_at_13 iT_number_13 jT_name_13 iT_next_13)
      obtain ⟨hP, hD⟩ := frameG p9 p8 hP hD hk1 hFc (fz_P ht hB9.1) hB9.2
      refine lv_aload_n hx hb dX4_summed_82 rfl (lv_at hl 4 rfl) ?_
      refine W.known (fun hz0 _ => ?_)
      have hFc := allFree hD hS hA
      refine vx_calli (vx_runV (As := []) (rest := []) ⟨hx, hb, hml, hown, hts⟩ (ih_X4_anyOf dC dI hJ aJ kJ hT hM hL iJ_used_4 iJ_depth jJ_ownName gJ_binder_4 iJ_binders_4 iJ_firstSet iJ_secondSet aL kL iL_names gL_key fL_kind fL_one fL_two fL_base iL_params fL_paramOver dL_paramOver nL_params fL_paramUnder dL_paramUnder nL_pu gL_over gL_under fL_bound iL_nameAt iL_startAt iL_steps jL_scaleOver jL_scaleUnder hF aF kF dF_tree nF_tree u8 aT kT fT_tape dT_tape nT_tape iT_length iT_fault_4 iT_place_4 iT_kind_13 iT_at_13 iT_number_13 jT_name_13 iT_next_13 (lv + 1) (b_iJ_used_4) (b_iJ_depth) (b_iJ_binders_4) (b_iJ_firstSet) (b_iJ_secondSet) (b_iL_names) b_fL_kind b_fL_two b_fL_base (b_iL_params) (by first | exact b_nL_params | with_reducible assumption | exact ⟨by omega, by omega⟩ | assumption) (by first | with_reducible assumption | omega | (rw [iI_t (by omega) (by omega)]; omega) | assumption) (by first | with_reducible assumption | omega | (rw [iI_t (by omega) (by omega)]; omega) | assumption) (by first | with_reducible assumption | omega | (rw [iI_t (by omega) (by omega)]; omega) | assumption) (by first | exact b_nF_tree | with_reducible assumption | exact ⟨by omega, by omega⟩ | assumption) b_fT_tape (by first | exact b_nT_tape | with_reducible assumption | exact ⟨by omega, by omega⟩ | assumption) (b_iT_length) (b_iT_at_13) (b_iT_number_13) (b_iT_next_13) (by first | with_reducible assumption | omega | assumption) (by first | with_reducible assumption | omega | (rw [iI_t (by omega) (by omega)]; omega) | decide | assumption) (by first | with_reducible assumption | omega | (rw [iI_t (by omega) (by omega)]; omega) | decide | assumption) (by first | with_reducible assumption | omega | (rw [iI_t (by omega) (by omega)]; omega) | decide | assumption) (by first | with_reducible assumption | omega | (rw [iI_t (by omega) (by omega)]; omega) | decide | assumption) (by first | with_reducible assumption | omega | (rw [iI_t (by omega) (by omega)]; omega) | decide | assumption) (by first | with_reducible assumption | omega | (rw [iI_t (by omega) (by omega)]; omega) | decide | assumption) (by first | with_reducible assumption | omega | (rw [iI_t (by omega) (by omega)]; omega) | decide | assumption) (by first | with_reducible assumption | omega | (rw [iI_t (by omega) (by omega)]; omega) | decide | assumption) H.size) (cwV 0 hts gwsMX4_summed_4 rfl rfl rfl (by decide +kernel) ⟨by first | decide +kernel | (dsimp only [headSpec] <;> omega), by first | decide +kernel | (dsimp only [headSpec] <;> omega)⟩) (fz_preE (va_recv hK hP (ci := 4) (q0 := 0) rfl rfl) hP hK hD (fun a U g mk qE => qE.call) (fun U hU9 hW => by rw [hU9]; exact (((hE : CE A s s.heap).kept hS.2.1).narrow (fun q h => hFc q h)).warm hW)) rfl rfl hl.1 rfl (lv_room (Nat.le_of_ble_eq_true rfl)) dX4_summed_83 ⟨by first | decide +kernel | (dsimp only [headSpec] <;> omega), by first | decide +kernel | (dsimp only [headSpec] <;> omega)⟩) hS (fun q _ h => hFc q h) hFc (fun q _ h => hFc q h) (fun E ce q9 u t9_ H locs ht hvm hw9 hB9 hz1 hk1 hS hc1 hc2 hc3 => ?_) (fun r14 u t9_ H locs ht hvm hw9 hB9 hz1 hk1 hS => ?_)
      · revert u hw9 hB9
        refine fz_p12 ?_
        intro iJ_used_14 iJ_depth_14 gJ_binder_14 iJ_binders_14 fF_tree_14 iT_fault_14 iT_place_14 iT_kind_14 iT_at_14 iT_number_14 jT_name_14 iT_next_14 hw9 hB9
        try dsimp only at hw9 hB9
        revert hB9
        refine fz_a2 ?_
        intro hEx hB9
        revert hw9
        refine fz_a6 ?_
        intro b_iJ_used_14 b_iJ_depth_14 b_iJ_binders_14 b_iT_at_14 b_iT_number_14 b_iT_next_14
        have hP : va_P (dC, dI) vwCl (WJ hJ aJ kJ hT hM hL (.ref dF_tree) iJ_used_14 iJ_depth_14 jJ_ownName gJ_binder_14 iJ_binders_14 iJ_firstSet iJ_secondSet ++ (WL hL aL kL hT hM (.ref dF_tree) iL_names gL_key fL_kind fL_one fL_two fL_base iL_params fL_paramOver dL_paramOver nL_params fL_paramUnder dL_paramUnder nL_pu gL_over gL_under fL_bound iL_nameAt iL_startAt iL_steps jL_scaleOver jL_scaleUnder ++ (WF hF aF kF dF_tree nF_tree fF_tree_14 ++ (WT hT aT kT fT_tape dT_tape nT_tape iT_length iT_fault_14 iT_place_14 iT_kind_14 iT_at_14 iT_number_14 jT_name_14 iT_next_14)))) H := fz_P ht hB9.1
        have hD := fz_sd hP (hB9.2.weaken (fun _ q _ h => hFc q.1 h)) rfl
        exact vx_out (fun x hx9 => (htab x hx9).elim) hlocks hc1 hc2 hc3 (fun t9_ ht hvm => ⟨(iJ_used_14, iJ_depth_14, gJ_binder_14, iJ_binders_14, fF_tree_14, iT_fault_14, iT_place_14, iT_kind_14, iT_at_14, iT_number_14, jT_name_14, iT_next_14), ⟨(b_iJ_used_14), (b_iJ_depth_14), (b_iJ_binders_14), (b_iT_at_14), (b_iT_number_14), (b_iT_next_14)⟩, ⟨(by have h9 := hEx; exact h9), by rw [ht]; exact hP, hD⟩, hS.F ht⟩) hS.2.2 (by decide +kernel) (by decide +kernel)
      revert u hw9 hB9
      refine fz_p12 ?_
      intro iJ_used_14 iJ_depth_14 gJ_binder_14 iJ_binders_14 fF_tree_14 iT_fault_14 iT_place_14 iT_kind_14 iT_at_14 iT_number_14 jT_name_14 iT_next_14 hw9 hB9
      try dsimp only at hw9 hB9
      revert hw9
      refine fz_a16 ?_
      intro b_iJ_used_14 b_iJ_depth_14 b_iJ_binders_14 b_iT_at_14 b_iT_number_14 b_iT_next_14 f14_0 f14_1 f14_2 f14_3 f14_4 f14_5 f14_6 f14_7 f14_8 f14_9
      have hz8 := hB9.2.2
      rw [ht] at hz8
      have hz9 : H.size ≤ s.heap.size + 0 := by rw [hz8]; exact hz0
      refine W.tight (cells2 := 0) (slots2 := 0) hz9 (nS_0 hz9) ?_
      clear hz8 hz9
      have hP : va_P (dC, dI) vwCl (WJ hJ aJ kJ hT hM hL (.ref dF_tree) iJ_used_14 iJ_depth_14 jJ_ownName gJ_binder_14 iJ_binders_14 iJ_firstSet iJ_secondSet ++ (WL hL aL kL hT hM (.ref dF_tree) iL_names gL_key fL_kind fL_one fL_two fL_base iL_params fL_paramOver dL_paramOver nL_params fL_paramUnder dL_paramUnder nL_pu gL_over gL_under fL_bound iL_nameAt iL_startAt iL_steps jL_scaleOver jL_scaleUnder ++ (WF hF aF kF dF_tree nF_tree fF_tree_14 ++ (WT hT aT kT fT_tape dT_tape nT_tape iT_length iT_fault_14 iT_place_14 iT_kind_14 iT_at_14 iT_number_14 jT_name_14 iT_next_14)))) H := fz_P ht hB9.1
      have hD := fz_sd hP (hB9.2.1.weaken (fun _ q _ h => hFc q.1 h)) rfl
      have hF2 := f14_1
      refine lv_istore hx hb dX4_summed_86 hl (by decide) rfl (fun ls (hl : lv_has ls _ ([(5, .int r14), (4, .int r4), (3, .int iJ_binders), (2, .int iT_at), (1, .int r1), (0, .ref (hJ 0))])) => ?_)
      refine lv_aload_n hx hb dX4_summed_88 rfl (lv_at hl 5 rfl) ?_
      refine va_get (D := (dC, dI)) (ci := 4) (v := .ref dF_tree) (C := RX4) (T := TX4) (N := 11) hx hb hts iwsMX4_summed_in4 hown hK hP 0 rfl rfl 3 (by decide) (hts _ hm_m_X4_summed_2) (fun _ h9 => h9) rfl dX4_summed_89 ?_
      refine lv_iload_n hx hb dX4_summed_92 rfl (lv_at hl 4 rfl) ?_
      refine lv_iconst (v := 4) hx hb dX4_summed_93 (by decide) ?_
      refine lv_iadd hx hb dX4_summed_94 ?_
      refine lv_topi (fun y15 hy15 => ?_)
      obtain rfl : (iI (r1.toInt + 4)) = y15 := (hy15.trans (iI_add2 (iI_of _) (by decide : (4 : Int32) = iI 4))).symm
      refine lv_iload hx hb dX4_summed_95 (lv_at hl 0 rfl) ?_
      refine va_iast (cA := kF 0) (n := nF_tree) (f := fF_tree_14) hx hb hK hP hD hS 13 11 rfl rfl (vp_iI (by omega) (by omega) (by omega)) dX4_summed_97 (fun H locs hP hD hS => ?_)
      obtain ⟨u16, hu16⟩ : ∃ f9, f9 = upd fF_tree_14 ((iI (r1.toInt + 4))).toNatClampNeg r14 := ⟨_, rfl⟩
      have hP : va_P (dC, dI) vwCl (WJ hJ aJ kJ hT hM hL (.ref dF_tree) iJ_used_14 iJ_depth_14 jJ_ownName gJ_binder_14 iJ_binders_14 iJ_firstSet iJ_secondSet ++ (WL hL aL kL hT hM (.ref dF_tree) iL_names gL_key fL_kind fL_one fL_two fL_base iL_params fL_paramOver dL_paramOver nL_params fL_paramUnder dL_paramUnder nL_pu gL_over gL_under fL_bound iL_nameAt iL_startAt iL_steps jL_scaleOver jL_scaleUnder ++ (WF hF aF kF dF_tree nF_tree u16 ++ (WT hT aT kT fT_tape dT_tape nT_tape iT_length iT_fault_14 iT_place_14 iT_kind_14 iT_at_14 iT_number_14 jT_name_14 iT_next_14)))) H := by rw [hu16]; exact hP
      have hD : va_D A (WJ hJ aJ kJ hT hM hL (.ref dF_tree) iJ_used_14 iJ_depth_14 jJ_ownName gJ_binder_14 iJ_binders_14 iJ_firstSet iJ_secondSet ++ (WL hL aL kL hT hM (.ref dF_tree) iL_names gL_key fL_kind fL_one fL_two fL_base iL_params fL_paramOver dL_paramOver nL_params fL_paramUnder dL_paramUnder nL_pu gL_over gL_under fL_bound iL_nameAt iL_startAt iL_steps jL_scaleOver jL_scaleUnder ++ (WF hF aF kF dF_tree nF_tree u16 ++ (WT hT aT kT fT_tape dT_tape nT_tape iT_length iT_fault_14 iT_place_14 iT_kind_14 iT_at_14 iT_number_14 jT_name_14 iT_next_14)))) := by rw [hu16]; exact hD
      have b_u16 : WrL fF_tree_14 u16 (r1.toInt + 4) r14.toInt := by rw [hu16]; exact WrL.ofx rfl (by omega) (by omega)
      clear hu16
      have hl : lv_has _ _ ([(4, .int r4), (3, .int iJ_binders), (2, .int iT_at), (1, .int r1), (0, .ref (hJ 0))]) := lv_sub hl [1, 2, 3, 4, 5] rfl
      exact join2 _ _ _ _ ⟨iJ_used_14, iJ_depth_14, gJ_binder_14, iJ_binders_14, u16, iT_fault_14, iT_place_14, iT_kind_14, iT_at_14, iT_number_14, jT_name_14, iT_next_14, (b_iJ_used_14), (b_iJ_depth_14), (b_iJ_binders_14), (b_iT_at_14), (b_iT_number_14), (b_iT_next_14), (show iT_at.toInt ≤ iT_at_14.toInt from by omega), (show iT_at_14.toInt ≤ iT_next_14.toInt from by first | done | assumption | omega | (rw [iI_t (by omega) (by omega)]; omega)), (show iT_next_14.toInt ≤ iT_length.toInt from by first | done | assumption | omega | (rw [iI_t (by omega) (by omega)]; omega)), (show (iT_kind_14.toInt = 44 ∨ iT_kind_14.toInt = 61) → iT_at_14.toInt < iT_next_14.toInt from by first | done | assumption | omega | (rw [iI_t (by omega) (by omega)]; omega)), (show iJ_used.toInt + 7 ≤ iJ_used_14.toInt from by omega), (show iJ_used_14.toInt ≤ ((nF_tree : Nat) : Int) from by first | done | assumption | omega | (rw [iI_t (by omega) (by omega)]; omega)), (show iJ_used_14.toInt % 7 = 0 from by omega), (show iJ_depth_14.toInt = (lv : Int) from by omega), (show SmL fF_tree u16 fL_kind fL_one fL_two iL_names.toInt iJ_used.toInt iJ_used_14.toInt lv from by first | exact Or.inl hS1 | exact SmL.truth hS1.1 hF2 b_u16 (by omega) (by omega)), rfl, hP, hD, hS, hl⟩
  · rintro H locs ls stk ⟨iJ_used_j2, iJ_depth_j2, gJ_binder_j2, iJ_binders_j2, fF_tree_j2, iT_fault_j2, iT_place_j2, iT_kind_j2, iT_at_j2, iT_number_j2, jT_name_j2, iT_next_j2, b_iJ_used_j2, b_iJ_depth_j2, b_iJ_binders_j2, b_iT_at_j2, b_iT_number_j2, b_iT_next_j2, hq0, hq1, hq2, hq3, hu1x, hu2x, hu7x, hdx, hSm, rfl, hP, hD, hS, hl⟩
    refine lv_aload_n hx hb dX4_summed_98 rfl (lv_at hl 4 rfl) ?_
    refine va_get (D := (dC, dI)) (ci := 4) (v := .ref (hT 0)) (C := RX4) (T := TX4) (N := 11) hx hb hts iwsMX4_summed_in4 hown hK hP 0 rfl rfl 0 (by decide) (hts _ hm_m_X4_summed_0) (fun _ h9 => h9) rfl dX4_summed_99 ?_
    refine lv_bipush (v := 125) hx hb dX4_summed_102 (by decide) ?_
    refine W.known (fun hz0 _ => ?_)
    have p9 := cj_4_3 (WJ hJ aJ kJ hT hM hL (.ref dF_tree) iJ_used_j2 iJ_depth_j2 jJ_ownName gJ_binder_j2 iJ_binders_j2 iJ_firstSet iJ_secondSet) (WL hL aL kL hT hM (.ref dF_tree) iL_names gL_key fL_kind fL_one fL_two fL_base iL_params fL_paramOver dL_paramOver nL_params fL_paramUnder dL_paramUnder nL_pu gL_over gL_under fL_bound iL_nameAt iL_startAt iL_steps jL_scaleOver jL_scaleUnder) (WF hF aF kF dF_tree nF_tree fF_tree_j2) (WT hT aT kT fT_tape dT_tape nT_tape iT_length iT_fault_j2 iT_place_j2 iT_kind_j2 iT_at_j2 iT_number_j2 jT_name_j2 iT_next_j2)
    have hPc := hP.mem (fun q h => p9.mem_iff.mpr (List.mem_append_left _ h))
    have hDc := (hD.perm p9).left
    have hKc : va_K (dC, dI) vwCl (tT kT) _ := hK.sub [12] rfl
    have hFc := freeG p9 hD hS hA
    refine vx_callv (vx_runV (As := [.int 125]) (rest := []) ⟨hx, hb, hml, hown, hts⟩ (m_X9_take l hst dC dI hT aT kT fT_tape dT_tape nT_tape iT_length iT_fault_j2 iT_place_j2 iT_kind_j2 iT_at_j2 iT_number_j2 jT_name_j2 iT_next_j2 125 b_fT_tape (by first | exact b_nT_tape | with_reducible assumption | exact ⟨by omega, by omega⟩ | assumption) (b_iT_length) (b_iT_at_j2) (b_iT_number_j2) (b_iT_next_j2) (by first | with_reducible assumption | omega | assumption) (by first | with_reducible assumption | omega | (rw [iI_t (by omega) (by omega)]; omega) | decide | assumption) (by first | with_reducible assumption | omega | (rw [iI_t (by omega) (by omega)]; omega) | decide | assumption) (by first | with_reducible assumption | omega | (rw [iI_t (by omega) (by omega)]; omega) | decide | assumption) H.size) (cwV 1 hts gwsMX4_summed_2 rfl rfl rfl (by decide +kernel) ⟨by first | decide +kernel | (dsimp only [headSpec] <;> omega), by first | decide +kernel | (dsimp only [headSpec] <;> omega)⟩) (fz_preE (va_recv hK hP (ci := 9) (q0 := 14) rfl rfl) hPc hKc hDc (fun a U g mk qE => qE.call) (fun U hU9 hW => by rw [hU9]; exact (((hE : CE A s s.heap).kept hS.2.1).narrow (fun q h => hFc q h)).warm hW)) rfl rfl hl.1 rfl (lv_room (Nat.le_of_ble_eq_true rfl)) dX4_summed_104 ⟨by first | decide +kernel | (dsimp only [headSpec] <;> omega), by first | decide +kernel | (dsimp only [headSpec] <;> omega)⟩) hS (fun q _ h => hFc q h) hFc (fun q _ h => hFc q h) (fun E ce q9 u t9_ H locs ht hvm hw9 hB9 hz1 hk1 hS hc1 hc2 hc3 => ?_) (fun u t9_ H locs ht hvm hw9 hB9 hz1 hk1 hS => ?_)
    · revert u hw9 hB9
      refine fz_p7 ?_
      intro iT_fault_17 iT_place_17 iT_kind_17 iT_at_17 iT_number_17 jT_name_17 iT_next_17 hw9 hB9
      try dsimp only at hw9 hB9
      revert hB9
      refine fz_a2 ?_
      intro hEx hB9
      revert hw9
      refine fz_a3 ?_
      intro b_iT_at_17 b_iT_number_17 b_iT_next_17
      have p8 := cj_4_3 (WJ hJ aJ kJ hT hM hL (.ref dF_tree) iJ_used_j2 iJ_depth_j2 jJ_ownName gJ_binder_j2 iJ_binders_j2 iJ_firstSet iJ_secondSet) (WL hL aL kL hT hM (.ref dF_tree) iL_names gL_key fL_kind fL_one fL_two fL_base iL_params fL_paramOver dL_paramOver nL_params fL_paramUnder dL_paramUnder nL_pu gL_over gL_under fL_bound iL_nameAt iL_startAt iL_steps jL_scaleOver jL_scaleUnder) (WF hF aF kF dF_tree nF_tree fF_tree_j2) (WT hT aT kT fT_tape dT_tape nT_tape iT_length iT_fault_17 iT_place_17 iT_kind_17 iT_at_17 iT_number_17 jT_name_17 iT_next_17)
      obtain ⟨hP, hD⟩ := frameG p9 p8 hP hD hk1 hFc (fz_P ht hB9.1) hB9.2
      exact vx_out (fun x hx9 => (htab x hx9).elim) hlocks hc1 hc2 hc3 (fun t9_ ht hvm => ⟨(iJ_used_j2, iJ_depth_j2, gJ_binder_j2, iJ_binders_j2, fF_tree_j2, iT_fault_17, iT_place_17, iT_kind_17, iT_at_17, iT_number_17, jT_name_17, iT_next_17), ⟨(b_iJ_used_j2), (b_iJ_depth_j2), (b_iJ_binders_j2), (b_iT_at_17), (b_iT_number_17), (b_iT_next_17)⟩, ⟨(by have h9 := hEx; exact h9), by rw [ht]; exact hP, hD⟩, hS.F ht⟩) hS.2.2 (by decide +kernel) (by decide +kernel)
    revert u hw9 hB9
    refine fz_p7 ?_
    intro iT_fault_17 iT_place_17 iT_kind_17 iT_at_17 iT_number_17 jT_name_17 iT_next_17 hw9 hB9
    try dsimp only at hw9 hB9
    revert hw9
    refine fz_a8 ?_
    intro b_iT_at_17 b_iT_number_17 b_iT_next_17 f17_0 f17_1 f17_2 f17_3 f17_4
    have hz8 := hB9.2.2
    rw [ht] at hz8
    have hz9 : H.size ≤ s.heap.size + 0 := by rw [hz8]; exact hz0
    refine W.tight (cells2 := 0) (slots2 := 0) hz9 (nS_0 hz9) ?_
    clear hz8 hz9
    have p8 := cj_4_3 (WJ hJ aJ kJ hT hM hL (.ref dF_tree) iJ_used_j2 iJ_depth_j2 jJ_ownName gJ_binder_j2 iJ_binders_j2 iJ_firstSet iJ_secondSet) (WL hL aL kL hT hM (.ref dF_tree) iL_names gL_key fL_kind fL_one fL_two fL_base iL_params fL_paramOver dL_paramOver nL_params fL_paramUnder dL_paramUnder nL_pu gL_over gL_under fL_bound iL_nameAt iL_startAt iL_steps jL_scaleOver jL_scaleUnder) (WF hF aF kF dF_tree nF_tree fF_tree_j2) (WT hT aT kT fT_tape dT_tape nT_tape iT_length iT_fault_17 iT_place_17 iT_kind_17 iT_at_17 iT_number_17 jT_name_17 iT_next_17)
    obtain ⟨hP, hD⟩ := frameG p9 p8 hP hD hk1 hFc (fz_P ht hB9.1) hB9.2.1
    refine lv_aload_n hx hb dX4_summed_107 rfl (lv_at hl 4 rfl) ?_
    refine W.known (fun hz0 _ => ?_)
    have hFc := allFree hD hS hA
    refine vx_calli (vx_runV (As := []) (rest := []) ⟨hx, hb, hml, hown, hts⟩ (ih_X4_factor dC dI hJ aJ kJ hT hM hL iJ_used_j2 iJ_depth_j2 jJ_ownName gJ_binder_j2 iJ_binders_j2 iJ_firstSet iJ_secondSet aL kL iL_names gL_key fL_kind fL_one fL_two fL_base iL_params fL_paramOver dL_paramOver nL_params fL_paramUnder dL_paramUnder nL_pu gL_over gL_under fL_bound iL_nameAt iL_startAt iL_steps jL_scaleOver jL_scaleUnder hF aF kF dF_tree nF_tree fF_tree_j2 aT kT fT_tape dT_tape nT_tape iT_length iT_fault_17 iT_place_17 iT_kind_17 iT_at_17 iT_number_17 jT_name_17 iT_next_17 (lv + 1) (b_iJ_used_j2) (b_iJ_depth_j2) (b_iJ_binders_j2) (b_iJ_firstSet) (b_iJ_secondSet) (b_iL_names) b_fL_kind b_fL_two b_fL_base (b_iL_params) (by first | exact b_nL_params | with_reducible assumption | exact ⟨by omega, by omega⟩ | assumption) (by first | with_reducible assumption | omega | (rw [iI_t (by omega) (by omega)]; omega) | assumption) (by first | with_reducible assumption | omega | (rw [iI_t (by omega) (by omega)]; omega) | assumption) (by first | with_reducible assumption | omega | (rw [iI_t (by omega) (by omega)]; omega) | assumption) (by first | exact b_nF_tree | with_reducible assumption | exact ⟨by omega, by omega⟩ | assumption) b_fT_tape (by first | exact b_nT_tape | with_reducible assumption | exact ⟨by omega, by omega⟩ | assumption) (b_iT_length) (b_iT_at_17) (b_iT_number_17) (b_iT_next_17) (by first | with_reducible assumption | omega | assumption) (by first | with_reducible assumption | omega | (rw [iI_t (by omega) (by omega)]; omega) | decide | assumption) (by first | with_reducible assumption | omega | (rw [iI_t (by omega) (by omega)]; omega) | decide | assumption) (by first | with_reducible assumption | omega | (rw [iI_t (by omega) (by omega)]; omega) | decide | assumption) (by first | with_reducible assumption | omega | (rw [iI_t (by omega) (by omega)]; omega) | decide | assumption) (by first | with_reducible assumption | omega | (rw [iI_t (by omega) (by omega)]; omega) | decide | assumption) (by first | with_reducible assumption | omega | (rw [iI_t (by omega) (by omega)]; omega) | decide | assumption) (by first | with_reducible assumption | omega | (rw [iI_t (by omega) (by omega)]; omega) | decide | assumption) (by first | with_reducible assumption | omega | (rw [iI_t (by omega) (by omega)]; omega) | decide | assumption) H.size) (cwV 0 hts gwsMX4_summed_5 rfl rfl rfl (by decide +kernel) ⟨by first | decide +kernel | (dsimp only [headSpec] <;> omega), by first | decide +kernel | (dsimp only [headSpec] <;> omega)⟩) (fz_preE (va_recv hK hP (ci := 4) (q0 := 0) rfl rfl) hP hK hD (fun a U g mk qE => qE.call) (fun U hU9 hW => by rw [hU9]; exact (((hE : CE A s s.heap).kept hS.2.1).narrow (fun q h => hFc q h)).warm hW)) rfl rfl hl.1 rfl (lv_room (Nat.le_of_ble_eq_true rfl)) dX4_summed_108 ⟨by first | decide +kernel | (dsimp only [headSpec] <;> omega), by first | decide +kernel | (dsimp only [headSpec] <;> omega)⟩) hS (fun q _ h => hFc q h) hFc (fun q _ h => hFc q h) (fun E ce q9 u t9_ H locs ht hvm hw9 hB9 hz1 hk1 hS hc1 hc2 hc3 => ?_) (fun r18 u t9_ H locs ht hvm hw9 hB9 hz1 hk1 hS => ?_)
    · revert u hw9 hB9
      refine fz_p12 ?_
      intro iJ_used_18 iJ_depth_18 gJ_binder_18 iJ_binders_18 fF_tree_18 iT_fault_18 iT_place_18 iT_kind_18 iT_at_18 iT_number_18 jT_name_18 iT_next_18 hw9 hB9
      try dsimp only at hw9 hB9
      revert hB9
      refine fz_a2 ?_
      intro hEx hB9
      revert hw9
      refine fz_a6 ?_
      intro b_iJ_used_18 b_iJ_depth_18 b_iJ_binders_18 b_iT_at_18 b_iT_number_18 b_iT_next_18
      have hP : va_P (dC, dI) vwCl (WJ hJ aJ kJ hT hM hL (.ref dF_tree) iJ_used_18 iJ_depth_18 jJ_ownName gJ_binder_18 iJ_binders_18 iJ_firstSet iJ_secondSet ++ (WL hL aL kL hT hM (.ref dF_tree) iL_names gL_key fL_kind fL_one fL_two fL_base iL_params fL_paramOver dL_paramOver nL_params fL_paramUnder dL_paramUnder nL_pu gL_over gL_under fL_bound iL_nameAt iL_startAt iL_steps jL_scaleOver jL_scaleUnder ++ (WF hF aF kF dF_tree nF_tree fF_tree_18 ++ (WT hT aT kT fT_tape dT_tape nT_tape iT_length iT_fault_18 iT_place_18 iT_kind_18 iT_at_18 iT_number_18 jT_name_18 iT_next_18)))) H := fz_P ht hB9.1
      have hD := fz_sd hP (hB9.2.weaken (fun _ q _ h => hFc q.1 h)) rfl
      exact vx_out (fun x hx9 => (htab x hx9).elim) hlocks hc1 hc2 hc3 (fun t9_ ht hvm => ⟨(iJ_used_18, iJ_depth_18, gJ_binder_18, iJ_binders_18, fF_tree_18, iT_fault_18, iT_place_18, iT_kind_18, iT_at_18, iT_number_18, jT_name_18, iT_next_18), ⟨(b_iJ_used_18), (b_iJ_depth_18), (b_iJ_binders_18), (b_iT_at_18), (b_iT_number_18), (b_iT_next_18)⟩, ⟨(by have h9 := hEx; exact h9), by rw [ht]; exact hP, hD⟩, hS.F ht⟩) hS.2.2 (by decide +kernel) (by decide +kernel)
    revert u hw9 hB9
    refine fz_p12 ?_
    intro iJ_used_18 iJ_depth_18 gJ_binder_18 iJ_binders_18 fF_tree_18 iT_fault_18 iT_place_18 iT_kind_18 iT_at_18 iT_number_18 jT_name_18 iT_next_18 hw9 hB9
    try dsimp only at hw9 hB9
    revert hw9
    refine fz_a16 ?_
    intro b_iJ_used_18 b_iJ_depth_18 b_iJ_binders_18 b_iT_at_18 b_iT_number_18 b_iT_next_18 f18_0 f18_1 f18_2 f18_3 f18_4 f18_5 f18_6 f18_7 f18_8 f18_9
    have hz8 := hB9.2.2
    rw [ht] at hz8
    have hz9 : H.size ≤ s.heap.size + 0 := by rw [hz8]; exact hz0
    refine W.tight (cells2 := 0) (slots2 := 0) hz9 (nS_0 hz9) ?_
    clear hz8 hz9
    have hP : va_P (dC, dI) vwCl (WJ hJ aJ kJ hT hM hL (.ref dF_tree) iJ_used_18 iJ_depth_18 jJ_ownName gJ_binder_18 iJ_binders_18 iJ_firstSet iJ_secondSet ++ (WL hL aL kL hT hM (.ref dF_tree) iL_names gL_key fL_kind fL_one fL_two fL_base iL_params fL_paramOver dL_paramOver nL_params fL_paramUnder dL_paramUnder nL_pu gL_over gL_under fL_bound iL_nameAt iL_startAt iL_steps jL_scaleOver jL_scaleUnder ++ (WF hF aF kF dF_tree nF_tree fF_tree_18 ++ (WT hT aT kT fT_tape dT_tape nT_tape iT_length iT_fault_18 iT_place_18 iT_kind_18 iT_at_18 iT_number_18 jT_name_18 iT_next_18)))) H := fz_P ht hB9.1
    have hD := fz_sd hP (hB9.2.1.weaken (fun _ q _ h => hFc q.1 h)) rfl
    have hF3 := f18_1
    refine lv_istore hx hb dX4_summed_111 hl (by decide) rfl (fun ls (hl : lv_has ls _ ([(5, .int r18), (4, .int r4), (3, .int iJ_binders), (2, .int iT_at), (1, .int r1), (0, .ref (hJ 0))])) => ?_)
    refine lv_aload_n hx hb dX4_summed_113 rfl (lv_at hl 5 rfl) ?_
    refine va_get (D := (dC, dI)) (ci := 4) (v := .ref dF_tree) (C := RX4) (T := TX4) (N := 11) hx hb hts iwsMX4_summed_in4 hown hK hP 0 rfl rfl 3 (by decide) (hts _ hm_m_X4_summed_2) (fun _ h9 => h9) rfl dX4_summed_114 ?_
    refine lv_iload_n hx hb dX4_summed_117 rfl (lv_at hl 4 rfl) ?_
    refine lv_iconst (v := 5) hx hb dX4_summed_118 (by decide) ?_
    refine lv_iadd hx hb dX4_summed_119 ?_
    refine lv_topi (fun y19 hy19 => ?_)
    obtain rfl : (iI (r1.toInt + 5)) = y19 := (hy19.trans (iI_add2 (iI_of _) (by decide : (5 : Int32) = iI 5))).symm
    refine lv_iload hx hb dX4_summed_120 (lv_at hl 0 rfl) ?_
    refine va_iast (cA := kF 0) (n := nF_tree) (f := fF_tree_18) hx hb hK hP hD hS 13 11 rfl rfl (vp_iI (by omega) (by omega) (by omega)) dX4_summed_122 (fun H locs hP hD hS => ?_)
    obtain ⟨u20, hu20⟩ : ∃ f9, f9 = upd fF_tree_18 ((iI (r1.toInt + 5))).toNatClampNeg r18 := ⟨_, rfl⟩
    have hP : va_P (dC, dI) vwCl (WJ hJ aJ kJ hT hM hL (.ref dF_tree) iJ_used_18 iJ_depth_18 jJ_ownName gJ_binder_18 iJ_binders_18 iJ_firstSet iJ_secondSet ++ (WL hL aL kL hT hM (.ref dF_tree) iL_names gL_key fL_kind fL_one fL_two fL_base iL_params fL_paramOver dL_paramOver nL_params fL_paramUnder dL_paramUnder nL_pu gL_over gL_under fL_bound iL_nameAt iL_startAt iL_steps jL_scaleOver jL_scaleUnder ++ (WF hF aF kF dF_tree nF_tree u20 ++ (WT hT aT kT fT_tape dT_tape nT_tape iT_length iT_fault_18 iT_place_18 iT_kind_18 iT_at_18 iT_number_18 jT_name_18 iT_next_18)))) H := by rw [hu20]; exact hP
    have hD : va_D A (WJ hJ aJ kJ hT hM hL (.ref dF_tree) iJ_used_18 iJ_depth_18 jJ_ownName gJ_binder_18 iJ_binders_18 iJ_firstSet iJ_secondSet ++ (WL hL aL kL hT hM (.ref dF_tree) iL_names gL_key fL_kind fL_one fL_two fL_base iL_params fL_paramOver dL_paramOver nL_params fL_paramUnder dL_paramUnder nL_pu gL_over gL_under fL_bound iL_nameAt iL_startAt iL_steps jL_scaleOver jL_scaleUnder ++ (WF hF aF kF dF_tree nF_tree u20 ++ (WT hT aT kT fT_tape dT_tape nT_tape iT_length iT_fault_18 iT_place_18 iT_kind_18 iT_at_18 iT_number_18 jT_name_18 iT_next_18)))) := by rw [hu20]; exact hD
    have b_u20 : WrL fF_tree_18 u20 (r1.toInt + 5) r18.toInt := by rw [hu20]; exact WrL.ofx rfl (by omega) (by omega)
    clear hu20
    refine lv_aload_n hx hb dX4_summed_123 rfl (lv_at hl 5 rfl) ?_
    refine lv_iload_n hx hb dX4_summed_124 rfl (lv_at hl 2 rfl) ?_
    refine va_put (D := (dC, dI)) (ci := 4) (v := .int iJ_binders) (ty := .int) (C := RX4) (T := TX4) (N := 11) hx hb hts iwsMX4_summed_in4 tyX4 tyX4_ok nmX4 hown hK hP hD hS 0 rfl rfl 8 (by decide) (hts _ hm_m_X4_summed_1) (fun _ h9 => h9) rfl (by decide +kernel) rfl rfl (Nat.le_of_ble_eq_true rfl) dX4_summed_125 (fun H locs hP hD hS => ?_)
    have hP : va_P (dC, dI) vwCl (WJ hJ aJ kJ hT hM hL (.ref dF_tree) iJ_used_18 iJ_depth_18 jJ_ownName gJ_binder_18 iJ_binders iJ_firstSet iJ_secondSet ++ (WL hL aL kL hT hM (.ref dF_tree) iL_names gL_key fL_kind fL_one fL_two fL_base iL_params fL_paramOver dL_paramOver nL_params fL_paramUnder dL_paramUnder nL_pu gL_over gL_under fL_bound iL_nameAt iL_startAt iL_steps jL_scaleOver jL_scaleUnder ++ (WF hF aF kF dF_tree nF_tree u20 ++ (WT hT aT kT fT_tape dT_tape nT_tape iT_length iT_fault_18 iT_place_18 iT_kind_18 iT_at_18 iT_number_18 jT_name_18 iT_next_18)))) H := hP
    have hD := fz_sd hP (hD) rfl
    refine lv_iload_n hx hb dX4_summed_128 rfl (lv_at hl 4 rfl) ?_
    refine vx_ret ?_
    refine W.known (fun hz9 _ => ?_)
    refine W.widen (k := 1) (n := 6) (by decide +kernel) (by decide +kernel) ?_
    exact W.iret (v := r1) hx hb hr (fun t9_ ht hW => ⟨⟨r1, (iJ_used_18, iJ_depth_18, gJ_binder_18, iJ_binders, u20, iT_fault_18, iT_place_18, iT_kind_18, iT_at_18, iT_number_18, jT_name_18, iT_next_18), rfl, ⟨b_iJ_used_18, b_iJ_depth_18, b_iJ_binders, b_iT_at_18, b_iT_number_18, b_iT_next_18, (by (try dsimp only); first | done | assumption | omega | (rw [iI_t (by omega) (by omega)]; omega)), (by (try dsimp only); exact (SmL.fin hSm (by omega) hF3 b_u20 (by omega) (by omega))), (by (try dsimp only); first | done | assumption | omega | (rw [iI_t (by omega) (by omega)]; omega)), (by (try dsimp only); first | done | assumption | omega | (rw [iI_t (by omega) (by omega)]; omega)), (by (try dsimp only); first | done | assumption | omega | (rw [iI_t (by omega) (by omega)]; omega)), (by (try dsimp only); first | done | assumption | omega | (rw [iI_t (by omega) (by omega)]; omega)), (by (try dsimp only); omega), (by (try dsimp only); first | done | assumption | omega | (rw [iI_t (by omega) (by omega)]; omega)), (by (try dsimp only); first | done | assumption | omega | (rw [iI_t (by omega) (by omega)]; omega)), (by (try dsimp only); first | done | assumption | omega | (rw [iI_t (by omega) (by omega)]; omega))⟩, by rw [ht]; exact hP, hD, by rw [ht]; first | done | exact Nat.le_antisymm hz9 hS.1⟩, hS.F ht⟩) hS.2.2 dX4_summed_129
theorem dX4_anyOf_0 : decode cX4_anyOf 0 = .ok (.aload_n 0, 1) := dk_42 (by decide +kernel)
theorem dX4_anyOf_1 : decode cX4_anyOf 1 = .ok (.iconst 1, 1) := dk_4 (by decide +kernel)
theorem dX4_anyOf_2 : decode cX4_anyOf 2 = .ok (.invokevirtual 233, 3) := dk_182 (by decide +kernel)
theorem dX4_anyOf_5 : decode cX4_anyOf 5 = .ok (.aload_n 0, 1) := dk_42 (by decide +kernel)
theorem dX4_anyOf_6 : decode cX4_anyOf 6 = .ok (.bipush 10, 2) := dk_16 (by decide +kernel)
theorem dX4_anyOf_8 : decode cX4_anyOf 8 = .ok (.invokevirtual 217, 3) := dk_182 (by decide +kernel)
theorem dX4_anyOf_11 : decode cX4_anyOf 11 = .ok (.istore_n 1, 1) := dk_60 (by decide +kernel)
theorem dX4_anyOf_12 : decode cX4_anyOf 12 = .ok (.aload_n 0, 1) := dk_42 (by decide +kernel)
theorem dX4_anyOf_13 : decode cX4_anyOf 13 = .ok (.invokevirtual 252, 3) := dk_182 (by decide +kernel)
theorem dX4_anyOf_16 : decode cX4_anyOf 16 = .ok (.istore_n 2, 1) := dk_61 (by decide +kernel)
theorem dX4_anyOf_17 : decode cX4_anyOf 17 = .ok (.aload_n 0, 1) := dk_42 (by decide +kernel)
theorem dX4_anyOf_18 : decode cX4_anyOf 18 = .ok (.getfield 11, 3) := dk_180 (by decide +kernel)
theorem dX4_anyOf_21 : decode cX4_anyOf 21 = .ok (.iload_n 1, 1) := dk_27 (by decide +kernel)
theorem dX4_anyOf_22 : decode cX4_anyOf 22 = .ok (.iconst 3, 1) := dk_6 (by decide +kernel)
theorem dX4_anyOf_23 : decode cX4_anyOf 23 = .ok (.iadd, 1) := dk_96 (by decide +kernel)
theorem dX4_anyOf_24 : decode cX4_anyOf 24 = .ok (.iload_n 2, 1) := dk_28 (by decide +kernel)
theorem dX4_anyOf_25 : decode cX4_anyOf 25 = .ok (.iastore, 1) := dk_79 (by decide +kernel)
theorem dX4_anyOf_26 : decode cX4_anyOf 26 = .ok (.iconst 0, 1) := dk_3 (by decide +kernel)
theorem dX4_anyOf_27 : decode cX4_anyOf 27 = .ok (.istore_n 3, 1) := dk_62 (by decide +kernel)
theorem dX4_anyOf_28 : decode cX4_anyOf 28 = .ok (.iload_n 3, 1) := dk_29 (by decide +kernel)
theorem dX4_anyOf_29 : decode cX4_anyOf 29 = .ok (.sipush 4000, 3) := dk_17 (by decide +kernel)
theorem dX4_anyOf_32 : decode cX4_anyOf 32 = .ok (.if_icmp .ge 49, 3) := dk_162 (by decide +kernel)
theorem dX4_anyOf_35 : decode cX4_anyOf 35 = .ok (.aload_n 0, 1) := dk_42 (by decide +kernel)
theorem dX4_anyOf_36 : decode cX4_anyOf 36 = .ok (.getfield 19, 3) := dk_180 (by decide +kernel)
theorem dX4_anyOf_39 : decode cX4_anyOf 39 = .ok (.getfield 51, 3) := dk_180 (by decide +kernel)
theorem dX4_anyOf_42 : decode cX4_anyOf 42 = .ok (.sipush 263, 3) := dk_17 (by decide +kernel)
theorem dX4_anyOf_45 : decode cX4_anyOf 45 = .ok (.if_icmp .ne 36, 3) := dk_160 (by decide +kernel)
theorem dX4_anyOf_48 : decode cX4_anyOf 48 = .ok (.aload_n 0, 1) := dk_42 (by decide +kernel)
theorem dX4_anyOf_49 : decode cX4_anyOf 49 = .ok (.getfield 19, 3) := dk_180 (by decide +kernel)
theorem dX4_anyOf_52 : decode cX4_anyOf 52 = .ok (.invokevirtual 119, 3) := dk_182 (by decide +kernel)
theorem dX4_anyOf_55 : decode cX4_anyOf 55 = .ok (.aload_n 0, 1) := dk_42 (by decide +kernel)
theorem dX4_anyOf_56 : decode cX4_anyOf 56 = .ok (.invokevirtual 252, 3) := dk_182 (by decide +kernel)
theorem dX4_anyOf_59 : decode cX4_anyOf 59 = .ok (.istore 4, 2) := dk_54 (by decide +kernel)
theorem dX4_anyOf_61 : decode cX4_anyOf 61 = .ok (.aload_n 0, 1) := dk_42 (by decide +kernel)
theorem dX4_anyOf_62 : decode cX4_anyOf 62 = .ok (.getfield 11, 3) := dk_180 (by decide +kernel)
theorem dX4_anyOf_65 : decode cX4_anyOf 65 = .ok (.iload_n 2, 1) := dk_28 (by decide +kernel)
theorem dX4_anyOf_66 : decode cX4_anyOf 66 = .ok (.bipush 6, 2) := dk_16 (by decide +kernel)
theorem dX4_anyOf_68 : decode cX4_anyOf 68 = .ok (.iadd, 1) := dk_96 (by decide +kernel)
theorem dX4_anyOf_69 : decode cX4_anyOf 69 = .ok (.iload 4, 2) := dk_21 (by decide +kernel)
theorem dX4_anyOf_71 : decode cX4_anyOf 71 = .ok (.iastore, 1) := dk_79 (by decide +kernel)
theorem dX4_anyOf_72 : decode cX4_anyOf 72 = .ok (.iload 4, 2) := dk_21 (by decide +kernel)
theorem dX4_anyOf_74 : decode cX4_anyOf 74 = .ok (.istore_n 2, 1) := dk_61 (by decide +kernel)
theorem dX4_anyOf_75 : decode cX4_anyOf 75 = .ok (.iinc 3 1, 3) := dk_132 (by decide +kernel)
theorem dX4_anyOf_78 : decode cX4_anyOf 78 = .ok (.goto (-50), 3) := dk_167 (by decide +kernel)
theorem dX4_anyOf_81 : decode cX4_anyOf 81 = .ok (.aload_n 0, 1) := dk_42 (by decide +kernel)
theorem dX4_anyOf_82 : decode cX4_anyOf 82 = .ok (.dup, 1) := dk_89 (by decide +kernel)
theorem dX4_anyOf_83 : decode cX4_anyOf 83 = .ok (.getfield 57, 3) := dk_180 (by decide +kernel)
theorem dX4_anyOf_86 : decode cX4_anyOf 86 = .ok (.iconst 1, 1) := dk_4 (by decide +kernel)
theorem dX4_anyOf_87 : decode cX4_anyOf 87 = .ok (.isub, 1) := dk_100 (by decide +kernel)
theorem dX4_anyOf_88 : decode cX4_anyOf 88 = .ok (.putfield 57, 3) := dk_181 (by decide +kernel)
theorem dX4_anyOf_91 : decode cX4_anyOf 91 = .ok (.iload_n 1, 1) := dk_27 (by decide +kernel)
theorem dX4_anyOf_92 : decode cX4_anyOf 92 = .ok (.ireturn, 1) := dk_172 (by decide +kernel)
theorem iwsMX4_anyOf_in4 : ∀ w ∈ wsX40, w ∈ wsMX4_anyOf := fun w h => List.mem_cons_of_mem _ (iwsGR_in4 w h)
theorem iwsMX4_anyOf_in9 : ∀ w ∈ wsX90, w ∈ wsMX4_anyOf := fun w h => List.mem_cons_of_mem _ (iwsGR_in9 w h)
theorem gwsMX4_anyOf_0 : GoodIn wsMX4_anyOf (wsV RX4 233 RX4 yX4_deeper wsMX4_deeper) := goodIn_sub (fun w h => List.mem_cons_of_mem _ (gwsGR_0 w h)) (gdV (by decide +kernel) gdwsMX4_deeper)
theorem gwsMX4_anyOf_1 : GoodIn wsMX4_anyOf (wsV RX4 217 RX4 yX4_node wsMX4_node) := goodIn_sub (fun w h => List.mem_cons_of_mem _ (gwsGR_1 w h)) (gdV (by decide +kernel) gdwsMX4_node)
theorem gwsMX4_anyOf_2 : GoodIn wsMX4_anyOf (wsV RX4 252 RX4 yX4_allOf wsMX4_allOf) := goodIn_rec (hd := [.methodLink RX4 252 yX4_allOf, .instanceMethod yX4_allOf, .selects RX4 yX4_allOf yX4_allOf, .initialized RX4]) (by decide +kernel) (by decide +kernel) gdwsGR
theorem gwsMX4_anyOf_3 : GoodIn wsMX4_anyOf (wsV RX4 119 RX9 yX9_advance wsMX9_advance) := goodIn_sub (fun w h => List.mem_cons_of_mem _ (gwsGR_2 w h)) (gdV (by decide +kernel) gdwsMX9_advance)
theorem hm_m_X4_anyOf_0 : (.fieldLink RX4 11 "OptimaWorks$Reader" "tree" "[I" : Cond) ∈ wsMX4_anyOf := by decide +kernel
theorem hm_m_X4_anyOf_1 : (.fieldLink RX4 19 "OptimaWorks$Reader" "words" "LOptimaWorks$Words;" : Cond) ∈ wsMX4_anyOf := by decide +kernel
theorem hm_m_X4_anyOf_2 : (.fieldLink RX4 57 "OptimaWorks$Reader" "depth" "I" : Cond) ∈ wsMX4_anyOf := by decide +kernel
set_option maxHeartbeats 4000000 in
set_option maxRecDepth 100000 in
/-- truths read -/
theorem m_X4_anyOf (l : Launch) (hst : l.stackTraces = false) (ev : Nat) (ih_X4_allOf : Cm_X4_allOf l (ev + 1)) : Cm_X4_anyOf l (ev + 1) := by
  intro dC dI hJ aJ kJ hT hM hL iJ_used iJ_depth jJ_ownName gJ_binder iJ_binders iJ_firstSet iJ_secondSet aL kL iL_names gL_key fL_kind fL_one fL_two fL_base iL_params fL_paramOver dL_paramOver nL_params fL_paramUnder dL_paramUnder nL_pu gL_over gL_under fL_bound iL_nameAt iL_startAt iL_steps jL_scaleOver jL_scaleUnder hF aF kF dF_tree nF_tree fF_tree aT kT fT_tape dT_tape nT_tape iT_length iT_fault iT_place iT_kind iT_at iT_number jT_name iT_next lv b_iJ_used b_iJ_depth b_iJ_binders b_iJ_firstSet b_iJ_secondSet b_iL_names b_fL_kind b_fL_two b_fL_base b_iL_params b_nL_params b_nm b_pm b_pu b_nF_tree b_fT_tape b_nT_tape b_iT_length b_iT_at b_iT_number b_iT_next b_len hu1 hu2 hu7 hp1 hp2 hp3 hlv hdp sz
  refine vx_ofW (cc := cX4_anyOf) (maxL := 5) (ret := (some .int)) (by decide) rfl ?_
  intro p e s m args below meth c s₁ B hml htab hv
  obtain ⟨rfl, hsz, hP, hK, hD0, hE⟩ := hv
  have hx := B.exec
  have hb := B.bytes
  have hr := B.returns
  have hts := atoms_spec (ws := wsMX4_anyOf) B.pre
  have hown : s.vm.findClass RX4 = some m.cls := findClass_of_methodNamed B.named
  have hlocks := B.notSynchronized
  subst hsz
  have hD := hD0.self (sz := s.heap.size)
  generalize hAe : va_A (WJ hJ aJ kJ hT hM hL (.ref dF_tree) iJ_used iJ_depth jJ_ownName gJ_binder iJ_binders iJ_firstSet iJ_secondSet ++ (WL hL aL kL hT hM (.ref dF_tree) iL_names gL_key fL_kind fL_one fL_two fL_base iL_params fL_paramOver dL_paramOver nL_params fL_paramUnder dL_paramUnder nL_pu gL_over gL_under fL_bound iL_nameAt iL_startAt iL_steps jL_scaleOver jL_scaleUnder ++ (WF hF aF kF dF_tree nF_tree fF_tree ++ (WT hT aT kT fT_tape dT_tape nT_tape iT_length iT_fault iT_place iT_kind iT_at iT_number jT_name iT_next)))) s.heap.size = A at hD hE ⊢
  have hA : ∀ q : Nat, s.heap.size ≤ q → A q := fun q h => by rw [← hAe]; exact Or.inr h
  have hS : va_S A s.heap s.heap [] := va_S.rf
  have hl := lv_entry ([.ref (hJ 0)]) (n := 5) (Nat.le_of_ble_eq_true rfl)
  rw [lg_entry_eq]
  generalize (lg_sl ([.ref (hJ 0)]) ++ List.replicate (5 - (lg_sl ([.ref (hJ 0)])).length) Slot.unset).toArray = ls at hl ⊢
  have hl : lv_has ls 5 [(0, .ref (hJ 0))] := hl
  refine lv_aload_n hx hb dX4_anyOf_0 rfl (lv_at hl 0 rfl) ?_
  refine lv_iconst (v := 1) hx hb dX4_anyOf_1 (by decide) ?_
  refine W.known (fun hz0 _ => ?_)
  have p9 := cj_4_0_1_3 (WJ hJ aJ kJ hT hM hL (.ref dF_tree) iJ_used iJ_depth jJ_ownName gJ_binder iJ_binders iJ_firstSet iJ_secondSet) (WL hL aL kL hT hM (.ref dF_tree) iL_names gL_key fL_kind fL_one fL_two fL_base iL_params fL_paramOver dL_paramOver nL_params fL_paramUnder dL_paramUnder nL_pu gL_over gL_under fL_bound iL_nameAt iL_startAt iL_steps jL_scaleOver jL_scaleUnder) (WF hF aF kF dF_tree nF_tree fF_tree) (WT hT aT kT fT_tape dT_tape nT_tape iT_length iT_fault iT_place iT_kind iT_at iT_number jT_name iT_next)
  have hPc := hP.mem (fun q h => p9.mem_iff.mpr (List.mem_append_left _ h))
  have hDc := (hD.perm p9).left
  have hKc : va_K (dC, dI) vwCl (tJ kJ ++ (tL kL ++ (tT kT))) _ := hK.sub [0, 1, 2, 3, 4, 5, 6, 7, 8, 9, 10, 12] rfl
  have hFc := freeG p9 hD hS hA
  refine vx_callv (vx_runV (As := [.int 1]) (rest := []) ⟨hx, hb, hml, hown, hts⟩ (m_X4_deeper l hst dC dI hJ aJ kJ hT hM hL (.ref dF_tree) iJ_used iJ_depth jJ_ownName gJ_binder iJ_binders iJ_firstSet iJ_secondSet aL kL (.ref dF_tree) iL_names gL_key fL_kind fL_one fL_two fL_base iL_params fL_paramOver dL_paramOver nL_params fL_paramUnder dL_paramUnder nL_pu gL_over gL_under fL_bound iL_nameAt iL_startAt iL_steps jL_scaleOver jL_scaleUnder aT kT fT_tape dT_tape nT_tape iT_length iT_fault iT_place iT_kind iT_at iT_number jT_name iT_next 1 (b_iJ_used) (b_iJ_depth) (b_iJ_binders) (b_iJ_firstSet) (b_iJ_secondSet) (b_iL_names) b_fL_kind b_fL_two b_fL_base (b_iL_params) (by first | exact b_nL_params | with_reducible assumption | exact ⟨by omega, by omega⟩ | assumption) (by first | with_reducible assumption | omega | (rw [iI_t (by omega) (by omega)]; omega) | assumption) (by first | with_reducible assumption | omega | (rw [iI_t (by omega) (by omega)]; omega) | assumption) (by first | with_reducible assumption | omega | (rw [iI_t (by omega) (by omega)]; omega) | assumption) b_fT_tape (by first | exact b_nT_tape | with_reducible assumption | exact ⟨by omega, by omega⟩ | assumption) (b_iT_length) (b_iT_at) (b_iT_number) (b_iT_next) (by first | with_reducible assumption | omega | assumption) s.heap.size) (cwV 1 hts gwsMX4_anyOf_0 rfl rfl rfl (by decide +kernel) ⟨by first | decide +kernel | (dsimp only [headSpec] <;> omega), by first | decide +kernel | (dsimp only [headSpec] <;> omega)⟩) (fz_preE (va_recv hK hP (ci := 4) (q0 := 0) rfl rfl) hPc hKc hDc (fun a U g mk qE => qE.call) (fun U hU9 hW => by rw [hU9]; exact (((hE : CE A s s.heap).kept hS.2.1).narrow (fun q h => hFc q h)).warm hW)) rfl rfl hl.1 rfl (lv_room (Nat.le_of_ble_eq_true rfl)) dX4_anyOf_2 ⟨by first | decide +kernel | (dsimp only [headSpec] <;> omega), by first | decide +kernel | (dsimp only [headSpec] <;> omega)⟩) hS (fun q _ h => hFc q h) hFc (fun q _ h => hFc q h) (fun E ce q9 u t9_ H locs ht hvm hw9 hB9 hz1 hk1 hS hc1 hc2 hc3 => ?_) (fun u t9_ H locs ht hvm hw9 hB9 hz1 hk1 hS => ?_)
  · revert u hw9 hB9
    refine fz_p3 ?_
    intro iJ_depth_1 iT_fault_1 iT_place_1 hw9 hB9
    try dsimp only at hw9 hB9
    revert hB9
    refine fz_a2 ?_
    intro hEx hB9
    have b_iJ_depth_1 := hw9
    try dsimp only at b_iJ_depth_1
    have p8 := cj_4_0_1_3 (WJ hJ aJ kJ hT hM hL (.ref dF_tree) iJ_used iJ_depth_1 jJ_ownName gJ_binder iJ_binders iJ_firstSet iJ_secondSet) (WL hL aL kL hT hM (.ref dF_tree) iL_names gL_key fL_kind fL_one fL_two fL_base iL_params fL_paramOver dL_paramOver nL_params fL_paramUnder dL_paramUnder nL_pu gL_over gL_under fL_bound iL_nameAt iL_startAt iL_steps jL_scaleOver jL_scaleUnder) (WF hF aF kF dF_tree nF_tree fF_tree) (WT hT aT kT fT_tape dT_tape nT_tape iT_length iT_fault_1 iT_place_1 iT_kind iT_at iT_number jT_name iT_next)
    obtain ⟨hP, hD⟩ := frameG p9 p8 hP hD hk1 hFc (fz_P ht hB9.1) hB9.2
    exact vx_out (fun x hx9 => (htab x hx9).elim) hlocks hc1 hc2 hc3 (fun t9_ ht hvm => ⟨(iJ_used, iJ_depth_1, gJ_binder, iJ_binders, fF_tree, iT_fault_1, iT_place_1, iT_kind, iT_at, iT_number, jT_name, iT_next), ⟨(b_iJ_used), (by (try dsimp only); exact (by first | exact b_iJ_depth_1 | with_reducible assumption | exact ⟨by omega, by omega⟩ | assumption)), (b_iJ_binders), (b_iT_at), (b_iT_number), (b_iT_next)⟩, ⟨(by have h9 := hEx; exact h9), by rw [ht]; exact hP, hD⟩, hS.F ht⟩) hS.2.2 (by decide +kernel) (by decide +kernel)
  revert u hw9 hB9
  refine fz_p3 ?_
  intro iJ_depth_1 iT_fault_1 iT_place_1 hw9 hB9
  try dsimp only at hw9 hB9
  revert hw9
  refine fz_a2 ?_
  intro b_iJ_depth_1 f1_0
  have hz8 := hB9.2.2
  rw [ht] at hz8
  have hz9 : H.size ≤ s.heap.size + 0 := by rw [hz8]; exact hz0
  refine W.tight (cells2 := 0) (slots2 := 0) hz9 (nS_0 hz9) ?_
  clear hz8 hz9
  have p8 := cj_4_0_1_3 (WJ hJ aJ kJ hT hM hL (.ref dF_tree) iJ_used iJ_depth_1 jJ_ownName gJ_binder iJ_binders iJ_firstSet iJ_secondSet) (WL hL aL kL hT hM (.ref dF_tree) iL_names gL_key fL_kind fL_one fL_two fL_base iL_params fL_paramOver dL_paramOver nL_params fL_paramUnder dL_paramUnder nL_pu gL_over gL_under fL_bound iL_nameAt iL_startAt iL_steps jL_scaleOver jL_scaleUnder) (WF hF aF kF dF_tree nF_tree fF_tree) (WT hT aT kT fT_tape dT_tape nT_tape iT_length iT_fault_1 iT_place_1 iT_kind iT_at iT_number jT_name iT_next)
  obtain ⟨hP, hD⟩ := frameG p9 p8 hP hD hk1 hFc (fz_P ht hB9.1) hB9.2.1
  refine lv_aload_n hx hb dX4_anyOf_5 rfl (lv_at hl 0 rfl) ?_
  refine lv_bipush (v := 10) hx hb dX4_anyOf_6 (by decide) ?_
  refine W.known (fun hz0 _ => ?_)
  have p9 := cj_4_0_2_3 (WJ hJ aJ kJ hT hM hL (.ref dF_tree) iJ_used iJ_depth_1 jJ_ownName gJ_binder iJ_binders iJ_firstSet iJ_secondSet) (WL hL aL kL hT hM (.ref dF_tree) iL_names gL_key fL_kind fL_one fL_two fL_base iL_params fL_paramOver dL_paramOver nL_params fL_paramUnder dL_paramUnder nL_pu gL_over gL_under fL_bound iL_nameAt iL_startAt iL_steps jL_scaleOver jL_scaleUnder) (WF hF aF kF dF_tree nF_tree fF_tree) (WT hT aT kT fT_tape dT_tape nT_tape iT_length iT_fault_1 iT_place_1 iT_kind iT_at iT_number jT_name iT_next)
  have hPc := hP.mem (fun q h => p9.mem_iff.mpr (List.mem_append_left _ h))
  have hDc := (hD.perm p9).left
  have hKc : va_K (dC, dI) vwCl (tJ kJ ++ (tF kF ++ (tT kT))) _ := hK.sub [0, 11, 12] rfl
  have hFc := freeG p9 hD hS hA
  refine vx_calli (vx_runV (As := [.int 10]) (rest := []) ⟨hx, hb, hml, hown, hts⟩ (m_X4_node l hst dC dI hJ aJ kJ hT hM hL iJ_used iJ_depth_1 jJ_ownName gJ_binder iJ_binders iJ_firstSet iJ_secondSet hF aF kF dF_tree nF_tree fF_tree aT kT fT_tape dT_tape nT_tape iT_length iT_fault_1 iT_place_1 iT_kind iT_at iT_number jT_name iT_next 10 (b_iJ_used) (b_iJ_depth_1) (b_iJ_binders) (b_iJ_firstSet) (b_iJ_secondSet) (by first | exact b_nF_tree | with_reducible assumption | exact ⟨by omega, by omega⟩ | assumption) b_fT_tape (by first | exact b_nT_tape | with_reducible assumption | exact ⟨by omega, by omega⟩ | assumption) (b_iT_length) (b_iT_at) (b_iT_number) (b_iT_next) (by first | with_reducible assumption | omega | assumption) (by first | with_reducible assumption | omega | (rw [iI_t (by omega) (by omega)]; omega) | decide | assumption) (by first | with_reducible assumption | omega | (rw [iI_t (by omega) (by omega)]; omega) | decide | assumption) (by first | with_reducible assumption | omega | (rw [iI_t (by omega) (by omega)]; omega) | decide | assumption) H.size) (cwV 1 hts gwsMX4_anyOf_1 rfl rfl rfl (by decide +kernel) ⟨by first | decide +kernel | (dsimp only [headSpec] <;> omega), by first | decide +kernel | (dsimp only [headSpec] <;> omega)⟩) (fz_preE (va_recv hK hP (ci := 4) (q0 := 0) rfl rfl) hPc hKc hDc (fun a U g mk qE => qE.call) (fun U hU9 hW => by rw [hU9]; exact (((hE : CE A s s.heap).kept hS.2.1).narrow (fun q h => hFc q h)).warm hW)) rfl rfl hl.1 rfl (lv_room (Nat.le_of_ble_eq_true rfl)) dX4_anyOf_8 ⟨by first | decide +kernel | (dsimp only [headSpec] <;> omega), by first | decide +kernel | (dsimp only [headSpec] <;> omega)⟩) hS (fun q _ h => hFc q h) hFc (fun q _ h => hFc q h) (fun E ce q9 u t9_ H locs ht hvm hw9 hB9 hz1 hk1 hS hc1 hc2 hc3 => ?_) (fun r2 u t9_ H locs ht hvm hw9 hB9 hz1 hk1 hS => ?_)
  · revert u hw9 hB9
    refine fz_p4 ?_
    intro iJ_used_2 fF_tree_2 iT_fault_2 iT_place_2 hw9 hB9
    try dsimp only at hw9 hB9
    revert hB9
    refine fz_a2 ?_
    intro hEx hB9
    have b_iJ_used_2 := hw9
    try dsimp only at b_iJ_used_2
    have p8 := cj_4_0_2_3 (WJ hJ aJ kJ hT hM hL (.ref dF_tree) iJ_used_2 iJ_depth_1 jJ_ownName gJ_binder iJ_binders iJ_firstSet iJ_secondSet) (WL hL aL kL hT hM (.ref dF_tree) iL_names gL_key fL_kind fL_one fL_two fL_base iL_params fL_paramOver dL_paramOver nL_params fL_paramUnder dL_paramUnder nL_pu gL_over gL_under fL_bound iL_nameAt iL_startAt iL_steps jL_scaleOver jL_scaleUnder) (WF hF aF kF dF_tree nF_tree fF_tree_2) (WT hT aT kT fT_tape dT_tape nT_tape iT_length iT_fault_2 iT_place_2 iT_kind iT_at iT_number jT_name iT_next)
    obtain ⟨hP, hD⟩ := frameG p9 p8 hP hD hk1 hFc (fz_P ht hB9.1) hB9.2
    exact vx_out (fun x hx9 => (htab x hx9).elim) hlocks hc1 hc2 hc3 (fun t9_ ht hvm => ⟨(iJ_used_2, iJ_depth_1, gJ_binder, iJ_binders, fF_tree_2, iT_fault_2, iT_place_2, iT_kind, iT_at, iT_number, jT_name, iT_next), ⟨(by (try dsimp only); exact (by first | exact b_iJ_used_2 | with_reducible assumption | exact ⟨by omega, by omega⟩ | assumption)), (b_iJ_depth_1), (b_iJ_binders), (b_iT_at), (b_iT_number), (b_iT_next)⟩, ⟨(by have h9 := hEx; exact h9), by rw [ht]; exact hP, hD⟩, hS.F ht⟩) hS.2.2 (by decide +kernel) (by decide +kernel)
  revert u hw9 hB9
  refine fz_p4 ?_
  intro iJ_used_2 fF_tree_2 iT_fault_2 iT_place_2 hw9 hB9
  try dsimp only at hw9 hB9
  revert hw9
  refine fz_a5 ?_
  intro b_iJ_used_2 f2_0 f2_1 f2_2 f2_3
  have hz8 := hB9.2.2
  rw [ht] at hz8
  have hz9 : H.size ≤ s.heap.size + 0 := by rw [hz8]; exact hz0
  refine W.tight (cells2 := 0) (slots2 := 0) hz9 (nS_0 hz9) ?_
  clear hz8 hz9
  have p8 := cj_4_0_2_3 (WJ hJ aJ kJ hT hM hL (.ref dF_tree) iJ_used_2 iJ_depth_1 jJ_ownName gJ_binder iJ_binders iJ_firstSet iJ_secondSet) (WL hL aL kL hT hM (.ref dF_tree) iL_names gL_key fL_kind fL_one fL_two fL_base iL_params fL_paramOver dL_paramOver nL_params fL_paramUnder dL_paramUnder nL_pu gL_over gL_under fL_bound iL_nameAt iL_startAt iL_steps jL_scaleOver jL_scaleUnder) (WF hF aF kF dF_tree nF_tree fF_tree_2) (WT hT aT kT fT_tape dT_tape nT_tape iT_length iT_fault_2 iT_place_2 iT_kind iT_at iT_number jT_name iT_next)
  obtain ⟨hP, hD⟩ := frameG p9 p8 hP hD hk1 hFc (fz_P ht hB9.1) hB9.2.1
  have hNw := f2_3
  refine lv_istore_n hx hb dX4_anyOf_11 rfl hl (by decide) rfl (fun ls (hl : lv_has ls _ ([(1, .int r2), (0, .ref (hJ 0))])) => ?_)
  refine lv_aload_n hx hb dX4_anyOf_12 rfl (lv_at hl 1 rfl) ?_
  refine W.known (fun hz0 _ => ?_)
  have hFc := allFree hD hS hA
  refine vx_calli (vx_runV (As := []) (rest := []) ⟨hx, hb, hml, hown, hts⟩ (ih_X4_allOf dC dI hJ aJ kJ hT hM hL iJ_used_2 iJ_depth_1 jJ_ownName gJ_binder iJ_binders iJ_firstSet iJ_secondSet aL kL iL_names gL_key fL_kind fL_one fL_two fL_base iL_params fL_paramOver dL_paramOver nL_params fL_paramUnder dL_paramUnder nL_pu gL_over gL_under fL_bound iL_nameAt iL_startAt iL_steps jL_scaleOver jL_scaleUnder hF aF kF dF_tree nF_tree fF_tree_2 aT kT fT_tape dT_tape nT_tape iT_length iT_fault_2 iT_place_2 iT_kind iT_at iT_number jT_name iT_next lv (b_iJ_used_2) (b_iJ_depth_1) (b_iJ_binders) (b_iJ_firstSet) (b_iJ_secondSet) (b_iL_names) b_fL_kind b_fL_two b_fL_base (b_iL_params) (by first | exact b_nL_params | with_reducible assumption | exact ⟨by omega, by omega⟩ | assumption) (by first | with_reducible assumption | omega | (rw [iI_t (by omega) (by omega)]; omega) | assumption) (by first | with_reducible assumption | omega | (rw [iI_t (by omega) (by omega)]; omega) | assumption) (by first | with_reducible assumption | omega | (rw [iI_t (by omega) (by omega)]; omega) | assumption) (by first | exact b_nF_tree | with_reducible assumption | exact ⟨by omega, by omega⟩ | assumption) b_fT_tape (by first | exact b_nT_tape | with_reducible assumption | exact ⟨by omega, by omega⟩ | assumption) (b_iT_length) (b_iT_at) (b_iT_number) (b_iT_next) (by first | with_reducible assumption | omega | assumption) (by first | with_reducible assumption | omega | (rw [iI_t (by omega) (by omega)]; omega) | decide | assumption) (by first | with_reducible assumption | omega | (rw [iI_t (by omega) (by omega)]; omega) | decide | assumption) (by first | with_reducible assumption | omega | (rw [iI_t (by omega) (by omega)]; omega) | decide | assumption) (by first | with_reducible assumption | omega | (rw [iI_t (by omega) (by omega)]; omega) | decide | assumption) (by first | with_reducible assumption | omega | (rw [iI_t (by omega) (by omega)]; omega) | decide | assumption) (by first | with_reducible assumption | omega | (rw [iI_t (by omega) (by omega)]; omega) | decide | assumption) (by first | with_reducible assumption | omega | (rw [iI_t (by omega) (by omega)]; omega) | decide | assumption) (by first | with_reducible assumption | omega | (rw [iI_t (by omega) (by omega)]; omega) | decide | assumption) H.size) (cwV 0 hts gwsMX4_anyOf_2 rfl rfl rfl (by decide +kernel) ⟨by first | decide +kernel | (dsimp only [headSpec] <;> omega), by first | decide +kernel | (dsimp only [headSpec] <;> omega)⟩) (fz_preE (va_recv hK hP (ci := 4) (q0 := 0) rfl rfl) hP hK hD (fun a U g mk qE => qE.call) (fun U hU9 hW => by rw [hU9]; exact (((hE : CE A s s.heap).kept hS.2.1).narrow (fun q h => hFc q h)).warm hW)) rfl rfl hl.1 rfl (lv_room (Nat.le_of_ble_eq_true rfl)) dX4_anyOf_13 ⟨by first | decide +kernel | (dsimp only [headSpec] <;> omega), by first | decide +kernel | (dsimp only [headSpec] <;> omega)⟩) hS (fun q _ h => hFc q h) hFc (fun q _ h => hFc q h) (fun E ce q9 u t9_ H locs ht hvm hw9 hB9 hz1 hk1 hS hc1 hc2 hc3 => ?_) (fun r3 u t9_ H locs ht hvm hw9 hB9 hz1 hk1 hS => ?_)
  · revert u hw9 hB9
    refine fz_p12 ?_
    intro iJ_used_3 iJ_depth_3 gJ_binder_3 iJ_binders_3 fF_tree_3 iT_fault_3 iT_place_3 iT_kind_3 iT_at_3 iT_number_3 jT_name_3 iT_next_3 hw9 hB9
    try dsimp only at hw9 hB9
    revert hB9
    refine fz_a2 ?_
    intro hEx hB9
    revert hw9
    refine fz_a6 ?_
    intro b_iJ_used_3 b_iJ_depth_3 b_iJ_binders_3 b_iT_at_3 b_iT_number_3 b_iT_next_3
    have hP : va_P (dC, dI) vwCl (WJ hJ aJ kJ hT hM hL (.ref dF_tree) iJ_used_3 iJ_depth_3 jJ_ownName gJ_binder_3 iJ_binders_3 iJ_firstSet iJ_secondSet ++ (WL hL aL kL hT hM (.ref dF_tree) iL_names gL_key fL_kind fL_one fL_two fL_base iL_params fL_paramOver dL_paramOver nL_params fL_paramUnder dL_paramUnder nL_pu gL_over gL_under fL_bound iL_nameAt iL_startAt iL_steps jL_scaleOver jL_scaleUnder ++ (WF hF aF kF dF_tree nF_tree fF_tree_3 ++ (WT hT aT kT fT_tape dT_tape nT_tape iT_length iT_fault_3 iT_place_3 iT_kind_3 iT_at_3 iT_number_3 jT_name_3 iT_next_3)))) H := fz_P ht hB9.1
    have hD := fz_sd hP (hB9.2.weaken (fun _ q _ h => hFc q.1 h)) rfl
    exact vx_out (fun x hx9 => (htab x hx9).elim) hlocks hc1 hc2 hc3 (fun t9_ ht hvm => ⟨(iJ_used_3, iJ_depth_3, gJ_binder_3, iJ_binders_3, fF_tree_3, iT_fault_3, iT_place_3, iT_kind_3, iT_at_3, iT_number_3, jT_name_3, iT_next_3), ⟨(b_iJ_used_3), (b_iJ_depth_3), (b_iJ_binders_3), (b_iT_at_3), (b_iT_number_3), (b_iT_next_3)⟩, ⟨(by have h9 := hEx; exact h9), by rw [ht]; exact hP, hD⟩, hS.F ht⟩) hS.2.2 (by decide +kernel) (by decide +kernel)
  revert u hw9 hB9
  refine fz_p12 ?_
  intro iJ_used_3 iJ_depth_3 gJ_binder_3 iJ_binders_3 fF_tree_3 iT_fault_3 iT_place_3 iT_kind_3 iT_at_3 iT_number_3 jT_name_3 iT_next_3 hw9 hB9
  try dsimp only at hw9 hB9
  revert hw9
  refine fz_a16 ?_
  intro b_iJ_used_3 b_iJ_depth_3 b_iJ_binders_3 b_iT_at_3 b_iT_number_3 b_iT_next_3 f3_0 f3_1 f3_2 f3_3 f3_4 f3_5 f3_6 f3_7 f3_8 f3_9
  have hz8 := hB9.2.2
  rw [ht] at hz8
  have hz9 : H.size ≤ s.heap.size + 0 := by rw [hz8]; exact hz0
  refine W.tight (cells2 := 0) (slots2 := 0) hz9 (nS_0 hz9) ?_
  clear hz8 hz9
  have hP : va_P (dC, dI) vwCl (WJ hJ aJ kJ hT hM hL (.ref dF_tree) iJ_used_3 iJ_depth_3 jJ_ownName gJ_binder_3 iJ_binders_3 iJ_firstSet iJ_secondSet ++ (WL hL aL kL hT hM (.ref dF_tree) iL_names gL_key fL_kind fL_one fL_two fL_base iL_params fL_paramOver dL_paramOver nL_params fL_paramUnder dL_paramUnder nL_pu gL_over gL_under fL_bound iL_nameAt iL_startAt iL_steps jL_scaleOver jL_scaleUnder ++ (WF hF aF kF dF_tree nF_tree fF_tree_3 ++ (WT hT aT kT fT_tape dT_tape nT_tape iT_length iT_fault_3 iT_place_3 iT_kind_3 iT_at_3 iT_number_3 jT_name_3 iT_next_3)))) H := fz_P ht hB9.1
  have hD := fz_sd hP (hB9.2.1.weaken (fun _ q _ h => hFc q.1 h)) rfl
  have hF1 := f3_1
  refine lv_istore_n hx hb dX4_anyOf_16 rfl hl (by decide) rfl (fun ls (hl : lv_has ls _ ([(2, .int r3), (1, .int r2), (0, .ref (hJ 0))])) => ?_)
  refine lv_aload_n hx hb dX4_anyOf_17 rfl (lv_at hl 2 rfl) ?_
  refine va_get (D := (dC, dI)) (ci := 4) (v := .ref dF_tree) (C := RX4) (T := TX4) (N := 11) hx hb hts iwsMX4_anyOf_in4 hown hK hP 0 rfl rfl 3 (by decide) (hts _ hm_m_X4_anyOf_0) (fun _ h9 => h9) rfl dX4_anyOf_18 ?_
  refine lv_iload_n hx hb dX4_anyOf_21 rfl (lv_at hl 1 rfl) ?_
  refine lv_iconst (v := 3) hx hb dX4_anyOf_22 (by decide) ?_
  refine lv_iadd hx hb dX4_anyOf_23 ?_
  refine lv_topi (fun y4 hy4 => ?_)
  obtain rfl : (iI (r2.toInt + 3)) = y4 := (hy4.trans (iI_add2 (iI_of _) (by decide : (3 : Int32) = iI 3))).symm
  refine lv_iload_n hx hb dX4_anyOf_24 rfl (lv_at hl 0 rfl) ?_
  refine va_iast (cA := kF 0) (n := nF_tree) (f := fF_tree_3) hx hb hK hP hD hS 13 11 rfl rfl (vp_iI (by omega) (by omega) (by omega)) dX4_anyOf_25 (fun H locs hP hD hS => ?_)
  obtain ⟨u5, hu5⟩ : ∃ f9, f9 = upd fF_tree_3 ((iI (r2.toInt + 3))).toNatClampNeg r3 := ⟨_, rfl⟩
  have hP : va_P (dC, dI) vwCl (WJ hJ aJ kJ hT hM hL (.ref dF_tree) iJ_used_3 iJ_depth_3 jJ_ownName gJ_binder_3 iJ_binders_3 iJ_firstSet iJ_secondSet ++ (WL hL aL kL hT hM (.ref dF_tree) iL_names gL_key fL_kind fL_one fL_two fL_base iL_params fL_paramOver dL_paramOver nL_params fL_paramUnder dL_paramUnder nL_pu gL_over gL_under fL_bound iL_nameAt iL_startAt iL_steps jL_scaleOver jL_scaleUnder ++ (WF hF aF kF dF_tree nF_tree u5 ++ (WT hT aT kT fT_tape dT_tape nT_tape iT_length iT_fault_3 iT_place_3 iT_kind_3 iT_at_3 iT_number_3 jT_name_3 iT_next_3)))) H := by rw [hu5]; exact hP
  have hD : va_D A (WJ hJ aJ kJ hT hM hL (.ref dF_tree) iJ_used_3 iJ_depth_3 jJ_ownName gJ_binder_3 iJ_binders_3 iJ_firstSet iJ_secondSet ++ (WL hL aL kL hT hM (.ref dF_tree) iL_names gL_key fL_kind fL_one fL_two fL_base iL_params fL_paramOver dL_paramOver nL_params fL_paramUnder dL_paramUnder nL_pu gL_over gL_under fL_bound iL_nameAt iL_startAt iL_steps jL_scaleOver jL_scaleUnder ++ (WF hF aF kF dF_tree nF_tree u5 ++ (WT hT aT kT fT_tape dT_tape nT_tape iT_length iT_fault_3 iT_place_3 iT_kind_3 iT_at_3 iT_number_3 jT_name_3 iT_next_3)))) := by rw [hu5]; exact hD
  have b_u5 : WrL fF_tree_3 u5 (r2.toInt + 3) r3.toInt := by rw [hu5]; exact WrL.ofx rfl (by omega) (by omega)
  clear hu5
  refine lv_iconst (v := 0) hx hb dX4_anyOf_26 (by decide) ?_
  refine lv_istore_n hx hb dX4_anyOf_27 rfl hl (by decide) rfl (fun ls (hl : lv_has ls _ ([(3, .int 0), (2, .int r3), (1, .int r2), (0, .ref (hJ 0))])) => ?_)
  have hl : lv_has _ _ ([(3, .int 0), (2, .int r3), (1, .int r2), (0, .ref (hJ 0))]) := lv_sub hl [0, 1, 2, 3] rfl
  refine (fun (loop : ∀ (n9 : Nat) (iJ_used_x28 : Int32) (iJ_depth_x28 : Int32) (gJ_binder_x28 : Nat → Int64) (iJ_binders_x28 : Int32) (fF_tree_x28 : Nat → Int32) (iT_fault_x28 : Int32) (iT_place_x28 : Int32) (iT_kind_x28 : Int32) (iT_at_x28 : Int32) (iT_number_x28 : Int32) (jT_name_x28 : Int64) (iT_next_x28 : Int32) (l3_x28 : Int32) (l2_x28 : Int32) (H : Heap) (locs : List Loc) (ls : Array Slot), (0 ≤ iJ_used_x28.toInt ∧ iJ_used_x28.toInt ≤ 72200) → (0 ≤ iJ_depth_x28.toInt ∧ iJ_depth_x28.toInt ≤ 25) → (0 ≤ iJ_binders_x28.toInt ∧ iJ_binders_x28.toInt ≤ 64) → (0 ≤ iT_at_x28.toInt ∧ iT_at_x28.toInt ≤ 1282) → (0 ≤ iT_number_x28.toInt ∧ iT_number_x28.toInt ≤ 999999) → (0 ≤ iT_next_x28.toInt ∧ iT_next_x28.toInt ≤ 1282) → (0 ≤ l3_x28.toInt ∧ l3_x28.toInt ≤ 4000) → (iT_at.toInt ≤ iT_at_x28.toInt) → (iT_at_x28.toInt ≤ iT_next_x28.toInt) → (iT_next_x28.toInt ≤ iT_length.toInt) → ((iT_kind_x28.toInt = 44 ∨ iT_kind_x28.toInt = 61) → iT_at_x28.toInt < iT_next_x28.toInt) → (iJ_used.toInt + 14 ≤ iJ_used_x28.toInt) → (iJ_used_x28.toInt ≤ ((nF_tree : Nat) : Int)) → (iJ_used_x28.toInt % 7 = 0) → (iJ_depth_x28.toInt = iJ_depth.toInt + 1) → ((UnL fF_tree fF_tree_x28 fL_kind fL_one fL_two iL_names.toInt iJ_used.toInt 10 iJ_used_x28.toInt [(twL fF_tree_x28 (iJ_used.toInt + 3), 11, lv), (l2_x28.toInt, 11, lv)]) ∧ twL fF_tree_x28 (l2_x28.toInt + 6) = 0) → (7 ≤ l2_x28.toInt ∧ l2_x28.toInt + 7 ≤ iJ_used_x28.toInt ∧ l2_x28.toInt % 7 = 0) → (4000 - l3_x28.toInt < ((n9 : Nat) : Int)) → va_P (dC, dI) vwCl (WJ hJ aJ kJ hT hM hL (.ref dF_tree) iJ_used_x28 iJ_depth_x28 jJ_ownName gJ_binder_x28 iJ_binders_x28 iJ_firstSet iJ_secondSet ++ (WL hL aL kL hT hM (.ref dF_tree) iL_names gL_key fL_kind fL_one fL_two fL_base iL_params fL_paramOver dL_paramOver nL_params fL_paramUnder dL_paramUnder nL_pu gL_over gL_under fL_bound iL_nameAt iL_startAt iL_steps jL_scaleOver jL_scaleUnder ++ (WF hF aF kF dF_tree nF_tree fF_tree_x28 ++ (WT hT aT kT fT_tape dT_tape nT_tape iT_length iT_fault_x28 iT_place_x28 iT_kind_x28 iT_at_x28 iT_number_x28 jT_name_x28 iT_next_x28)))) H → va_D A (WJ hJ aJ kJ hT hM hL (.ref dF_tree) iJ_used_x28 iJ_depth_x28 jJ_ownName gJ_binder_x28 iJ_binders_x28 iJ_firstSet iJ_secondSet ++ (WL hL aL kL hT hM (.ref dF_tree) iL_names gL_key fL_kind fL_one fL_two fL_base iL_params fL_paramOver dL_paramOver nL_params fL_paramUnder dL_paramUnder nL_pu gL_over gL_under fL_bound iL_nameAt iL_startAt iL_steps jL_scaleOver jL_scaleUnder ++ (WF hF aF kF dF_tree nF_tree fF_tree_x28 ++ (WT hT aT kT fT_tape dT_tape nT_tape iT_length iT_fault_x28 iT_place_x28 iT_kind_x28 iT_at_x28 iT_number_x28 jT_name_x28 iT_next_x28)))) → va_S A s.heap H locs → lv_has ls 5 [(3, .int l3_x28), (2, .int l2_x28), (1, .int r2), (0, .ref (hJ 0))] → W p l e _ s m _ below meth c H locs 0 0 _ (F0 m 28 ls [])) => loop (4001) iJ_used_3 iJ_depth_3 gJ_binder_3 iJ_binders_3 u5 iT_fault_3 iT_place_3 iT_kind_3 iT_at_3 iT_number_3 jT_name_3 iT_next_3 0 r3 _ _ _ (b_iJ_used_3) (b_iJ_depth_3) (b_iJ_binders_3) (b_iT_at_3) (b_iT_number_3) (b_iT_next_3) (show 0 ≤ (0 : Int32).toInt ∧ (0 : Int32).toInt ≤ 4000 from by decide) (show iT_at.toInt ≤ iT_at_3.toInt from by omega) (show iT_at_3.toInt ≤ iT_next_3.toInt from by first | done | assumption | omega | (rw [iI_t (by omega) (by omega)]; omega)) (show iT_next_3.toInt ≤ iT_length.toInt from by first | done | assumption | omega | (rw [iI_t (by omega) (by omega)]; omega)) (show (iT_kind_3.toInt = 44 ∨ iT_kind_3.toInt = 61) → iT_at_3.toInt < iT_next_3.toInt from by first | done | assumption | omega | (rw [iI_t (by omega) (by omega)]; omega)) (show iJ_used.toInt + 14 ≤ iJ_used_3.toInt from by omega) (show iJ_used_3.toInt ≤ ((nF_tree : Nat) : Int) from by first | done | assumption | omega | (rw [iI_t (by omega) (by omega)]; omega)) (show iJ_used_3.toInt % 7 = 0 from by omega) (show iJ_depth_3.toInt = iJ_depth.toInt + 1 from by omega) (show (UnL fF_tree u5 fL_kind fL_one fL_two iL_names.toInt iJ_used.toInt 10 iJ_used_3.toInt [(twL u5 (iJ_used.toInt + 3), 11, lv), (r3.toInt, 11, lv)]) ∧ twL u5 (r3.toInt + 6) = 0 from UnL.first hNw hu1 hu7 (by omega) hF1 b_u5 (by omega) (by omega)) (show 7 ≤ r3.toInt ∧ r3.toInt + 7 ≤ iJ_used_3.toInt ∧ r3.toInt % 7 = 0 from by omega) ((by have e9 : (0 : Int32).toInt = 0 := (by decide : (0 : Int32).toInt = 0); omega)) hP hD hS hl) ?_
  intro n9
  induction n9 with
  | zero => intro iJ_used_x28 iJ_depth_x28 gJ_binder_x28 iJ_binders_x28 fF_tree_x28 iT_fault_x28 iT_place_x28 iT_kind_x28 iT_at_x28 iT_number_x28 jT_name_x28 iT_next_x28 l3_x28 l2_x28 H locs ls b_iJ_used_x28 b_iJ_depth_x28 b_iJ_binders_x28 b_iT_at_x28 b_iT_number_x28 b_iT_next_x28 b_l3_x28 hq0 hq1 hq2 hq3 hu1x hu2x hu7x hdx hun hlr hf9; exact False.elim (by omega)
  | succ n9 ihx28 =>
    intro iJ_used_x28 iJ_depth_x28 gJ_binder_x28 iJ_binders_x28 fF_tree_x28 iT_fault_x28 iT_place_x28 iT_kind_x28 iT_at_x28 iT_number_x28 jT_name_x28 iT_next_x28 l3_x28 l2_x28 H locs ls b_iJ_used_x28 b_iJ_depth_x28 b_iJ_binders_x28 b_iT_at_x28 b_iT_number_x28 b_iT_next_x28 b_l3_x28 hq0 hq1 hq2 hq3 hu1x hu2x hu7x hdx hun hlr hfx28 hP hD hS hl
    refine lv_iload_n hx hb dX4_anyOf_28 rfl (lv_at hl 0 rfl) ?_
    refine lv_sipush (v := 4000) hx hb dX4_anyOf_29 (by decide) ?_
    refine W.cut (pc := 81) (fun H locs ls stk =>  stk = [] ∧ va_P (dC, dI) vwCl (WJ hJ aJ kJ hT hM hL (.ref dF_tree) iJ_used_x28 iJ_depth_x28 jJ_ownName gJ_binder_x28 iJ_binders_x28 iJ_firstSet iJ_secondSet ++ (WL hL aL kL hT hM (.ref dF_tree) iL_names gL_key fL_kind fL_one fL_two fL_base iL_params fL_paramOver dL_paramOver nL_params fL_paramUnder dL_paramUnder nL_pu gL_over gL_under fL_bound iL_nameAt iL_startAt iL_steps jL_scaleOver jL_scaleUnder ++ (WF hF aF kF dF_tree nF_tree fF_tree_x28 ++ (WT hT aT kT fT_tape dT_tape nT_tape iT_length iT_fault_x28 iT_place_x28 iT_kind_x28 iT_at_x28 iT_number_x28 jT_name_x28 iT_next_x28)))) H ∧ va_D A (WJ hJ aJ kJ hT hM hL (.ref dF_tree) iJ_used_x28 iJ_depth_x28 jJ_ownName gJ_binder_x28 iJ_binders_x28 iJ_firstSet iJ_secondSet ++ (WL hL aL kL hT hM (.ref dF_tree) iL_names gL_key fL_kind fL_one fL_two fL_base iL_params fL_paramOver dL_paramOver nL_params fL_paramUnder dL_paramUnder nL_pu gL_over gL_under fL_bound iL_nameAt iL_startAt iL_steps jL_scaleOver jL_scaleUnder ++ (WF hF aF kF dF_tree nF_tree fF_tree_x28 ++ (WT hT aT kT fT_tape dT_tape nT_tape iT_length iT_fault_x28 iT_place_x28 iT_kind_x28 iT_at_x28 iT_number_x28 jT_name_x28 iT_next_x28)))) ∧ va_S A s.heap H locs ∧ lv_has ls 5 [(3, .int l3_x28), (2, .int l2_x28), (1, .int r2), (0, .ref (hJ 0))]) (fun join4 => ?_) ?_
    · refine lv_icmp_ge (tgt := 81) hx hb dX4_anyOf_32 (by decide) (fun c_32 => ?_) (fun c_32 => ?_)
      · have t_32 : l3_x28.toInt ≥ 4000 := toI_ge c_32 rfl (by decide : (4000 : Int32).toInt = 4000)
        have hl : lv_has _ _ ([(3, .int l3_x28), (2, .int l2_x28), (1, .int r2), (0, .ref (hJ 0))]) := lv_sub hl [0, 1, 2, 3] rfl
        exact join4 _ _ _ _ ⟨rfl, hP, hD, hS, hl⟩
      · have t_32 : ¬ l3_x28.toInt ≥ 4000 := toI_nge c_32 rfl (by decide : (4000 : Int32).toInt = 4000)
        refine lv_aload_n hx hb dX4_anyOf_35 rfl (lv_at hl 3 rfl) ?_
        refine va_get (D := (dC, dI)) (ci := 4) (v := .ref (hT 0)) (C := RX4) (T := TX4) (N := 11) hx hb hts iwsMX4_anyOf_in4 hown hK hP 0 rfl rfl 0 (by decide) (hts _ hm_m_X4_anyOf_1) (fun _ h9 => h9) rfl dX4_anyOf_36 ?_
        refine va_get (D := (dC, dI)) (ci := 9) (v := .int iT_kind_x28) (C := RX9) (T := TX9) (N := 9) hx hb hts iwsMX4_anyOf_in9 hown hK hP 14 rfl rfl 4 (by decide) (hts (.fieldLink RX4 51 "OptimaWorks$Words" "kind" "I") (by decide +kernel)) (fun _ h9 => h9) rfl dX4_anyOf_39 ?_
        refine lv_sipush (v := 263) hx hb dX4_anyOf_42 (by decide) ?_
        refine lv_icmp_ne (tgt := 81) hx hb dX4_anyOf_45 (by decide) (fun c_45 => ?_) (fun c_45 => ?_)
        · have t_45 : iT_kind_x28.toInt ≠ 263 := toI_ne c_45 rfl (by decide : (263 : Int32).toInt = 263)
          have hl : lv_has _ _ ([(3, .int l3_x28), (2, .int l2_x28), (1, .int r2), (0, .ref (hJ 0))]) := lv_sub hl [0, 1, 2, 3] rfl
          exact join4 _ _ _ _ ⟨rfl, hP, hD, hS, hl⟩
        · have t_45 : iT_kind_x28.toInt = 263 := toI_nne c_45 rfl (by decide : (263 : Int32).toInt = 263)
          refine lv_aload_n hx hb dX4_anyOf_48 rfl (lv_at hl 3 rfl) ?_
          refine va_get (D := (dC, dI)) (ci := 4) (v := .ref (hT 0)) (C := RX4) (T := TX4) (N := 11) hx hb hts iwsMX4_anyOf_in4 hown hK hP 0 rfl rfl 0 (by decide) (hts _ hm_m_X4_anyOf_1) (fun _ h9 => h9) rfl dX4_anyOf_49 ?_
          have p9 := cj_4_3 (WJ hJ aJ kJ hT hM hL (.ref dF_tree) iJ_used_x28 iJ_depth_x28 jJ_ownName gJ_binder_x28 iJ_binders_x28 iJ_firstSet iJ_secondSet) (WL hL aL kL hT hM (.ref dF_tree) iL_names gL_key fL_kind fL_one fL_two fL_base iL_params fL_paramOver dL_paramOver nL_params fL_paramUnder dL_paramUnder nL_pu gL_over gL_under fL_bound iL_nameAt iL_startAt iL_steps jL_scaleOver jL_scaleUnder) (WF hF aF kF dF_tree nF_tree fF_tree_x28) (WT hT aT kT fT_tape dT_tape nT_tape iT_length iT_fault_x28 iT_place_x28 iT_kind_x28 iT_at_x28 iT_number_x28 jT_name_x28 iT_next_x28)
          have hPc := hP.mem (fun q h => p9.mem_iff.mpr (List.mem_append_left _ h))
          have hDc := (hD.perm p9).left
          have hKc : va_K (dC, dI) vwCl (tT kT) _ := hK.sub [12] rfl
          have hFc := freeG p9 hD hS hA
          refine va_callv (va_runV (As := []) (rest := []) ⟨hx, hb, hml, hown, hts⟩ (m_X9_advance l hst dC dI hT aT kT fT_tape dT_tape nT_tape iT_length iT_fault_x28 iT_place_x28 iT_kind_x28 iT_at_x28 iT_number_x28 jT_name_x28 iT_next_x28 b_fT_tape (by first | exact b_nT_tape | with_reducible assumption | exact ⟨by omega, by omega⟩ | assumption) (b_iT_length) (b_iT_at_x28) (b_iT_number_x28) (b_iT_next_x28) (by first | with_reducible assumption | omega | assumption) (by first | with_reducible assumption | omega | (rw [iI_t (by omega) (by omega)]; omega) | decide | assumption) H.size) (cwV 0 hts gwsMX4_anyOf_3 rfl rfl rfl (by decide +kernel) ⟨by first | decide +kernel | (dsimp only [headSpec] <;> omega), by first | decide +kernel | (dsimp only [headSpec] <;> omega)⟩) (fz_preE (va_recv hK hP (ci := 9) (q0 := 14) rfl rfl) hPc hKc hDc (fun a U g mk qE => qE.call) (fun U hU9 hW => by rw [hU9]; exact (((hE : CE A s s.heap).kept hS.2.1).narrow (fun q h => hFc q h)).warm hW)) rfl rfl hl.1 rfl (lv_room (Nat.le_of_ble_eq_true rfl)) dX4_anyOf_52 ⟨by first | decide +kernel | (dsimp only [headSpec] <;> omega), by first | decide +kernel | (dsimp only [headSpec] <;> omega)⟩) hS (fun q _ h => hFc q h) hFc (fun u t9_ H locs ht hvm hw9 hB9 hz1 hk1 hS => ?_)
          revert u hw9 hB9
          refine fz_p5 ?_
          intro iT_kind_28 iT_at_28 iT_number_28 jT_name_28 iT_next_28 hw9 hB9
          try dsimp only at hw9 hB9
          revert hw9
          refine fz_a7 ?_
          intro b_iT_at_28 b_iT_number_28 b_iT_next_28 f28_0 f28_1 f28_2 f28_3
          have p8 := cj_4_3 (WJ hJ aJ kJ hT hM hL (.ref dF_tree) iJ_used_x28 iJ_depth_x28 jJ_ownName gJ_binder_x28 iJ_binders_x28 iJ_firstSet iJ_secondSet) (WL hL aL kL hT hM (.ref dF_tree) iL_names gL_key fL_kind fL_one fL_two fL_base iL_params fL_paramOver dL_paramOver nL_params fL_paramUnder dL_paramUnder nL_pu gL_over gL_under fL_bound iL_nameAt iL_startAt iL_steps jL_scaleOver jL_scaleUnder) (WF hF aF kF dF_tree nF_tree fF_tree_x28) (WT hT aT kT fT_tape dT_tape nT_tape iT_length iT_fault_x28 iT_place_x28 iT_kind_28 iT_at_28 iT_number_28 jT_name_28 iT_next_28)
          obtain ⟨hP, hD⟩ := frameG p9 p8 hP hD hk1 hFc (fz_P ht hB9.1) hB9.2
          refine lv_aload_n hx hb dX4_anyOf_55 rfl (lv_at hl 3 rfl) ?_
          refine W.known (fun hz0 _ => ?_)
          have hFc := allFree hD hS hA
          refine vx_calli (vx_runV (As := []) (rest := []) ⟨hx, hb, hml, hown, hts⟩ (ih_X4_allOf dC dI hJ aJ kJ hT hM hL iJ_used_x28 iJ_depth_x28 jJ_ownName gJ_binder_x28 iJ_binders_x28 iJ_firstSet iJ_secondSet aL kL iL_names gL_key fL_kind fL_one fL_two fL_base iL_params fL_paramOver dL_paramOver nL_params fL_paramUnder dL_paramUnder nL_pu gL_over gL_under fL_bound iL_nameAt iL_startAt iL_steps jL_scaleOver jL_scaleUnder hF aF kF dF_tree nF_tree fF_tree_x28 aT kT fT_tape dT_tape nT_tape iT_length iT_fault_x28 iT_place_x28 iT_kind_28 iT_at_28 iT_number_28 jT_name_28 iT_next_28 lv (b_iJ_used_x28) (b_iJ_depth_x28) (b_iJ_binders_x28) (b_iJ_firstSet) (b_iJ_secondSet) (b_iL_names) b_fL_kind b_fL_two b_fL_base (b_iL_params) (by first | exact b_nL_params | with_reducible assumption | exact ⟨by omega, by omega⟩ | assumption) (by first | with_reducible assumption | omega | (rw [iI_t (by omega) (by omega)]; omega) | assumption) (by first | with_reducible assumption | omega | (rw [iI_t (by omega) (by omega)]; omega) | assumption) (by first | with_reducible assumption | omega | (rw [iI_t (by omega) (by omega)]; omega) | assumption) (by first | exact b_nF_tree | with_reducible assumption | exact ⟨by omega, by omega⟩ | assumption) b_fT_tape (by first | exact b_nT_tape | with_reducible assumption | exact ⟨by omega, by omega⟩ | assumption) (b_iT_length) (b_iT_at_28) (b_iT_number_28) (b_iT_next_28) (by first | with_reducible assumption | omega | assumption) (by first | with_reducible assumption | omega | (rw [iI_t (by omega) (by omega)]; omega) | decide | assumption) (by first | with_reducible assumption | omega | (rw [iI_t (by omega) (by omega)]; omega) | decide | assumption) (by first | with_reducible assumption | omega | (rw [iI_t (by omega) (by omega)]; omega) | decide | assumption) (by first | with_reducible assumption | omega | (rw [iI_t (by omega) (by omega)]; omega) | decide | assumption) (by first | with_reducible assumption | omega | (rw [iI_t (by omega) (by omega)]; omega) | decide | assumption) (by first | with_reducible assumption | omega | (rw [iI_t (by omega) (by omega)]; omega) | decide | assumption) (by first | with_reducible assumption | omega | (rw [iI_t (by omega) (by omega)]; omega) | decide | assumption) (by first | with_reducible assumption | omega | (rw [iI_t (by omega) (by omega)]; omega) | decide | assumption) H.size) (cwV 0 hts gwsMX4_anyOf_2 rfl rfl rfl (by decide +kernel) ⟨by first | decide +kernel | (dsimp only [headSpec] <;> omega), by first | decide +kernel | (dsimp only [headSpec] <;> omega)⟩) (fz_preE (va_recv hK hP (ci := 4) (q0 := 0) rfl rfl) hP hK hD (fun a U g mk qE => qE.call) (fun U hU9 hW => by rw [hU9]; exact (((hE : CE A s s.heap).kept hS.2.1).narrow (fun q h => hFc q h)).warm hW)) rfl rfl hl.1 rfl (lv_room (Nat.le_of_ble_eq_true rfl)) dX4_anyOf_56 ⟨by first | decide +kernel | (dsimp only [headSpec] <;> omega), by first | decide +kernel | (dsimp only [headSpec] <;> omega)⟩) hS (fun q _ h => hFc q h) hFc (fun q _ h => hFc q h) (fun E ce q9 u t9_ H locs ht hvm hw9 hB9 hz1 hk1 hS hc1 hc2 hc3 => ?_) (fun r29 u t9_ H locs ht hvm hw9 hB9 hz1 hk1 hS => ?_)
          · revert u hw9 hB9
            refine fz_p12 ?_
            intro iJ_used_29 iJ_depth_29 gJ_binder_29 iJ_binders_29 fF_tree_29 iT_fault_29 iT_place_29 iT_kind_29 iT_at_29 iT_number_29 jT_name_29 iT_next_29 hw9 hB9
            try dsimp only at hw9 hB9
            revert hB9
            refine fz_a2 ?_
            intro hEx hB9
            revert hw9
            refine fz_a6 ?_
            intro b_iJ_used_29 b_iJ_depth_29 b_iJ_binders_29 b_iT_at_29 b_iT_number_29 b_iT_next_29
            have hP : va_P (dC, dI) vwCl (WJ hJ aJ kJ hT hM hL (.ref dF_tree) iJ_used_29 iJ_depth_29 jJ_ownName gJ_binder_29 iJ_binders_29 iJ_firstSet iJ_secondSet ++ (WL hL aL kL hT hM (.ref dF_tree) iL_names gL_key fL_kind fL_one fL_two fL_base iL_params fL_paramOver dL_paramOver nL_params fL_paramUnder dL_paramUnder nL_pu gL_over gL_under fL_bound iL_nameAt iL_startAt iL_steps jL_scaleOver jL_scaleUnder ++ (WF hF aF kF dF_tree nF_tree fF_tree_29 ++ (WT hT aT kT fT_tape dT_tape nT_tape iT_length iT_fault_29 iT_place_29 iT_kind_29 iT_at_29 iT_number_29 jT_name_29 iT_next_29)))) H := fz_P ht hB9.1
            have hD := fz_sd hP (hB9.2.weaken (fun _ q _ h => hFc q.1 h)) rfl
            exact vx_out (fun x hx9 => (htab x hx9).elim) hlocks hc1 hc2 hc3 (fun t9_ ht hvm => ⟨(iJ_used_29, iJ_depth_29, gJ_binder_29, iJ_binders_29, fF_tree_29, iT_fault_29, iT_place_29, iT_kind_29, iT_at_29, iT_number_29, jT_name_29, iT_next_29), ⟨(b_iJ_used_29), (b_iJ_depth_29), (b_iJ_binders_29), (b_iT_at_29), (b_iT_number_29), (b_iT_next_29)⟩, ⟨(by have h9 := hEx; exact h9), by rw [ht]; exact hP, hD⟩, hS.F ht⟩) hS.2.2 (by decide +kernel) (by decide +kernel)
          revert u hw9 hB9
          refine fz_p12 ?_
          intro iJ_used_29 iJ_depth_29 gJ_binder_29 iJ_binders_29 fF_tree_29 iT_fault_29 iT_place_29 iT_kind_29 iT_at_29 iT_number_29 jT_name_29 iT_next_29 hw9 hB9
          try dsimp only at hw9 hB9
          revert hw9
          refine fz_a16 ?_
          intro b_iJ_used_29 b_iJ_depth_29 b_iJ_binders_29 b_iT_at_29 b_iT_number_29 b_iT_next_29 f29_0 f29_1 f29_2 f29_3 f29_4 f29_5 f29_6 f29_7 f29_8 f29_9
          have hz8 := hB9.2.2
          rw [ht] at hz8
          have hz9 : H.size ≤ s.heap.size + 0 := by rw [hz8]; exact hz0
          refine W.tight (cells2 := 0) (slots2 := 0) hz9 (nS_0 hz9) ?_
          clear hz8 hz9
          have hP : va_P (dC, dI) vwCl (WJ hJ aJ kJ hT hM hL (.ref dF_tree) iJ_used_29 iJ_depth_29 jJ_ownName gJ_binder_29 iJ_binders_29 iJ_firstSet iJ_secondSet ++ (WL hL aL kL hT hM (.ref dF_tree) iL_names gL_key fL_kind fL_one fL_two fL_base iL_params fL_paramOver dL_paramOver nL_params fL_paramUnder dL_paramUnder nL_pu gL_over gL_under fL_bound iL_nameAt iL_startAt iL_steps jL_scaleOver jL_scaleUnder ++ (WF hF aF kF dF_tree nF_tree fF_tree_29 ++ (WT hT aT kT fT_tape dT_tape nT_tape iT_length iT_fault_29 iT_place_29 iT_kind_29 iT_at_29 iT_number_29 jT_name_29 iT_next_29)))) H := fz_P ht hB9.1
          have hD := fz_sd hP (hB9.2.1.weaken (fun _ q _ h => hFc q.1 h)) rfl
          have hF2 := f29_1
          refine lv_istore hx hb dX4_anyOf_59 hl (by decide) rfl (fun ls (hl : lv_has ls _ ([(4, .int r29), (3, .int l3_x28), (2, .int l2_x28), (1, .int r2), (0, .ref (hJ 0))])) => ?_)
          refine lv_aload_n hx hb dX4_anyOf_61 rfl (lv_at hl 4 rfl) ?_
          refine va_get (D := (dC, dI)) (ci := 4) (v := .ref dF_tree) (C := RX4) (T := TX4) (N := 11) hx hb hts iwsMX4_anyOf_in4 hown hK hP 0 rfl rfl 3 (by decide) (hts _ hm_m_X4_anyOf_0) (fun _ h9 => h9) rfl dX4_anyOf_62 ?_
          refine lv_iload_n hx hb dX4_anyOf_65 rfl (lv_at hl 2 rfl) ?_
          refine lv_bipush (v := 6) hx hb dX4_anyOf_66 (by decide) ?_
          refine lv_iadd hx hb dX4_anyOf_68 ?_
          refine lv_topi (fun y30 hy30 => ?_)
          obtain rfl : (iI (l2_x28.toInt + 6)) = y30 := (hy30.trans (iI_add2 (iI_of _) (by decide : (6 : Int32) = iI 6))).symm
          refine lv_iload hx hb dX4_anyOf_69 (lv_at hl 0 rfl) ?_
          refine va_iast (cA := kF 0) (n := nF_tree) (f := fF_tree_29) hx hb hK hP hD hS 13 11 rfl rfl (vp_iI (by omega) (by omega) (by omega)) dX4_anyOf_71 (fun H locs hP hD hS => ?_)
          obtain ⟨u31, hu31⟩ : ∃ f9, f9 = upd fF_tree_29 ((iI (l2_x28.toInt + 6))).toNatClampNeg r29 := ⟨_, rfl⟩
          have hP : va_P (dC, dI) vwCl (WJ hJ aJ kJ hT hM hL (.ref dF_tree) iJ_used_29 iJ_depth_29 jJ_ownName gJ_binder_29 iJ_binders_29 iJ_firstSet iJ_secondSet ++ (WL hL aL kL hT hM (.ref dF_tree) iL_names gL_key fL_kind fL_one fL_two fL_base iL_params fL_paramOver dL_paramOver nL_params fL_paramUnder dL_paramUnder nL_pu gL_over gL_under fL_bound iL_nameAt iL_startAt iL_steps jL_scaleOver jL_scaleUnder ++ (WF hF aF kF dF_tree nF_tree u31 ++ (WT hT aT kT fT_tape dT_tape nT_tape iT_length iT_fault_29 iT_place_29 iT_kind_29 iT_at_29 iT_number_29 jT_name_29 iT_next_29)))) H := by rw [hu31]; exact hP
          have hD : va_D A (WJ hJ aJ kJ hT hM hL (.ref dF_tree) iJ_used_29 iJ_depth_29 jJ_ownName gJ_binder_29 iJ_binders_29 iJ_firstSet iJ_secondSet ++ (WL hL aL kL hT hM (.ref dF_tree) iL_names gL_key fL_kind fL_one fL_two fL_base iL_params fL_paramOver dL_paramOver nL_params fL_paramUnder dL_paramUnder nL_pu gL_over gL_under fL_bound iL_nameAt iL_startAt iL_steps jL_scaleOver jL_scaleUnder ++ (WF hF aF kF dF_tree nF_tree u31 ++ (WT hT aT kT fT_tape dT_tape nT_tape iT_length iT_fault_29 iT_place_29 iT_kind_29 iT_at_29 iT_number_29 jT_name_29 iT_next_29)))) := by rw [hu31]; exact hD
          have b_u31 : WrL fF_tree_29 u31 (l2_x28.toInt + 6) r29.toInt := by rw [hu31]; exact WrL.ofx rfl (by omega) (by omega)
          clear hu31
          refine lv_iload hx hb dX4_anyOf_72 (lv_at hl 0 rfl) ?_
          refine lv_istore_n hx hb dX4_anyOf_74 rfl hl (by decide) rfl (fun ls (hl : lv_has ls _ ([(2, .int r29), (4, .int r29), (3, .int l3_x28), (1, .int r2), (0, .ref (hJ 0))])) => ?_)
          refine lv_iinc (v := (iI (l3_x28.toInt + 1))) hx hb dX4_anyOf_75 hl (k := 2) rfl (iI_add2 (iI_of _) (by decide : (1 : Int32) = iI 1)) (by decide) rfl (fun ls (hl : lv_has ls _ ([(3, .int (iI (l3_x28.toInt + 1))), (2, .int r29), (4, .int r29), (1, .int r2), (0, .ref (hJ 0))])) => ?_)
          refine lv_goto (tgt := 28) hx hb dX4_anyOf_78 (by decide) ?_
          have hl : lv_has _ _ ([(3, .int (iI (l3_x28.toInt + 1))), (2, .int r29), (1, .int r2), (0, .ref (hJ 0))]) := lv_sub hl [0, 1, 3, 4] rfl
          exact ihx28 iJ_used_29 iJ_depth_29 gJ_binder_29 iJ_binders_29 u31 iT_fault_29 iT_place_29 iT_kind_29 iT_at_29 iT_number_29 jT_name_29 iT_next_29 (iI (l3_x28.toInt + 1)) r29 _ _ _ (b_iJ_used_29) (b_iJ_depth_29) (b_iJ_binders_29) (b_iT_at_29) (b_iT_number_29) (b_iT_next_29) (iI_rng (Int.le_trans (by decide) (Int.add_le_add (b_l3_x28.1) (Int.le_refl _))) (by omega) (by decide) (by decide)) (show iT_at.toInt ≤ iT_at_29.toInt from by omega) (show iT_at_29.toInt ≤ iT_next_29.toInt from by first | done | assumption | omega | (rw [iI_t (by omega) (by omega)]; omega)) (show iT_next_29.toInt ≤ iT_length.toInt from by first | done | assumption | omega | (rw [iI_t (by omega) (by omega)]; omega)) (show (iT_kind_29.toInt = 44 ∨ iT_kind_29.toInt = 61) → iT_at_29.toInt < iT_next_29.toInt from by first | done | assumption | omega | (rw [iI_t (by omega) (by omega)]; omega)) (show iJ_used.toInt + 14 ≤ iJ_used_29.toInt from by omega) (show iJ_used_29.toInt ≤ ((nF_tree : Nat) : Int) from by first | done | assumption | omega | (rw [iI_t (by omega) (by omega)]; omega)) (show iJ_used_29.toInt % 7 = 0 from by omega) (show iJ_depth_29.toInt = iJ_depth.toInt + 1 from by omega) (show (UnL fF_tree u31 fL_kind fL_one fL_two iL_names.toInt iJ_used.toInt 10 iJ_used_29.toInt [(twL u31 (iJ_used.toInt + 3), 11, lv), (r29.toInt, 11, lv)]) ∧ twL u31 (r29.toInt + 6) = 0 from UnL.step hun.1 hF2 (LkL.of b_u31 (by omega)) (by omega)) (show 7 ≤ r29.toInt ∧ r29.toInt + 7 ≤ iJ_used_29.toInt ∧ r29.toInt % 7 = 0 from by omega) (by have e9 : ((iI (l3_x28.toInt + 1))).toInt = (l3_x28.toInt + 1) := (iI_t (Int.le_trans (by decide) (Int.add_le_add (b_l3_x28.1) (Int.le_refl _))) (Int.le_trans (Int.add_le_add (b_l3_x28.2) (Int.le_refl _)) (by decide))); omega) hP hD hS hl
    · rintro H locs ls stk ⟨rfl, hP, hD, hS, hl⟩
      refine lv_aload_n hx hb dX4_anyOf_81 rfl (lv_at hl 3 rfl) ?_
      refine lv_dup hx hb dX4_anyOf_82 rfl ?_
      refine va_get (D := (dC, dI)) (ci := 4) (v := .int iJ_depth_x28) (C := RX4) (T := TX4) (N := 11) hx hb hts iwsMX4_anyOf_in4 hown hK hP 0 rfl rfl 5 (by decide) (hts _ hm_m_X4_anyOf_2) (fun _ h9 => h9) rfl dX4_anyOf_83 ?_
      refine lv_iconst (v := 1) hx hb dX4_anyOf_86 (by decide) ?_
      refine lv_isub hx hb dX4_anyOf_87 ?_
      refine lv_topi (fun y32 hy32 => ?_)
      obtain rfl : (iI (iJ_depth_x28.toInt - 1)) = y32 := (hy32.trans (iI_sub2 (iI_of _) (by decide : (1 : Int32) = iI 1))).symm
      refine va_put (D := (dC, dI)) (ci := 4) (v := .int (iI (iJ_depth_x28.toInt - 1))) (ty := .int) (C := RX4) (T := TX4) (N := 11) hx hb hts iwsMX4_anyOf_in4 tyX4 tyX4_ok nmX4 hown hK hP hD hS 0 rfl rfl 5 (by decide) (hts _ hm_m_X4_anyOf_2) (fun _ h9 => h9) rfl (by decide +kernel) rfl rfl (Nat.le_of_ble_eq_true rfl) dX4_anyOf_88 (fun H locs hP hD hS => ?_)
      have hP : va_P (dC, dI) vwCl (WJ hJ aJ kJ hT hM hL (.ref dF_tree) iJ_used_x28 (iI (iJ_depth_x28.toInt - 1)) jJ_ownName gJ_binder_x28 iJ_binders_x28 iJ_firstSet iJ_secondSet ++ (WL hL aL kL hT hM (.ref dF_tree) iL_names gL_key fL_kind fL_one fL_two fL_base iL_params fL_paramOver dL_paramOver nL_params fL_paramUnder dL_paramUnder nL_pu gL_over gL_under fL_bound iL_nameAt iL_startAt iL_steps jL_scaleOver jL_scaleUnder ++ (WF hF aF kF dF_tree nF_tree fF_tree_x28 ++ (WT hT aT kT fT_tape dT_tape nT_tape iT_length iT_fault_x28 iT_place_x28 iT_kind_x28 iT_at_x28 iT_number_x28 jT_name_x28 iT_next_x28)))) H := hP
      have hD := fz_sd hP (hD) rfl
      refine lv_iload_n hx hb dX4_anyOf_91 rfl (lv_at hl 2 rfl) ?_
      refine vx_ret ?_
      refine W.known (fun hz9 _ => ?_)
      refine W.widen (k := 1) (n := 6) (by decide +kernel) (by decide +kernel) ?_
      exact W.iret (v := r2) hx hb hr (fun t9_ ht hW => ⟨⟨r2, (iJ_used_x28, (iI (iJ_depth_x28.toInt - 1)), gJ_binder_x28, iJ_binders_x28, fF_tree_x28, iT_fault_x28, iT_place_x28, iT_kind_x28, iT_at_x28, iT_number_x28, jT_name_x28, iT_next_x28), rfl, ⟨b_iJ_used_x28, (by (try dsimp only); exact (iI_rng (by omega) (Int.le_trans (Int.sub_le_sub (b_iJ_depth_x28.2) (Int.le_refl _)) (by decide)) (by decide) (by decide))), b_iJ_binders_x28, b_iT_at_x28, b_iT_number_x28, b_iT_next_x28, (by (try dsimp only); first | done | assumption | omega | (rw [iI_t (by omega) (by omega)]; omega)), (by (try dsimp only); exact (UnL.fin10 hun.1 (by omega))), (by (try dsimp only); first | done | assumption | omega | (rw [iI_t (by omega) (by omega)]; omega)), (by (try dsimp only); first | done | assumption | omega | (rw [iI_t (by omega) (by omega)]; omega)), (by (try dsimp only); first | done | assumption | omega | (rw [iI_t (by omega) (by omega)]; omega)), (by (try dsimp only); first | done | assumption | omega | (rw [iI_t (by omega) (by omega)]; omega)), (by (try dsimp only); omega), (by (try dsimp only); first | done | assumption | omega | (rw [iI_t (by omega) (by omega)]; omega)), (by (try dsimp only); first | done | assumption | omega | (rw [iI_t (by omega) (by omega)]; omega)), (by (try dsimp only); first | done | assumption | omega | (rw [iI_t (by omega) (by omega)]; omega))⟩, by rw [ht]; exact hP, hD, by rw [ht]; first | done | exact Nat.le_antisymm hz9 hS.1⟩, hS.F ht⟩) hS.2.2 dX4_anyOf_92
theorem dX4_allOf_0 : decode cX4_allOf 0 = .ok (.aload_n 0, 1) := dk_42 (by decide +kernel)
theorem dX4_allOf_1 : decode cX4_allOf 1 = .ok (.bipush 11, 2) := dk_16 (by decide +kernel)
theorem dX4_allOf_3 : decode cX4_allOf 3 = .ok (.invokevirtual 217, 3) := dk_182 (by decide +kernel)
theorem dX4_allOf_6 : decode cX4_allOf 6 = .ok (.istore_n 1, 1) := dk_60 (by decide +kernel)
theorem dX4_allOf_7 : decode cX4_allOf 7 = .ok (.aload_n 0, 1) := dk_42 (by decide +kernel)
theorem dX4_allOf_8 : decode cX4_allOf 8 = .ok (.invokevirtual 255, 3) := dk_182 (by decide +kernel)
theorem dX4_allOf_11 : decode cX4_allOf 11 = .ok (.istore_n 2, 1) := dk_61 (by decide +kernel)
theorem dX4_allOf_12 : decode cX4_allOf 12 = .ok (.aload_n 0, 1) := dk_42 (by decide +kernel)
theorem dX4_allOf_13 : decode cX4_allOf 13 = .ok (.getfield 11, 3) := dk_180 (by decide +kernel)
theorem dX4_allOf_16 : decode cX4_allOf 16 = .ok (.iload_n 1, 1) := dk_27 (by decide +kernel)
theorem dX4_allOf_17 : decode cX4_allOf 17 = .ok (.iconst 3, 1) := dk_6 (by decide +kernel)
theorem dX4_allOf_18 : decode cX4_allOf 18 = .ok (.iadd, 1) := dk_96 (by decide +kernel)
theorem dX4_allOf_19 : decode cX4_allOf 19 = .ok (.iload_n 2, 1) := dk_28 (by decide +kernel)
theorem dX4_allOf_20 : decode cX4_allOf 20 = .ok (.iastore, 1) := dk_79 (by decide +kernel)
theorem dX4_allOf_21 : decode cX4_allOf 21 = .ok (.iconst 0, 1) := dk_3 (by decide +kernel)
theorem dX4_allOf_22 : decode cX4_allOf 22 = .ok (.istore_n 3, 1) := dk_62 (by decide +kernel)
theorem dX4_allOf_23 : decode cX4_allOf 23 = .ok (.iload_n 3, 1) := dk_29 (by decide +kernel)
theorem dX4_allOf_24 : decode cX4_allOf 24 = .ok (.sipush 4000, 3) := dk_17 (by decide +kernel)
theorem dX4_allOf_27 : decode cX4_allOf 27 = .ok (.if_icmp .ge 49, 3) := dk_162 (by decide +kernel)
theorem dX4_allOf_30 : decode cX4_allOf 30 = .ok (.aload_n 0, 1) := dk_42 (by decide +kernel)
theorem dX4_allOf_31 : decode cX4_allOf 31 = .ok (.getfield 19, 3) := dk_180 (by decide +kernel)
theorem dX4_allOf_34 : decode cX4_allOf 34 = .ok (.getfield 51, 3) := dk_180 (by decide +kernel)
theorem dX4_allOf_37 : decode cX4_allOf 37 = .ok (.sipush 265, 3) := dk_17 (by decide +kernel)
theorem dX4_allOf_40 : decode cX4_allOf 40 = .ok (.if_icmp .ne 36, 3) := dk_160 (by decide +kernel)
theorem dX4_allOf_43 : decode cX4_allOf 43 = .ok (.aload_n 0, 1) := dk_42 (by decide +kernel)
theorem dX4_allOf_44 : decode cX4_allOf 44 = .ok (.getfield 19, 3) := dk_180 (by decide +kernel)
theorem dX4_allOf_47 : decode cX4_allOf 47 = .ok (.invokevirtual 119, 3) := dk_182 (by decide +kernel)
theorem dX4_allOf_50 : decode cX4_allOf 50 = .ok (.aload_n 0, 1) := dk_42 (by decide +kernel)
theorem dX4_allOf_51 : decode cX4_allOf 51 = .ok (.invokevirtual 255, 3) := dk_182 (by decide +kernel)
theorem dX4_allOf_54 : decode cX4_allOf 54 = .ok (.istore 4, 2) := dk_54 (by decide +kernel)
theorem dX4_allOf_56 : decode cX4_allOf 56 = .ok (.aload_n 0, 1) := dk_42 (by decide +kernel)
theorem dX4_allOf_57 : decode cX4_allOf 57 = .ok (.getfield 11, 3) := dk_180 (by decide +kernel)
theorem dX4_allOf_60 : decode cX4_allOf 60 = .ok (.iload_n 2, 1) := dk_28 (by decide +kernel)
theorem dX4_allOf_61 : decode cX4_allOf 61 = .ok (.bipush 6, 2) := dk_16 (by decide +kernel)
theorem dX4_allOf_63 : decode cX4_allOf 63 = .ok (.iadd, 1) := dk_96 (by decide +kernel)
theorem dX4_allOf_64 : decode cX4_allOf 64 = .ok (.iload 4, 2) := dk_21 (by decide +kernel)
theorem dX4_allOf_66 : decode cX4_allOf 66 = .ok (.iastore, 1) := dk_79 (by decide +kernel)
theorem dX4_allOf_67 : decode cX4_allOf 67 = .ok (.iload 4, 2) := dk_21 (by decide +kernel)
theorem dX4_allOf_69 : decode cX4_allOf 69 = .ok (.istore_n 2, 1) := dk_61 (by decide +kernel)
theorem dX4_allOf_70 : decode cX4_allOf 70 = .ok (.iinc 3 1, 3) := dk_132 (by decide +kernel)
theorem dX4_allOf_73 : decode cX4_allOf 73 = .ok (.goto (-50), 3) := dk_167 (by decide +kernel)
theorem dX4_allOf_76 : decode cX4_allOf 76 = .ok (.iload_n 1, 1) := dk_27 (by decide +kernel)
theorem dX4_allOf_77 : decode cX4_allOf 77 = .ok (.ireturn, 1) := dk_172 (by decide +kernel)
theorem iwsMX4_allOf_in4 : ∀ w ∈ wsX40, w ∈ wsMX4_allOf := fun w h => List.mem_cons_of_mem _ (iwsGR_in4 w h)
theorem iwsMX4_allOf_in9 : ∀ w ∈ wsX90, w ∈ wsMX4_allOf := fun w h => List.mem_cons_of_mem _ (iwsGR_in9 w h)
theorem gwsMX4_allOf_0 : GoodIn wsMX4_allOf (wsV RX4 217 RX4 yX4_node wsMX4_node) := goodIn_sub (fun w h => List.mem_cons_of_mem _ (gwsGR_1 w h)) (gdV (by decide +kernel) gdwsMX4_node)
theorem gwsMX4_allOf_1 : GoodIn wsMX4_allOf (wsV RX4 255 RX4 yX4_oneOf wsMX4_oneOf) := goodIn_rec (hd := [.methodLink RX4 255 yX4_oneOf, .instanceMethod yX4_oneOf, .selects RX4 yX4_oneOf yX4_oneOf, .initialized RX4]) (by decide +kernel) (by decide +kernel) gdwsGR
theorem gwsMX4_allOf_2 : GoodIn wsMX4_allOf (wsV RX4 119 RX9 yX9_advance wsMX9_advance) := goodIn_sub (fun w h => List.mem_cons_of_mem _ (gwsGR_2 w h)) (gdV (by decide +kernel) gdwsMX9_advance)
theorem hm_m_X4_allOf_0 : (.fieldLink RX4 11 "OptimaWorks$Reader" "tree" "[I" : Cond) ∈ wsMX4_allOf := by decide +kernel
theorem hm_m_X4_allOf_1 : (.fieldLink RX4 19 "OptimaWorks$Reader" "words" "LOptimaWorks$Words;" : Cond) ∈ wsMX4_allOf := by decide +kernel
set_option maxHeartbeats 4000000 in
set_option maxRecDepth 100000 in
/-- truths read, all -/
theorem m_X4_allOf (l : Launch) (hst : l.stackTraces = false) (ev : Nat) (ih_X4_oneOf : Cm_X4_oneOf l (ev + 1)) : Cm_X4_allOf l (ev + 1) := by
  intro dC dI hJ aJ kJ hT hM hL iJ_used iJ_depth jJ_ownName gJ_binder iJ_binders iJ_firstSet iJ_secondSet aL kL iL_names gL_key fL_kind fL_one fL_two fL_base iL_params fL_paramOver dL_paramOver nL_params fL_paramUnder dL_paramUnder nL_pu gL_over gL_under fL_bound iL_nameAt iL_startAt iL_steps jL_scaleOver jL_scaleUnder hF aF kF dF_tree nF_tree fF_tree aT kT fT_tape dT_tape nT_tape iT_length iT_fault iT_place iT_kind iT_at iT_number jT_name iT_next lv b_iJ_used b_iJ_depth b_iJ_binders b_iJ_firstSet b_iJ_secondSet b_iL_names b_fL_kind b_fL_two b_fL_base b_iL_params b_nL_params b_nm b_pm b_pu b_nF_tree b_fT_tape b_nT_tape b_iT_length b_iT_at b_iT_number b_iT_next b_len hu1 hu2 hu7 hp1 hp2 hp3 hlv hdp sz
  refine vx_ofW (cc := cX4_allOf) (maxL := 5) (ret := (some .int)) (by decide) rfl ?_
  intro p e s m args below meth c s₁ B hml htab hv
  obtain ⟨rfl, hsz, hP, hK, hD0, hE⟩ := hv
  have hx := B.exec
  have hb := B.bytes
  have hr := B.returns
  have hts := atoms_spec (ws := wsMX4_allOf) B.pre
  have hown : s.vm.findClass RX4 = some m.cls := findClass_of_methodNamed B.named
  have hlocks := B.notSynchronized
  subst hsz
  have hD := hD0.self (sz := s.heap.size)
  generalize hAe : va_A (WJ hJ aJ kJ hT hM hL (.ref dF_tree) iJ_used iJ_depth jJ_ownName gJ_binder iJ_binders iJ_firstSet iJ_secondSet ++ (WL hL aL kL hT hM (.ref dF_tree) iL_names gL_key fL_kind fL_one fL_two fL_base iL_params fL_paramOver dL_paramOver nL_params fL_paramUnder dL_paramUnder nL_pu gL_over gL_under fL_bound iL_nameAt iL_startAt iL_steps jL_scaleOver jL_scaleUnder ++ (WF hF aF kF dF_tree nF_tree fF_tree ++ (WT hT aT kT fT_tape dT_tape nT_tape iT_length iT_fault iT_place iT_kind iT_at iT_number jT_name iT_next)))) s.heap.size = A at hD hE ⊢
  have hA : ∀ q : Nat, s.heap.size ≤ q → A q := fun q h => by rw [← hAe]; exact Or.inr h
  have hS : va_S A s.heap s.heap [] := va_S.rf
  have hl := lv_entry ([.ref (hJ 0)]) (n := 5) (Nat.le_of_ble_eq_true rfl)
  rw [lg_entry_eq]
  generalize (lg_sl ([.ref (hJ 0)]) ++ List.replicate (5 - (lg_sl ([.ref (hJ 0)])).length) Slot.unset).toArray = ls at hl ⊢
  have hl : lv_has ls 5 [(0, .ref (hJ 0))] := hl
  refine lv_aload_n hx hb dX4_allOf_0 rfl (lv_at hl 0 rfl) ?_
  refine lv_bipush (v := 11) hx hb dX4_allOf_1 (by decide) ?_
  refine W.known (fun hz0 _ => ?_)
  have p9 := cj_4_0_2_3 (WJ hJ aJ kJ hT hM hL (.ref dF_tree) iJ_used iJ_depth jJ_ownName gJ_binder iJ_binders iJ_firstSet iJ_secondSet) (WL hL aL kL hT hM (.ref dF_tree) iL_names gL_key fL_kind fL_one fL_two fL_base iL_params fL_paramOver dL_paramOver nL_params fL_paramUnder dL_paramUnder nL_pu gL_over gL_under fL_bound iL_nameAt iL_startAt iL_steps jL_scaleOver jL_scaleUnder) (WF hF aF kF dF_tree nF_tree fF_tree) (WT hT aT kT fT_tape dT_tape nT_tape iT_length iT_fault iT_place iT_kind iT_at iT_number jT_name iT_next)
  have hPc := hP.mem (fun q h => p9.mem_iff.mpr (List.mem_append_left _ h))
  have hDc := (hD.perm p9).left
  have hKc : va_K (dC, dI) vwCl (tJ kJ ++ (tF kF ++ (tT kT))) _ := hK.sub [0, 11, 12] rfl
  have hFc := freeG p9 hD hS hA
  refine vx_calli (vx_runV (As := [.int 11]) (rest := []) ⟨hx, hb, hml, hown, hts⟩ (m_X4_node l hst dC dI hJ aJ kJ hT hM hL iJ_used iJ_depth jJ_ownName gJ_binder iJ_binders iJ_firstSet iJ_secondSet hF aF kF dF_tree nF_tree fF_tree aT kT fT_tape dT_tape nT_tape iT_length iT_fault iT_place iT_kind iT_at iT_number jT_name iT_next 11 (b_iJ_used) (b_iJ_depth) (b_iJ_binders) (b_iJ_firstSet) (b_iJ_secondSet) (by first | exact b_nF_tree | with_reducible assumption | exact ⟨by omega, by omega⟩ | assumption) b_fT_tape (by first | exact b_nT_tape | with_reducible assumption | exact ⟨by omega, by omega⟩ | assumption) (b_iT_length) (b_iT_at) (b_iT_number) (b_iT_next) (by first | with_reducible assumption | omega | assumption) (by first | with_reducible assumption | omega | (rw [iI_t (by omega) (by omega)]; omega) | decide | assumption) (by first | with_reducible assumption | omega | (rw [iI_t (by omega) (by omega)]; omega) | decide | assumption) (by first | with_reducible assumption | omega | (rw [iI_t (by omega) (by omega)]; omega) | decide | assumption) s.heap.size) (cwV 1 hts gwsMX4_allOf_0 rfl rfl rfl (by decide +kernel) ⟨by first | decide +kernel | (dsimp only [headSpec] <;> omega), by first | decide +kernel | (dsimp only [headSpec] <;> omega)⟩) (fz_preE (va_recv hK hP (ci := 4) (q0 := 0) rfl rfl) hPc hKc hDc (fun a U g mk qE => qE.call) (fun U hU9 hW => by rw [hU9]; exact (((hE : CE A s s.heap).kept hS.2.1).narrow (fun q h => hFc q h)).warm hW)) rfl rfl hl.1 rfl (lv_room (Nat.le_of_ble_eq_true rfl)) dX4_allOf_3 ⟨by first | decide +kernel | (dsimp only [headSpec] <;> omega), by first | decide +kernel | (dsimp only [headSpec] <;> omega)⟩) hS (fun q _ h => hFc q h) hFc (fun q _ h => hFc q h) (fun E ce q9 u t9_ H locs ht hvm hw9 hB9 hz1 hk1 hS hc1 hc2 hc3 => ?_) (fun r1 u t9_ H locs ht hvm hw9 hB9 hz1 hk1 hS => ?_)
  · revert u hw9 hB9
    refine fz_p4 ?_
    intro iJ_used_1 fF_tree_1 iT_fault_1 iT_place_1 hw9 hB9
    try dsimp only at hw9 hB9
    revert hB9
    refine fz_a2 ?_
    intro hEx hB9
    have b_iJ_used_1 := hw9
    try dsimp only at b_iJ_used_1
    have p8 := cj_4_0_2_3 (WJ hJ aJ kJ hT hM hL (.ref dF_tree) iJ_used_1 iJ_depth jJ_ownName gJ_binder iJ_binders iJ_firstSet iJ_secondSet) (WL hL aL kL hT hM (.ref dF_tree) iL_names gL_key fL_kind fL_one fL_two fL_base iL_params fL_paramOver dL_paramOver nL_params fL_paramUnder dL_paramUnder nL_pu gL_over gL_under fL_bound iL_nameAt iL_startAt iL_steps jL_scaleOver jL_scaleUnder) (WF hF aF kF dF_tree nF_tree fF_tree_1) (WT hT aT kT fT_tape dT_tape nT_tape iT_length iT_fault_1 iT_place_1 iT_kind iT_at iT_number jT_name iT_next)
    obtain ⟨hP, hD⟩ := frameG p9 p8 hP hD hk1 hFc (fz_P ht hB9.1) hB9.2
    exact vx_out (fun x hx9 => (htab x hx9).elim) hlocks hc1 hc2 hc3 (fun t9_ ht hvm => ⟨(iJ_used_1, iJ_depth, gJ_binder, iJ_binders, fF_tree_1, iT_fault_1, iT_place_1, iT_kind, iT_at, iT_number, jT_name, iT_next), ⟨(by (try dsimp only); exact (by first | exact b_iJ_used_1 | with_reducible assumption | exact ⟨by omega, by omega⟩ | assumption)), (b_iJ_depth), (b_iJ_binders), (b_iT_at), (b_iT_number), (b_iT_next)⟩, ⟨(by have h9 := hEx; exact h9), by rw [ht]; exact hP, hD⟩, hS.F ht⟩) hS.2.2 (by decide +kernel) (by decide +kernel)
  revert u hw9 hB9
  refine fz_p4 ?_
  intro iJ_used_1 fF_tree_1 iT_fault_1 iT_place_1 hw9 hB9
  try dsimp only at hw9 hB9
  revert hw9
  refine fz_a5 ?_
  intro b_iJ_used_1 f1_0 f1_1 f1_2 f1_3
  have hz8 := hB9.2.2
  rw [ht] at hz8
  have hz9 : H.size ≤ s.heap.size + 0 := by rw [hz8]; exact hz0
  refine W.tight (cells2 := 0) (slots2 := 0) hz9 (nS_0 hz9) ?_
  clear hz8 hz9
  have p8 := cj_4_0_2_3 (WJ hJ aJ kJ hT hM hL (.ref dF_tree) iJ_used_1 iJ_depth jJ_ownName gJ_binder iJ_binders iJ_firstSet iJ_secondSet) (WL hL aL kL hT hM (.ref dF_tree) iL_names gL_key fL_kind fL_one fL_two fL_base iL_params fL_paramOver dL_paramOver nL_params fL_paramUnder dL_paramUnder nL_pu gL_over gL_under fL_bound iL_nameAt iL_startAt iL_steps jL_scaleOver jL_scaleUnder) (WF hF aF kF dF_tree nF_tree fF_tree_1) (WT hT aT kT fT_tape dT_tape nT_tape iT_length iT_fault_1 iT_place_1 iT_kind iT_at iT_number jT_name iT_next)
  obtain ⟨hP, hD⟩ := frameG p9 p8 hP hD hk1 hFc (fz_P ht hB9.1) hB9.2.1
  have hNw := f1_3
  refine lv_istore_n hx hb dX4_allOf_6 rfl hl (by decide) rfl (fun ls (hl : lv_has ls _ ([(1, .int r1), (0, .ref (hJ 0))])) => ?_)
  refine lv_aload_n hx hb dX4_allOf_7 rfl (lv_at hl 1 rfl) ?_
  refine W.known (fun hz0 _ => ?_)
  have hFc := allFree hD hS hA
  refine vx_calli (vx_runV (As := []) (rest := []) ⟨hx, hb, hml, hown, hts⟩ (ih_X4_oneOf dC dI hJ aJ kJ hT hM hL iJ_used_1 iJ_depth jJ_ownName gJ_binder iJ_binders iJ_firstSet iJ_secondSet aL kL iL_names gL_key fL_kind fL_one fL_two fL_base iL_params fL_paramOver dL_paramOver nL_params fL_paramUnder dL_paramUnder nL_pu gL_over gL_under fL_bound iL_nameAt iL_startAt iL_steps jL_scaleOver jL_scaleUnder hF aF kF dF_tree nF_tree fF_tree_1 aT kT fT_tape dT_tape nT_tape iT_length iT_fault_1 iT_place_1 iT_kind iT_at iT_number jT_name iT_next lv (b_iJ_used_1) (b_iJ_depth) (b_iJ_binders) (b_iJ_firstSet) (b_iJ_secondSet) (b_iL_names) b_fL_kind b_fL_two b_fL_base (b_iL_params) (by first | exact b_nL_params | with_reducible assumption | exact ⟨by omega, by omega⟩ | assumption) (by first | with_reducible assumption | omega | (rw [iI_t (by omega) (by omega)]; omega) | assumption) (by first | with_reducible assumption | omega | (rw [iI_t (by omega) (by omega)]; omega) | assumption) (by first | with_reducible assumption | omega | (rw [iI_t (by omega) (by omega)]; omega) | assumption) (by first | exact b_nF_tree | with_reducible assumption | exact ⟨by omega, by omega⟩ | assumption) b_fT_tape (by first | exact b_nT_tape | with_reducible assumption | exact ⟨by omega, by omega⟩ | assumption) (b_iT_length) (b_iT_at) (b_iT_number) (b_iT_next) (by first | with_reducible assumption | omega | assumption) (by first | with_reducible assumption | omega | (rw [iI_t (by omega) (by omega)]; omega) | decide | assumption) (by first | with_reducible assumption | omega | (rw [iI_t (by omega) (by omega)]; omega) | decide | assumption) (by first | with_reducible assumption | omega | (rw [iI_t (by omega) (by omega)]; omega) | decide | assumption) (by first | with_reducible assumption | omega | (rw [iI_t (by omega) (by omega)]; omega) | decide | assumption) (by first | with_reducible assumption | omega | (rw [iI_t (by omega) (by omega)]; omega) | decide | assumption) (by first | with_reducible assumption | omega | (rw [iI_t (by omega) (by omega)]; omega) | decide | assumption) (by first | with_reducible assumption | omega | (rw [iI_t (by omega) (by omega)]; omega) | decide | assumption) (by first | with_reducible assumption | omega | (rw [iI_t (by omega) (by omega)]; omega) | decide | assumption) H.size) (cwV 0 hts gwsMX4_allOf_1 rfl rfl rfl (by decide +kernel) ⟨by first | decide +kernel | (dsimp only [headSpec] <;> omega), by first | decide +kernel | (dsimp only [headSpec] <;> omega)⟩) (fz_preE (va_recv hK hP (ci := 4) (q0 := 0) rfl rfl) hP hK hD (fun a U g mk qE => qE.call) (fun U hU9 hW => by rw [hU9]; exact (((hE : CE A s s.heap).kept hS.2.1).narrow (fun q h => hFc q h)).warm hW)) rfl rfl hl.1 rfl (lv_room (Nat.le_of_ble_eq_true rfl)) dX4_allOf_8 ⟨by first | decide +kernel | (dsimp only [headSpec] <;> omega), by first | decide +kernel | (dsimp only [headSpec] <;> omega)⟩) hS (fun q _ h => hFc q h) hFc (fun q _ h => hFc q h) (fun E ce q9 u t9_ H locs ht hvm hw9 hB9 hz1 hk1 hS hc1 hc2 hc3 => ?_) (fun r2 u t9_ H locs ht hvm hw9 hB9 hz1 hk1 hS => ?_)
  · revert u hw9 hB9
    refine fz_p12 ?_
    intro iJ_used_2 iJ_depth_2 gJ_binder_2 iJ_binders_2 fF_tree_2 iT_fault_2 iT_place_2 iT_kind_2 iT_at_2 iT_number_2 jT_name_2 iT_next_2 hw9 hB9
    try dsimp only at hw9 hB9
    revert hB9
    refine fz_a2 ?_
    intro hEx hB9
    revert hw9
    refine fz_a6 ?_
    intro b_iJ_used_2 b_iJ_depth_2 b_iJ_binders_2 b_iT_at_2 b_iT_number_2 b_iT_next_2
    have hP : va_P (dC, dI) vwCl (WJ hJ aJ kJ hT hM hL (.ref dF_tree) iJ_used_2 iJ_depth_2 jJ_ownName gJ_binder_2 iJ_binders_2 iJ_firstSet iJ_secondSet ++ (WL hL aL kL hT hM (.ref dF_tree) iL_names gL_key fL_kind fL_one fL_two fL_base iL_params fL_paramOver dL_paramOver nL_params fL_paramUnder dL_paramUnder nL_pu gL_over gL_under fL_bound iL_nameAt iL_startAt iL_steps jL_scaleOver jL_scaleUnder ++ (WF hF aF kF dF_tree nF_tree fF_tree_2 ++ (WT hT aT kT fT_tape dT_tape nT_tape iT_length iT_fault_2 iT_place_2 iT_kind_2 iT_at_2 iT_number_2 jT_name_2 iT_next_2)))) H := fz_P ht hB9.1
    have hD := fz_sd hP (hB9.2.weaken (fun _ q _ h => hFc q.1 h)) rfl
    exact vx_out (fun x hx9 => (htab x hx9).elim) hlocks hc1 hc2 hc3 (fun t9_ ht hvm => ⟨(iJ_used_2, iJ_depth_2, gJ_binder_2, iJ_binders_2, fF_tree_2, iT_fault_2, iT_place_2, iT_kind_2, iT_at_2, iT_number_2, jT_name_2, iT_next_2), ⟨(b_iJ_used_2), (b_iJ_depth_2), (b_iJ_binders_2), (b_iT_at_2), (b_iT_number_2), (b_iT_next_2)⟩, ⟨(by have h9 := hEx; exact h9), by rw [ht]; exact hP, hD⟩, hS.F ht⟩) hS.2.2 (by decide +kernel) (by decide +kernel)
  revert u hw9 hB9
  refine fz_p12 ?_
  intro iJ_used_2 iJ_depth_2 gJ_binder_2 iJ_binders_2 fF_tree_2 iT_fault_2 iT_place_2 iT_kind_2 iT_at_2 iT_number_2 jT_name_2 iT_next_2 hw9 hB9
  try dsimp only at hw9 hB9
  revert hw9
  refine fz_a16 ?_
  intro b_iJ_used_2 b_iJ_depth_2 b_iJ_binders_2 b_iT_at_2 b_iT_number_2 b_iT_next_2 f2_0 f2_1 f2_2 f2_3 f2_4 f2_5 f2_6 f2_7 f2_8 f2_9
  have hz8 := hB9.2.2
  rw [ht] at hz8
  have hz9 : H.size ≤ s.heap.size + 0 := by rw [hz8]; exact hz0
  refine W.tight (cells2 := 0) (slots2 := 0) hz9 (nS_0 hz9) ?_
  clear hz8 hz9
  have hP : va_P (dC, dI) vwCl (WJ hJ aJ kJ hT hM hL (.ref dF_tree) iJ_used_2 iJ_depth_2 jJ_ownName gJ_binder_2 iJ_binders_2 iJ_firstSet iJ_secondSet ++ (WL hL aL kL hT hM (.ref dF_tree) iL_names gL_key fL_kind fL_one fL_two fL_base iL_params fL_paramOver dL_paramOver nL_params fL_paramUnder dL_paramUnder nL_pu gL_over gL_under fL_bound iL_nameAt iL_startAt iL_steps jL_scaleOver jL_scaleUnder ++ (WF hF aF kF dF_tree nF_tree fF_tree_2 ++ (WT hT aT kT fT_tape dT_tape nT_tape iT_length iT_fault_2 iT_place_2 iT_kind_2 iT_at_2 iT_number_2 jT_name_2 iT_next_2)))) H := fz_P ht hB9.1
  have hD := fz_sd hP (hB9.2.1.weaken (fun _ q _ h => hFc q.1 h)) rfl
  have hF1 := f2_1
  refine lv_istore_n hx hb dX4_allOf_11 rfl hl (by decide) rfl (fun ls (hl : lv_has ls _ ([(2, .int r2), (1, .int r1), (0, .ref (hJ 0))])) => ?_)
  refine lv_aload_n hx hb dX4_allOf_12 rfl (lv_at hl 2 rfl) ?_
  refine va_get (D := (dC, dI)) (ci := 4) (v := .ref dF_tree) (C := RX4) (T := TX4) (N := 11) hx hb hts iwsMX4_allOf_in4 hown hK hP 0 rfl rfl 3 (by decide) (hts _ hm_m_X4_allOf_0) (fun _ h9 => h9) rfl dX4_allOf_13 ?_
  refine lv_iload_n hx hb dX4_allOf_16 rfl (lv_at hl 1 rfl) ?_
  refine lv_iconst (v := 3) hx hb dX4_allOf_17 (by decide) ?_
  refine lv_iadd hx hb dX4_allOf_18 ?_
  refine lv_topi (fun y3 hy3 => ?_)
  obtain rfl : (iI (r1.toInt + 3)) = y3 := (hy3.trans (iI_add2 (iI_of _) (by decide : (3 : Int32) = iI 3))).symm
  refine lv_iload_n hx hb dX4_allOf_19 rfl (lv_at hl 0 rfl) ?_
  refine va_iast (cA := kF 0) (n := nF_tree) (f := fF_tree_2) hx hb hK hP hD hS 13 11 rfl rfl (vp_iI (by omega) (by omega) (by omega)) dX4_allOf_20 (fun H locs hP hD hS => ?_)
  obtain ⟨u4, hu4⟩ : ∃ f9, f9 = upd fF_tree_2 ((iI (r1.toInt + 3))).toNatClampNeg r2 := ⟨_, rfl⟩
  have hP : va_P (dC, dI) vwCl (WJ hJ aJ kJ hT hM hL (.ref dF_tree) iJ_used_2 iJ_depth_2 jJ_ownName gJ_binder_2 iJ_binders_2 iJ_firstSet iJ_secondSet ++ (WL hL aL kL hT hM (.ref dF_tree) iL_names gL_key fL_kind fL_one fL_two fL_base iL_params fL_paramOver dL_paramOver nL_params fL_paramUnder dL_paramUnder nL_pu gL_over gL_under fL_bound iL_nameAt iL_startAt iL_steps jL_scaleOver jL_scaleUnder ++ (WF hF aF kF dF_tree nF_tree u4 ++ (WT hT aT kT fT_tape dT_tape nT_tape iT_length iT_fault_2 iT_place_2 iT_kind_2 iT_at_2 iT_number_2 jT_name_2 iT_next_2)))) H := by rw [hu4]; exact hP
  have hD : va_D A (WJ hJ aJ kJ hT hM hL (.ref dF_tree) iJ_used_2 iJ_depth_2 jJ_ownName gJ_binder_2 iJ_binders_2 iJ_firstSet iJ_secondSet ++ (WL hL aL kL hT hM (.ref dF_tree) iL_names gL_key fL_kind fL_one fL_two fL_base iL_params fL_paramOver dL_paramOver nL_params fL_paramUnder dL_paramUnder nL_pu gL_over gL_under fL_bound iL_nameAt iL_startAt iL_steps jL_scaleOver jL_scaleUnder ++ (WF hF aF kF dF_tree nF_tree u4 ++ (WT hT aT kT fT_tape dT_tape nT_tape iT_length iT_fault_2 iT_place_2 iT_kind_2 iT_at_2 iT_number_2 jT_name_2 iT_next_2)))) := by rw [hu4]; exact hD
  have b_u4 : WrL fF_tree_2 u4 (r1.toInt + 3) r2.toInt := by rw [hu4]; exact WrL.ofx rfl (by omega) (by omega)
  clear hu4
  refine lv_iconst (v := 0) hx hb dX4_allOf_21 (by decide) ?_
  refine lv_istore_n hx hb dX4_allOf_22 rfl hl (by decide) rfl (fun ls (hl : lv_has ls _ ([(3, .int 0), (2, .int r2), (1, .int r1), (0, .ref (hJ 0))])) => ?_)
  have hl : lv_has _ _ ([(3, .int 0), (2, .int r2), (1, .int r1), (0, .ref (hJ 0))]) := lv_sub hl [0, 1, 2, 3] rfl
  refine (fun (loop : ∀ (n9 : Nat) (iJ_used_x23 : Int32) (iJ_depth_x23 : Int32) (gJ_binder_x23 : Nat → Int64) (iJ_binders_x23 : Int32) (fF_tree_x23 : Nat → Int32) (iT_fault_x23 : Int32) (iT_place_x23 : Int32) (iT_kind_x23 : Int32) (iT_at_x23 : Int32) (iT_number_x23 : Int32) (jT_name_x23 : Int64) (iT_next_x23 : Int32) (l3_x23 : Int32) (l2_x23 : Int32) (H : Heap) (locs : List Loc) (ls : Array Slot), (0 ≤ iJ_used_x23.toInt ∧ iJ_used_x23.toInt ≤ 72200) → (0 ≤ iJ_depth_x23.toInt ∧ iJ_depth_x23.toInt ≤ 25) → (0 ≤ iJ_binders_x23.toInt ∧ iJ_binders_x23.toInt ≤ 64) → (0 ≤ iT_at_x23.toInt ∧ iT_at_x23.toInt ≤ 1282) → (0 ≤ iT_number_x23.toInt ∧ iT_number_x23.toInt ≤ 999999) → (0 ≤ iT_next_x23.toInt ∧ iT_next_x23.toInt ≤ 1282) → (0 ≤ l3_x23.toInt ∧ l3_x23.toInt ≤ 4000) → (iT_at.toInt ≤ iT_at_x23.toInt) → (iT_at_x23.toInt ≤ iT_next_x23.toInt) → (iT_next_x23.toInt ≤ iT_length.toInt) → ((iT_kind_x23.toInt = 44 ∨ iT_kind_x23.toInt = 61) → iT_at_x23.toInt < iT_next_x23.toInt) → (iJ_used.toInt + 14 ≤ iJ_used_x23.toInt) → (iJ_used_x23.toInt ≤ ((nF_tree : Nat) : Int)) → (iJ_used_x23.toInt % 7 = 0) → (iJ_depth_x23.toInt = iJ_depth.toInt) → ((UnL fF_tree fF_tree_x23 fL_kind fL_one fL_two iL_names.toInt iJ_used.toInt 11 iJ_used_x23.toInt [(twL fF_tree_x23 (iJ_used.toInt + 3), 12, lv), (l2_x23.toInt, 12, lv)]) ∧ twL fF_tree_x23 (l2_x23.toInt + 6) = 0) → (7 ≤ l2_x23.toInt ∧ l2_x23.toInt + 7 ≤ iJ_used_x23.toInt ∧ l2_x23.toInt % 7 = 0) → (4000 - l3_x23.toInt < ((n9 : Nat) : Int)) → va_P (dC, dI) vwCl (WJ hJ aJ kJ hT hM hL (.ref dF_tree) iJ_used_x23 iJ_depth_x23 jJ_ownName gJ_binder_x23 iJ_binders_x23 iJ_firstSet iJ_secondSet ++ (WL hL aL kL hT hM (.ref dF_tree) iL_names gL_key fL_kind fL_one fL_two fL_base iL_params fL_paramOver dL_paramOver nL_params fL_paramUnder dL_paramUnder nL_pu gL_over gL_under fL_bound iL_nameAt iL_startAt iL_steps jL_scaleOver jL_scaleUnder ++ (WF hF aF kF dF_tree nF_tree fF_tree_x23 ++ (WT hT aT kT fT_tape dT_tape nT_tape iT_length iT_fault_x23 iT_place_x23 iT_kind_x23 iT_at_x23 iT_number_x23 jT_name_x23 iT_next_x23)))) H → va_D A (WJ hJ aJ kJ hT hM hL (.ref dF_tree) iJ_used_x23 iJ_depth_x23 jJ_ownName gJ_binder_x23 iJ_binders_x23 iJ_firstSet iJ_secondSet ++ (WL hL aL kL hT hM (.ref dF_tree) iL_names gL_key fL_kind fL_one fL_two fL_base iL_params fL_paramOver dL_paramOver nL_params fL_paramUnder dL_paramUnder nL_pu gL_over gL_under fL_bound iL_nameAt iL_startAt iL_steps jL_scaleOver jL_scaleUnder ++ (WF hF aF kF dF_tree nF_tree fF_tree_x23 ++ (WT hT aT kT fT_tape dT_tape nT_tape iT_length iT_fault_x23 iT_place_x23 iT_kind_x23 iT_at_x23 iT_number_x23 jT_name_x23 iT_next_x23)))) → va_S A s.heap H locs → lv_has ls 5 [(3, .int l3_x23), (2, .int l2_x23), (1, .int r1), (0, .ref (hJ 0))] → W p l e _ s m _ below meth c H locs 0 0 _ (F0 m 23 ls [])) => loop (4001) iJ_used_2 iJ_depth_2 gJ_binder_2 iJ_binders_2 u4 iT_fault_2 iT_place_2 iT_kind_2 iT_at_2 iT_number_2 jT_name_2 iT_next_2 0 r2 _ _ _ (b_iJ_used_2) (b_iJ_depth_2) (b_iJ_binders_2) (b_iT_at_2) (b_iT_number_2) (b_iT_next_2) (show 0 ≤ (0 : Int32).toInt ∧ (0 : Int32).toInt ≤ 4000 from by decide) (show iT_at.toInt ≤ iT_at_2.toInt from by omega) (show iT_at_2.toInt ≤ iT_next_2.toInt from by first | done | assumption | omega | (rw [iI_t (by omega) (by omega)]; omega)) (show iT_next_2.toInt ≤ iT_length.toInt from by first | done | assumption | omega | (rw [iI_t (by omega) (by omega)]; omega)) (show (iT_kind_2.toInt = 44 ∨ iT_kind_2.toInt = 61) → iT_at_2.toInt < iT_next_2.toInt from by first | done | assumption | omega | (rw [iI_t (by omega) (by omega)]; omega)) (show iJ_used.toInt + 14 ≤ iJ_used_2.toInt from by omega) (show iJ_used_2.toInt ≤ ((nF_tree : Nat) : Int) from by first | done | assumption | omega | (rw [iI_t (by omega) (by omega)]; omega)) (show iJ_used_2.toInt % 7 = 0 from by omega) (show iJ_depth_2.toInt = iJ_depth.toInt from by omega) (show (UnL fF_tree u4 fL_kind fL_one fL_two iL_names.toInt iJ_used.toInt 11 iJ_used_2.toInt [(twL u4 (iJ_used.toInt + 3), 12, lv), (r2.toInt, 12, lv)]) ∧ twL u4 (r2.toInt + 6) = 0 from UnL.first hNw hu1 hu7 (by omega) hF1 b_u4 (by omega) (by omega)) (show 7 ≤ r2.toInt ∧ r2.toInt + 7 ≤ iJ_used_2.toInt ∧ r2.toInt % 7 = 0 from by omega) ((by have e9 : (0 : Int32).toInt = 0 := (by decide : (0 : Int32).toInt = 0); omega)) hP hD hS hl) ?_
  intro n9
  induction n9 with
  | zero => intro iJ_used_x23 iJ_depth_x23 gJ_binder_x23 iJ_binders_x23 fF_tree_x23 iT_fault_x23 iT_place_x23 iT_kind_x23 iT_at_x23 iT_number_x23 jT_name_x23 iT_next_x23 l3_x23 l2_x23 H locs ls b_iJ_used_x23 b_iJ_depth_x23 b_iJ_binders_x23 b_iT_at_x23 b_iT_number_x23 b_iT_next_x23 b_l3_x23 hq0 hq1 hq2 hq3 hu1x hu2x hu7x hdx hun hlr hf9; exact False.elim (by omega)
  | succ n9 ihx23 =>
    intro iJ_used_x23 iJ_depth_x23 gJ_binder_x23 iJ_binders_x23 fF_tree_x23 iT_fault_x23 iT_place_x23 iT_kind_x23 iT_at_x23 iT_number_x23 jT_name_x23 iT_next_x23 l3_x23 l2_x23 H locs ls b_iJ_used_x23 b_iJ_depth_x23 b_iJ_binders_x23 b_iT_at_x23 b_iT_number_x23 b_iT_next_x23 b_l3_x23 hq0 hq1 hq2 hq3 hu1x hu2x hu7x hdx hun hlr hfx23 hP hD hS hl
    refine lv_iload_n hx hb dX4_allOf_23 rfl (lv_at hl 0 rfl) ?_
    refine lv_sipush (v := 4000) hx hb dX4_allOf_24 (by decide) ?_
    refine W.cut (pc := 76) (fun H locs ls stk =>  stk = [] ∧ va_P (dC, dI) vwCl (WJ hJ aJ kJ hT hM hL (.ref dF_tree) iJ_used_x23 iJ_depth_x23 jJ_ownName gJ_binder_x23 iJ_binders_x23 iJ_firstSet iJ_secondSet ++ (WL hL aL kL hT hM (.ref dF_tree) iL_names gL_key fL_kind fL_one fL_two fL_base iL_params fL_paramOver dL_paramOver nL_params fL_paramUnder dL_paramUnder nL_pu gL_over gL_under fL_bound iL_nameAt iL_startAt iL_steps jL_scaleOver jL_scaleUnder ++ (WF hF aF kF dF_tree nF_tree fF_tree_x23 ++ (WT hT aT kT fT_tape dT_tape nT_tape iT_length iT_fault_x23 iT_place_x23 iT_kind_x23 iT_at_x23 iT_number_x23 jT_name_x23 iT_next_x23)))) H ∧ va_D A (WJ hJ aJ kJ hT hM hL (.ref dF_tree) iJ_used_x23 iJ_depth_x23 jJ_ownName gJ_binder_x23 iJ_binders_x23 iJ_firstSet iJ_secondSet ++ (WL hL aL kL hT hM (.ref dF_tree) iL_names gL_key fL_kind fL_one fL_two fL_base iL_params fL_paramOver dL_paramOver nL_params fL_paramUnder dL_paramUnder nL_pu gL_over gL_under fL_bound iL_nameAt iL_startAt iL_steps jL_scaleOver jL_scaleUnder ++ (WF hF aF kF dF_tree nF_tree fF_tree_x23 ++ (WT hT aT kT fT_tape dT_tape nT_tape iT_length iT_fault_x23 iT_place_x23 iT_kind_x23 iT_at_x23 iT_number_x23 jT_name_x23 iT_next_x23)))) ∧ va_S A s.heap H locs ∧ lv_has ls 5 [(3, .int l3_x23), (2, .int l2_x23), (1, .int r1), (0, .ref (hJ 0))]) (fun join4 => ?_) ?_
    · refine lv_icmp_ge (tgt := 76) hx hb dX4_allOf_27 (by decide) (fun c_27 => ?_) (fun c_27 => ?_)
      · have t_27 : l3_x23.toInt ≥ 4000 := toI_ge c_27 rfl (by decide : (4000 : Int32).toInt = 4000)
        have hl : lv_has _ _ ([(3, .int l3_x23), (2, .int l2_x23), (1, .int r1), (0, .ref (hJ 0))]) := lv_sub hl [0, 1, 2, 3] rfl
        exact join4 _ _ _ _ ⟨rfl, hP, hD, hS, hl⟩
      · have t_27 : ¬ l3_x23.toInt ≥ 4000 := toI_nge c_27 rfl (by decide : (4000 : Int32).toInt = 4000)
        refine lv_aload_n hx hb dX4_allOf_30 rfl (lv_at hl 3 rfl) ?_
        refine va_get (D := (dC, dI)) (ci := 4) (v := .ref (hT 0)) (C := RX4) (T := TX4) (N := 11) hx hb hts iwsMX4_allOf_in4 hown hK hP 0 rfl rfl 0 (by decide) (hts _ hm_m_X4_allOf_1) (fun _ h9 => h9) rfl dX4_allOf_31 ?_
        refine va_get (D := (dC, dI)) (ci := 9) (v := .int iT_kind_x23) (C := RX9) (T := TX9) (N := 9) hx hb hts iwsMX4_allOf_in9 hown hK hP 14 rfl rfl 4 (by decide) (hts (.fieldLink RX4 51 "OptimaWorks$Words" "kind" "I") (by decide +kernel)) (fun _ h9 => h9) rfl dX4_allOf_34 ?_
        refine lv_sipush (v := 265) hx hb dX4_allOf_37 (by decide) ?_
        refine lv_icmp_ne (tgt := 76) hx hb dX4_allOf_40 (by decide) (fun c_40 => ?_) (fun c_40 => ?_)
        · have t_40 : iT_kind_x23.toInt ≠ 265 := toI_ne c_40 rfl (by decide : (265 : Int32).toInt = 265)
          have hl : lv_has _ _ ([(3, .int l3_x23), (2, .int l2_x23), (1, .int r1), (0, .ref (hJ 0))]) := lv_sub hl [0, 1, 2, 3] rfl
          exact join4 _ _ _ _ ⟨rfl, hP, hD, hS, hl⟩
        · have t_40 : iT_kind_x23.toInt = 265 := toI_nne c_40 rfl (by decide : (265 : Int32).toInt = 265)
          refine lv_aload_n hx hb dX4_allOf_43 rfl (lv_at hl 3 rfl) ?_
          refine va_get (D := (dC, dI)) (ci := 4) (v := .ref (hT 0)) (C := RX4) (T := TX4) (N := 11) hx hb hts iwsMX4_allOf_in4 hown hK hP 0 rfl rfl 0 (by decide) (hts _ hm_m_X4_allOf_1) (fun _ h9 => h9) rfl dX4_allOf_44 ?_
          have p9 := cj_4_3 (WJ hJ aJ kJ hT hM hL (.ref dF_tree) iJ_used_x23 iJ_depth_x23 jJ_ownName gJ_binder_x23 iJ_binders_x23 iJ_firstSet iJ_secondSet) (WL hL aL kL hT hM (.ref dF_tree) iL_names gL_key fL_kind fL_one fL_two fL_base iL_params fL_paramOver dL_paramOver nL_params fL_paramUnder dL_paramUnder nL_pu gL_over gL_under fL_bound iL_nameAt iL_startAt iL_steps jL_scaleOver jL_scaleUnder) (WF hF aF kF dF_tree nF_tree fF_tree_x23) (WT hT aT kT fT_tape dT_tape nT_tape iT_length iT_fault_x23 iT_place_x23 iT_kind_x23 iT_at_x23 iT_number_x23 jT_name_x23 iT_next_x23)
          have hPc := hP.mem (fun q h => p9.mem_iff.mpr (List.mem_append_left _ h))
          have hDc := (hD.perm p9).left
          have hKc : va_K (dC, dI) vwCl (tT kT) _ := hK.sub [12] rfl
          have hFc := freeG p9 hD hS hA
          refine va_callv (va_runV (As := []) (rest := []) ⟨hx, hb, hml, hown, hts⟩ (m_X9_advance l hst dC dI hT aT kT fT_tape dT_tape nT_tape iT_length iT_fault_x23 iT_place_x23 iT_kind_x23 iT_at_x23 iT_number_x23 jT_name_x23 iT_next_x23 b_fT_tape (by first | exact b_nT_tape | with_reducible assumption | exact ⟨by omega, by omega⟩ | assumption) (b_iT_length) (b_iT_at_x23) (b_iT_number_x23) (b_iT_next_x23) (by first | with_reducible assumption | omega | assumption) (by first | with_reducible assumption | omega | (rw [iI_t (by omega) (by omega)]; omega) | decide | assumption) H.size) (cwV 0 hts gwsMX4_allOf_2 rfl rfl rfl (by decide +kernel) ⟨by first | decide +kernel | (dsimp only [headSpec] <;> omega), by first | decide +kernel | (dsimp only [headSpec] <;> omega)⟩) (fz_preE (va_recv hK hP (ci := 9) (q0 := 14) rfl rfl) hPc hKc hDc (fun a U g mk qE => qE.call) (fun U hU9 hW => by rw [hU9]; exact (((hE : CE A s s.heap).kept hS.2.1).narrow (fun q h => hFc q h)).warm hW)) rfl rfl hl.1 rfl (lv_room (Nat.le_of_ble_eq_true rfl)) dX4_allOf_47 ⟨by first | decide +kernel | (dsimp only [headSpec] <;> omega), by first | decide +kernel | (dsimp only [headSpec] <;> omega)⟩) hS (fun q _ h => hFc q h) hFc (fun u t9_ H locs ht hvm hw9 hB9 hz1 hk1 hS => ?_)
          revert u hw9 hB9
          refine fz_p5 ?_
          intro iT_kind_25 iT_at_25 iT_number_25 jT_name_25 iT_next_25 hw9 hB9
          try dsimp only at hw9 hB9
          revert hw9
          refine fz_a7 ?_
          intro b_iT_at_25 b_iT_number_25 b_iT_next_25 f25_0 f25_1 f25_2 f25_3
          have p8 := cj_4_3 (WJ hJ aJ kJ hT hM hL (.ref dF_tree) iJ_used_x23 iJ_depth_x23 jJ_ownName gJ_binder_x23 iJ_binders_x23 iJ_firstSet iJ_secondSet) (WL hL aL kL hT hM (.ref dF_tree) iL_names gL_key fL_kind fL_one fL_two fL_base iL_params fL_paramOver dL_paramOver nL_params fL_paramUnder dL_paramUnder nL_pu gL_over gL_under fL_bound iL_nameAt iL_startAt iL_steps jL_scaleOver jL_scaleUnder) (WF hF aF kF dF_tree nF_tree fF_tree_x23) (WT hT aT kT fT_tape dT_tape nT_tape iT_length iT_fault_x23 iT_place_x23 iT_kind_25 iT_at_25 iT_number_25 jT_name_25 iT_next_25)
          obtain ⟨hP, hD⟩ := frameG p9 p8 hP hD hk1 hFc (fz_P ht hB9.1) hB9.2
          refine lv_aload_n hx hb dX4_allOf_50 rfl (lv_at hl 3 rfl) ?_
          refine W.known (fun hz0 _ => ?_)
          have hFc := allFree hD hS hA
          refine vx_calli (vx_runV (As := []) (rest := []) ⟨hx, hb, hml, hown, hts⟩ (ih_X4_oneOf dC dI hJ aJ kJ hT hM hL iJ_used_x23 iJ_depth_x23 jJ_ownName gJ_binder_x23 iJ_binders_x23 iJ_firstSet iJ_secondSet aL kL iL_names gL_key fL_kind fL_one fL_two fL_base iL_params fL_paramOver dL_paramOver nL_params fL_paramUnder dL_paramUnder nL_pu gL_over gL_under fL_bound iL_nameAt iL_startAt iL_steps jL_scaleOver jL_scaleUnder hF aF kF dF_tree nF_tree fF_tree_x23 aT kT fT_tape dT_tape nT_tape iT_length iT_fault_x23 iT_place_x23 iT_kind_25 iT_at_25 iT_number_25 jT_name_25 iT_next_25 lv (b_iJ_used_x23) (b_iJ_depth_x23) (b_iJ_binders_x23) (b_iJ_firstSet) (b_iJ_secondSet) (b_iL_names) b_fL_kind b_fL_two b_fL_base (b_iL_params) (by first | exact b_nL_params | with_reducible assumption | exact ⟨by omega, by omega⟩ | assumption) (by first | with_reducible assumption | omega | (rw [iI_t (by omega) (by omega)]; omega) | assumption) (by first | with_reducible assumption | omega | (rw [iI_t (by omega) (by omega)]; omega) | assumption) (by first | with_reducible assumption | omega | (rw [iI_t (by omega) (by omega)]; omega) | assumption) (by first | exact b_nF_tree | with_reducible assumption | exact ⟨by omega, by omega⟩ | assumption) b_fT_tape (by first | exact b_nT_tape | with_reducible assumption | exact ⟨by omega, by omega⟩ | assumption) (b_iT_length) (b_iT_at_25) (b_iT_number_25) (b_iT_next_25) (by first | with_reducible assumption | omega | assumption) (by first | with_reducible assumption | omega | (rw [iI_t (by omega) (by omega)]; omega) | decide | assumption) (by first | with_reducible assumption | omega | (rw [iI_t (by omega) (by omega)]; omega) | decide | assumption) (by first | with_reducible assumption | omega | (rw [iI_t (by omega) (by omega)]; omega) | decide | assumption) (by first | with_reducible assumption | omega | (rw [iI_t (by omega) (by omega)]; omega) | decide | assumption) (by first | with_reducible assumption | omega | (rw [iI_t (by omega) (by omega)]; omega) | decide | assumption) (by first | with_reducible assumption | omega | (rw [iI_t (by omega) (by omega)]; omega) | decide | assumption) (by first | with_reducible assumption | omega | (rw [iI_t (by omega) (by omega)]; omega) | decide | assumption) (by first | with_reducible assumption | omega | (rw [iI_t (by omega) (by omega)]; omega) | decide | assumption) H.size) (cwV 0 hts gwsMX4_allOf_1 rfl rfl rfl (by decide +kernel) ⟨by first | decide +kernel | (dsimp only [headSpec] <;> omega), by first | decide +kernel | (dsimp only [headSpec] <;> omega)⟩) (fz_preE (va_recv hK hP (ci := 4) (q0 := 0) rfl rfl) hP hK hD (fun a U g mk qE => qE.call) (fun U hU9 hW => by rw [hU9]; exact (((hE : CE A s s.heap).kept hS.2.1).narrow (fun q h => hFc q h)).warm hW)) rfl rfl hl.1 rfl (lv_room (Nat.le_of_ble_eq_true rfl)) dX4_allOf_51 ⟨by first | decide +kernel | (dsimp only [headSpec] <;> omega), by first | decide +kernel | (dsimp only [headSpec] <;> omega)⟩) hS (fun q _ h => hFc q h) hFc (fun q _ h => hFc q h) (fun E ce q9 u t9_ H locs ht hvm hw9 hB9 hz1 hk1 hS hc1 hc2 hc3 => ?_) (fun r26 u t9_ H locs ht hvm hw9 hB9 hz1 hk1 hS => ?_)
          · revert u hw9 hB9
            refine fz_p12 ?_
            intro iJ_used_26 iJ_depth_26 gJ_binder_26 iJ_binders_26 fF_tree_26 iT_fault_26 iT_place_26 iT_kind_26 iT_at_26 iT_number_26 jT_name_26 iT_next_26 hw9 hB9
            try dsimp only at hw9 hB9
            revert hB9
            refine fz_a2 ?_
            intro hEx hB9
            revert hw9
            refine fz_a6 ?_
            intro b_iJ_used_26 b_iJ_depth_26 b_iJ_binders_26 b_iT_at_26 b_iT_number_26 b_iT_next_26
            have hP : va_P (dC, dI) vwCl (WJ hJ aJ kJ hT hM hL (.ref dF_tree) iJ_used_26 iJ_depth_26 jJ_ownName gJ_binder_26 iJ_binders_26 iJ_firstSet iJ_secondSet ++ (WL hL aL kL hT hM (.ref dF_tree) iL_names gL_key fL_kind fL_one fL_two fL_base iL_params fL_paramOver dL_paramOver nL_params fL_paramUnder dL_paramUnder nL_pu gL_over gL_under fL_bound iL_nameAt iL_startAt iL_steps jL_scaleOver jL_scaleUnder ++ (WF hF aF kF dF_tree nF_tree fF_tree_26 ++ (WT hT aT kT fT_tape dT_tape nT_tape iT_length iT_fault_26 iT_place_26 iT_kind_26 iT_at_26 iT_number_26 jT_name_26 iT_next_26)))) H := fz_P ht hB9.1
            have hD := fz_sd hP (hB9.2.weaken (fun _ q _ h => hFc q.1 h)) rfl
            exact vx_out (fun x hx9 => (htab x hx9).elim) hlocks hc1 hc2 hc3 (fun t9_ ht hvm => ⟨(iJ_used_26, iJ_depth_26, gJ_binder_26, iJ_binders_26, fF_tree_26, iT_fault_26, iT_place_26, iT_kind_26, iT_at_26, iT_number_26, jT_name_26, iT_next_26), ⟨(b_iJ_used_26), (b_iJ_depth_26), (b_iJ_binders_26), (b_iT_at_26), (b_iT_number_26), (b_iT_next_26)⟩, ⟨(by have h9 := hEx; exact h9), by rw [ht]; exact hP, hD⟩, hS.F ht⟩) hS.2.2 (by decide +kernel) (by decide +kernel)
          revert u hw9 hB9
          refine fz_p12 ?_
          intro iJ_used_26 iJ_depth_26 gJ_binder_26 iJ_binders_26 fF_tree_26 iT_fault_26 iT_place_26 iT_kind_26 iT_at_26 iT_number_26 jT_name_26 iT_next_26 hw9 hB9
          try dsimp only at hw9 hB9
          revert hw9
          refine fz_a16 ?_
          intro b_iJ_used_26 b_iJ_depth_26 b_iJ_binders_26 b_iT_at_26 b_iT_number_26 b_iT_next_26 f26_0 f26_1 f26_2 f26_3 f26_4 f26_5 f26_6 f26_7 f26_8 f26_9
          have hz8 := hB9.2.2
          rw [ht] at hz8
          have hz9 : H.size ≤ s.heap.size + 0 := by rw [hz8]; exact hz0
          refine W.tight (cells2 := 0) (slots2 := 0) hz9 (nS_0 hz9) ?_
          clear hz8 hz9
          have hP : va_P (dC, dI) vwCl (WJ hJ aJ kJ hT hM hL (.ref dF_tree) iJ_used_26 iJ_depth_26 jJ_ownName gJ_binder_26 iJ_binders_26 iJ_firstSet iJ_secondSet ++ (WL hL aL kL hT hM (.ref dF_tree) iL_names gL_key fL_kind fL_one fL_two fL_base iL_params fL_paramOver dL_paramOver nL_params fL_paramUnder dL_paramUnder nL_pu gL_over gL_under fL_bound iL_nameAt iL_startAt iL_steps jL_scaleOver jL_scaleUnder ++ (WF hF aF kF dF_tree nF_tree fF_tree_26 ++ (WT hT aT kT fT_tape dT_tape nT_tape iT_length iT_fault_26 iT_place_26 iT_kind_26 iT_at_26 iT_number_26 jT_name_26 iT_next_26)))) H := fz_P ht hB9.1
          have hD := fz_sd hP (hB9.2.1.weaken (fun _ q _ h => hFc q.1 h)) rfl
          have hF2 := f26_1
          refine lv_istore hx hb dX4_allOf_54 hl (by decide) rfl (fun ls (hl : lv_has ls _ ([(4, .int r26), (3, .int l3_x23), (2, .int l2_x23), (1, .int r1), (0, .ref (hJ 0))])) => ?_)
          refine lv_aload_n hx hb dX4_allOf_56 rfl (lv_at hl 4 rfl) ?_
          refine va_get (D := (dC, dI)) (ci := 4) (v := .ref dF_tree) (C := RX4) (T := TX4) (N := 11) hx hb hts iwsMX4_allOf_in4 hown hK hP 0 rfl rfl 3 (by decide) (hts _ hm_m_X4_allOf_0) (fun _ h9 => h9) rfl dX4_allOf_57 ?_
          refine lv_iload_n hx hb dX4_allOf_60 rfl (lv_at hl 2 rfl) ?_
          refine lv_bipush (v := 6) hx hb dX4_allOf_61 (by decide) ?_
          refine lv_iadd hx hb dX4_allOf_63 ?_
          refine lv_topi (fun y27 hy27 => ?_)
          obtain rfl : (iI (l2_x23.toInt + 6)) = y27 := (hy27.trans (iI_add2 (iI_of _) (by decide : (6 : Int32) = iI 6))).symm
          refine lv_iload hx hb dX4_allOf_64 (lv_at hl 0 rfl) ?_
          refine va_iast (cA := kF 0) (n := nF_tree) (f := fF_tree_26) hx hb hK hP hD hS 13 11 rfl rfl (vp_iI (by omega) (by omega) (by omega)) dX4_allOf_66 (fun H locs hP hD hS => ?_)
          obtain ⟨u28, hu28⟩ : ∃ f9, f9 = upd fF_tree_26 ((iI (l2_x23.toInt + 6))).toNatClampNeg r26 := ⟨_, rfl⟩
          have hP : va_P (dC, dI) vwCl (WJ hJ aJ kJ hT hM hL (.ref dF_tree) iJ_used_26 iJ_depth_26 jJ_ownName gJ_binder_26 iJ_binders_26 iJ_firstSet iJ_secondSet ++ (WL hL aL kL hT hM (.ref dF_tree) iL_names gL_key fL_kind fL_one fL_two fL_base iL_params fL_paramOver dL_paramOver nL_params fL_paramUnder dL_paramUnder nL_pu gL_over gL_under fL_bound iL_nameAt iL_startAt iL_steps jL_scaleOver jL_scaleUnder ++ (WF hF aF kF dF_tree nF_tree u28 ++ (WT hT aT kT fT_tape dT_tape nT_tape iT_length iT_fault_26 iT_place_26 iT_kind_26 iT_at_26 iT_number_26 jT_name_26 iT_next_26)))) H := by rw [hu28]; exact hP
          have hD : va_D A (WJ hJ aJ kJ hT hM hL (.ref dF_tree) iJ_used_26 iJ_depth_26 jJ_ownName gJ_binder_26 iJ_binders_26 iJ_firstSet iJ_secondSet ++ (WL hL aL kL hT hM (.ref dF_tree) iL_names gL_key fL_kind fL_one fL_two fL_base iL_params fL_paramOver dL_paramOver nL_params fL_paramUnder dL_paramUnder nL_pu gL_over gL_under fL_bound iL_nameAt iL_startAt iL_steps jL_scaleOver jL_scaleUnder ++ (WF hF aF kF dF_tree nF_tree u28 ++ (WT hT aT kT fT_tape dT_tape nT_tape iT_length iT_fault_26 iT_place_26 iT_kind_26 iT_at_26 iT_number_26 jT_name_26 iT_next_26)))) := by rw [hu28]; exact hD
          have b_u28 : WrL fF_tree_26 u28 (l2_x23.toInt + 6) r26.toInt := by rw [hu28]; exact WrL.ofx rfl (by omega) (by omega)
          clear hu28
          refine lv_iload hx hb dX4_allOf_67 (lv_at hl 0 rfl) ?_
          refine lv_istore_n hx hb dX4_allOf_69 rfl hl (by decide) rfl (fun ls (hl : lv_has ls _ ([(2, .int r26), (4, .int r26), (3, .int l3_x23), (1, .int r1), (0, .ref (hJ 0))])) => ?_)
          refine lv_iinc (v := (iI (l3_x23.toInt + 1))) hx hb dX4_allOf_70 hl (k := 2) rfl (iI_add2 (iI_of _) (by decide : (1 : Int32) = iI 1)) (by decide) rfl (fun ls (hl : lv_has ls _ ([(3, .int (iI (l3_x23.toInt + 1))), (2, .int r26), (4, .int r26), (1, .int r1), (0, .ref (hJ 0))])) => ?_)
          refine lv_goto (tgt := 23) hx hb dX4_allOf_73 (by decide) ?_
          have hl : lv_has _ _ ([(3, .int (iI (l3_x23.toInt + 1))), (2, .int r26), (1, .int r1), (0, .ref (hJ 0))]) := lv_sub hl [0, 1, 3, 4] rfl
          exact ihx23 iJ_used_26 iJ_depth_26 gJ_binder_26 iJ_binders_26 u28 iT_fault_26 iT_place_26 iT_kind_26 iT_at_26 iT_number_26 jT_name_26 iT_next_26 (iI (l3_x23.toInt + 1)) r26 _ _ _ (b_iJ_used_26) (b_iJ_depth_26) (b_iJ_binders_26) (b_iT_at_26) (b_iT_number_26) (b_iT_next_26) (iI_rng (Int.le_trans (by decide) (Int.add_le_add (b_l3_x23.1) (Int.le_refl _))) (by omega) (by decide) (by decide)) (show iT_at.toInt ≤ iT_at_26.toInt from by omega) (show iT_at_26.toInt ≤ iT_next_26.toInt from by first | done | assumption | omega | (rw [iI_t (by omega) (by omega)]; omega)) (show iT_next_26.toInt ≤ iT_length.toInt from by first | done | assumption | omega | (rw [iI_t (by omega) (by omega)]; omega)) (show (iT_kind_26.toInt = 44 ∨ iT_kind_26.toInt = 61) → iT_at_26.toInt < iT_next_26.toInt from by first | done | assumption | omega | (rw [iI_t (by omega) (by omega)]; omega)) (show iJ_used.toInt + 14 ≤ iJ_used_26.toInt from by omega) (show iJ_used_26.toInt ≤ ((nF_tree : Nat) : Int) from by first | done | assumption | omega | (rw [iI_t (by omega) (by omega)]; omega)) (show iJ_used_26.toInt % 7 = 0 from by omega) (show iJ_depth_26.toInt = iJ_depth.toInt from by omega) (show (UnL fF_tree u28 fL_kind fL_one fL_two iL_names.toInt iJ_used.toInt 11 iJ_used_26.toInt [(twL u28 (iJ_used.toInt + 3), 12, lv), (r26.toInt, 12, lv)]) ∧ twL u28 (r26.toInt + 6) = 0 from UnL.step hun.1 hF2 (LkL.of b_u28 (by omega)) (by omega)) (show 7 ≤ r26.toInt ∧ r26.toInt + 7 ≤ iJ_used_26.toInt ∧ r26.toInt % 7 = 0 from by omega) (by have e9 : ((iI (l3_x23.toInt + 1))).toInt = (l3_x23.toInt + 1) := (iI_t (Int.le_trans (by decide) (Int.add_le_add (b_l3_x23.1) (Int.le_refl _))) (Int.le_trans (Int.add_le_add (b_l3_x23.2) (Int.le_refl _)) (by decide))); omega) hP hD hS hl
    · rintro H locs ls stk ⟨rfl, hP, hD, hS, hl⟩
      refine lv_iload_n hx hb dX4_allOf_76 rfl (lv_at hl 2 rfl) ?_
      refine vx_ret ?_
      refine W.known (fun hz9 _ => ?_)
      refine W.widen (k := 1) (n := 6) (by decide +kernel) (by decide +kernel) ?_
      exact W.iret (v := r1) hx hb hr (fun t9_ ht hW => ⟨⟨r1, (iJ_used_x23, iJ_depth_x23, gJ_binder_x23, iJ_binders_x23, fF_tree_x23, iT_fault_x23, iT_place_x23, iT_kind_x23, iT_at_x23, iT_number_x23, jT_name_x23, iT_next_x23), rfl, ⟨b_iJ_used_x23, b_iJ_depth_x23, b_iJ_binders_x23, b_iT_at_x23, b_iT_number_x23, b_iT_next_x23, (by (try dsimp only); first | done | assumption | omega | (rw [iI_t (by omega) (by omega)]; omega)), (by (try dsimp only); exact (UnL.fin11 hun.1 (by omega))), (by (try dsimp only); first | done | assumption | omega | (rw [iI_t (by omega) (by omega)]; omega)), (by (try dsimp only); first | done | assumption | omega | (rw [iI_t (by omega) (by omega)]; omega)), (by (try dsimp only); first | done | assumption | omega | (rw [iI_t (by omega) (by omega)]; omega)), (by (try dsimp only); first | done | assumption | omega | (rw [iI_t (by omega) (by omega)]; omega)), (by (try dsimp only); omega), (by (try dsimp only); first | done | assumption | omega | (rw [iI_t (by omega) (by omega)]; omega)), (by (try dsimp only); first | done | assumption | omega | (rw [iI_t (by omega) (by omega)]; omega)), (by (try dsimp only); first | done | assumption | omega | (rw [iI_t (by omega) (by omega)]; omega))⟩, by rw [ht]; exact hP, hD, by rw [ht]; first | done | exact Nat.le_antisymm hz9 hS.1⟩, hS.F ht⟩) hS.2.2 dX4_allOf_77
end

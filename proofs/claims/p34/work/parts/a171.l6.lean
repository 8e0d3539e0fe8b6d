theorem dX10_anyHolds_0 : decode cX10_anyHolds 0 = .ok (.aload_n 0, 1) := dk_42 (by decide +kernel)
theorem dX10_anyHolds_1 : decode cX10_anyHolds 1 = .ok (.getfield 55, 3) := dk_180 (by decide +kernel)
theorem dX10_anyHolds_4 : decode cX10_anyHolds 4 = .ok (.iload_n 1, 1) := dk_27 (by decide +kernel)
theorem dX10_anyHolds_5 : decode cX10_anyHolds 5 = .ok (.iconst 3, 1) := dk_6 (by decide +kernel)
theorem dX10_anyHolds_6 : decode cX10_anyHolds 6 = .ok (.iadd, 1) := dk_96 (by decide +kernel)
theorem dX10_anyHolds_7 : decode cX10_anyHolds 7 = .ok (.iaload, 1) := dk_46 (by decide +kernel)
theorem dX10_anyHolds_8 : decode cX10_anyHolds 8 = .ok (.istore_n 3, 1) := dk_62 (by decide +kernel)
theorem dX10_anyHolds_9 : decode cX10_anyHolds 9 = .ok (.iconst 0, 1) := dk_3 (by decide +kernel)
theorem dX10_anyHolds_10 : decode cX10_anyHolds 10 = .ok (.istore 4, 2) := dk_54 (by decide +kernel)
theorem dX10_anyHolds_12 : decode cX10_anyHolds 12 = .ok (.iload 4, 2) := dk_21 (by decide +kernel)
theorem dX10_anyHolds_14 : decode cX10_anyHolds 14 = .ok (.sipush 4000, 3) := dk_17 (by decide +kernel)
theorem dX10_anyHolds_17 : decode cX10_anyHolds 17 = .ok (.if_icmp .ge 34, 3) := dk_162 (by decide +kernel)
theorem dX10_anyHolds_20 : decode cX10_anyHolds 20 = .ok (.iload_n 3, 1) := dk_29 (by decide +kernel)
theorem dX10_anyHolds_21 : decode cX10_anyHolds 21 = .ok (.ifCond .eq 30, 3) := dk_153 (by decide +kernel)
theorem dX10_anyHolds_24 : decode cX10_anyHolds 24 = .ok (.aload_n 0, 1) := dk_42 (by decide +kernel)
theorem dX10_anyHolds_25 : decode cX10_anyHolds 25 = .ok (.iload_n 3, 1) := dk_29 (by decide +kernel)
theorem dX10_anyHolds_26 : decode cX10_anyHolds 26 = .ok (.iload_n 2, 1) := dk_28 (by decide +kernel)
theorem dX10_anyHolds_27 : decode cX10_anyHolds 27 = .ok (.invokevirtual 249, 3) := dk_182 (by decide +kernel)
theorem dX10_anyHolds_30 : decode cX10_anyHolds 30 = .ok (.ifCond .eq 5, 3) := dk_153 (by decide +kernel)
theorem dX10_anyHolds_33 : decode cX10_anyHolds 33 = .ok (.iconst 1, 1) := dk_4 (by decide +kernel)
theorem dX10_anyHolds_34 : decode cX10_anyHolds 34 = .ok (.ireturn, 1) := dk_172 (by decide +kernel)
theorem dX10_anyHolds_35 : decode cX10_anyHolds 35 = .ok (.aload_n 0, 1) := dk_42 (by decide +kernel)
theorem dX10_anyHolds_36 : decode cX10_anyHolds 36 = .ok (.getfield 55, 3) := dk_180 (by decide +kernel)
theorem dX10_anyHolds_39 : decode cX10_anyHolds 39 = .ok (.iload_n 3, 1) := dk_29 (by decide +kernel)
theorem dX10_anyHolds_40 : decode cX10_anyHolds 40 = .ok (.bipush 6, 2) := dk_16 (by decide +kernel)
theorem dX10_anyHolds_42 : decode cX10_anyHolds 42 = .ok (.iadd, 1) := dk_96 (by decide +kernel)
theorem dX10_anyHolds_43 : decode cX10_anyHolds 43 = .ok (.iaload, 1) := dk_46 (by decide +kernel)
theorem dX10_anyHolds_44 : decode cX10_anyHolds 44 = .ok (.istore_n 3, 1) := dk_62 (by decide +kernel)
theorem dX10_anyHolds_45 : decode cX10_anyHolds 45 = .ok (.iinc 4 1, 3) := dk_132 (by decide +kernel)
theorem dX10_anyHolds_48 : decode cX10_anyHolds 48 = .ok (.goto (-36), 3) := dk_167 (by decide +kernel)
theorem dX10_anyHolds_51 : decode cX10_anyHolds 51 = .ok (.iconst 0, 1) := dk_3 (by decide +kernel)
theorem dX10_anyHolds_52 : decode cX10_anyHolds 52 = .ok (.ireturn, 1) := dk_172 (by decide +kernel)
theorem iwsMX10_anyHolds_in10 : ∀ w ∈ wsX100, w ∈ wsMX10_anyHolds := fun w h => List.mem_cons_of_mem _ (iwsGW_in10 w h)
theorem gwsMX10_anyHolds_0 : GoodIn wsMX10_anyHolds (wsV RX10 249 RX10 yX10_allHold wsMX10_allHold) := goodIn_rec (hd := [.methodLink RX10 249 yX10_allHold, .instanceMethod yX10_allHold, .selects RX10 yX10_allHold yX10_allHold, .initialized RX10]) (by decide +kernel) (by decide +kernel) gdwsGW
set_option maxHeartbeats 4000000 in
set_option maxRecDepth 100000 in
/-- whether any holds -/
theorem m_X10_anyHolds (l : Launch) (hst : l.stackTraces = false) (ev : Nat) (ih_X10_allHold : Cm_X10_allHold l (ev + 1)) : Cm_X10_anyHolds l (ev + 1) := by
  intro dC dI hL aL kL hT hM iL_names gL_key fL_kind fL_one fL_two fL_base iL_params fL_paramOver dL_paramOver nL_params fL_paramUnder dL_paramUnder nL_pu gL_over gL_under fL_bound iL_nameAt iL_startAt iL_steps jL_scaleOver jL_scaleUnder hF aF kF dF_tree nF_tree fF_tree aT kT fT_tape dT_tape nT_tape iT_length iT_fault iT_place iT_kind iT_at iT_number jT_name iT_next aM kM iM_stands iM_variables iM_rows iM_goals iM_differents iM_cases fM_from fM_to fM_whole fM_ways iM_plainRows fM_plainRow fM_kept fM_goalOver fM_goalUnder fM_goalMax fM_different V lo lv p1 p2 b_iL_names b_fL_kind b_fL_two b_fL_base b_iL_params b_nL_params b_nm b_pm b_pu b_nF_tree b_fT_tape b_nT_tape b_iT_length b_iT_at b_iT_number b_iT_next b_len b_iM_stands b_iM_variables b_iM_rows b_iM_goals b_iM_differents b_iM_cases b_fM_ways b_iM_plainRows b_fM_plainRow b_pr b_p2 hV hn hlv hsl sz
  refine vx_ofW (cc := cX10_anyHolds) (maxL := 5) (ret := (some .boolean)) (by decide) rfl ?_
  intro p e s m args below meth c s₁ B hml htab hv
  obtain ⟨rfl, hsz, hP, hK, hD0, hE⟩ := hv
  have hx := B.exec
  have hb := B.bytes
  have hr := B.returns
  have hts := atoms_spec (ws := wsMX10_anyHolds) B.pre
  have hown : s.vm.findClass RX10 = some m.cls := findClass_of_methodNamed B.named
  have hlocks := B.notSynchronized
  subst hsz
  have hD := hD0.self (sz := s.heap.size)
  generalize hAe : va_A (WL hL aL kL hT hM (.ref dF_tree) iL_names gL_key fL_kind fL_one fL_two fL_base iL_params fL_paramOver dL_paramOver nL_params fL_paramUnder dL_paramUnder nL_pu gL_over gL_under fL_bound iL_nameAt iL_startAt iL_steps jL_scaleOver jL_scaleUnder ++ (WF hF aF kF dF_tree nF_tree fF_tree ++ (WT hT aT kT fT_tape dT_tape nT_tape iT_length iT_fault iT_place iT_kind iT_at iT_number jT_name iT_next ++ (WM hM aM kM iM_stands iM_variables iM_rows iM_goals iM_differents iM_cases fM_from fM_to fM_whole fM_ways iM_plainRows fM_plainRow fM_kept fM_goalOver fM_goalUnder fM_goalMax fM_different)))) s.heap.size = A at hD hE ⊢
  have hA : ∀ q : Nat, s.heap.size ≤ q → A q := fun q h => by rw [← hAe]; exact Or.inr h
  have hS : va_S A s.heap s.heap [] := va_S.rf
  have hl := lv_entry ([.ref (hL 0), .int p1, .int p2]) (n := 5) (Nat.le_of_ble_eq_true rfl)
  rw [lg_entry_eq]
  generalize (lg_sl ([.ref (hL 0), .int p1, .int p2]) ++ List.replicate (5 - (lg_sl ([.ref (hL 0), .int p1, .int p2])).length) Slot.unset).toArray = ls at hl ⊢
  have hl : lv_has ls 5 [(0, .ref (hL 0)), (1, .int p1), (2, .int p2)] := hl
  have hr0 := TrL.rng hV hn
  refine lv_aload_n hx hb dX10_anyHolds_0 rfl (lv_at hl 0 rfl) ?_
  refine va_get (D := (dC, dI)) (ci := 10) (v := .ref dF_tree) (C := RX10) (T := TX10) (N := 20) hx hb hts iwsMX10_anyHolds_in10 hown hK hP 0 rfl rfl 2 (by decide) (hts (.fieldLink RX10 55 "OptimaWorks$Worker" "tree" "[I") (by decide +kernel)) (fun _ h9 => h9) rfl dX10_anyHolds_1 ?_
  refine lv_iload_n hx hb dX10_anyHolds_4 rfl (lv_at hl 1 rfl) ?_
  refine lv_iconst (v := 3) hx hb dX10_anyHolds_5 (by decide) ?_
  refine lv_iadd hx hb dX10_anyHolds_6 ?_
  refine lv_topi (fun y1 hy1 => ?_)
  obtain rfl : (iI (p1.toInt + 3)) = y1 := (hy1.trans (iI_add2 (iI_of _) (by decide : (3 : Int32) = iI 3))).symm
  refine va_iald (cA := kF 0) (n := nF_tree) (f := fF_tree) hx hb hK hP 11 10 rfl rfl (vp_iI (by omega) (by omega) (by omega)) dX10_anyHolds_7 ?_
  refine lv_topi (fun v2 hv2 => ?_)
  have b_v2 : v2.toInt = twL fF_tree (p1.toInt + 3) := by rw [hv2]; exact tw_i (by omega) (by omega)
  have b1_v2 : v2.toInt = 0 ∨ V v2.toInt 11 lv := by rw [hv2]; exact Or.inr (Vld (tw_i (by omega) (by omega)) (TrL.c10 hV hn))
  clear hv2
  refine lv_istore_n hx hb dX10_anyHolds_8 rfl hl (by decide) rfl (fun ls (hl : lv_has ls _ ([(3, .int v2), (0, .ref (hL 0)), (1, .int p1), (2, .int p2)])) => ?_)
  refine lv_iconst (v := 0) hx hb dX10_anyHolds_9 (by decide) ?_
  refine lv_istore hx hb dX10_anyHolds_10 hl (by decide) rfl (fun ls (hl : lv_has ls _ ([(4, .int 0), (3, .int v2), (0, .ref (hL 0)), (1, .int p1), (2, .int p2)])) => ?_)
  have hl : lv_has _ _ ([(4, .int 0), (3, .int v2), (0, .ref (hL 0)), (1, .int p1), (2, .int p2)]) := lv_sub hl [0, 1, 2, 3, 4] rfl
  refine (fun (loop : ∀ (n9 : Nat) (gL_over_x12 : Nat → Int64) (gL_under_x12 : Nat → Int64) (fL_bound_x12 : Nat → Int32) (iL_steps_x12 : Int32) (iT_fault_x12 : Int32) (iT_place_x12 : Int32) (l4_x12 : Int32) (l3_x12 : Int32) (H : Heap) (locs : List Loc) (ls : Array Slot), (0 ≤ l4_x12.toInt ∧ l4_x12.toInt ≤ 4000) → (l3_x12.toInt = 0 ∨ V l3_x12.toInt 11 lv) → (4000 - l4_x12.toInt < ((n9 : Nat) : Int)) → va_P (dC, dI) vwCl (WL hL aL kL hT hM (.ref dF_tree) iL_names gL_key fL_kind fL_one fL_two fL_base iL_params fL_paramOver dL_paramOver nL_params fL_paramUnder dL_paramUnder nL_pu gL_over_x12 gL_under_x12 fL_bound_x12 iL_nameAt iL_startAt iL_steps_x12 jL_scaleOver jL_scaleUnder ++ (WF hF aF kF dF_tree nF_tree fF_tree ++ (WT hT aT kT fT_tape dT_tape nT_tape iT_length iT_fault_x12 iT_place_x12 iT_kind iT_at iT_number jT_name iT_next ++ (WM hM aM kM iM_stands iM_variables iM_rows iM_goals iM_differents iM_cases fM_from fM_to fM_whole fM_ways iM_plainRows fM_plainRow fM_kept fM_goalOver fM_goalUnder fM_goalMax fM_different)))) H → va_D A (WL hL aL kL hT hM (.ref dF_tree) iL_names gL_key fL_kind fL_one fL_two fL_base iL_params fL_paramOver dL_paramOver nL_params fL_paramUnder dL_paramUnder nL_pu gL_over_x12 gL_under_x12 fL_bound_x12 iL_nameAt iL_startAt iL_steps_x12 jL_scaleOver jL_scaleUnder ++ (WF hF aF kF dF_tree nF_tree fF_tree ++ (WT hT aT kT fT_tape dT_tape nT_tape iT_length iT_fault_x12 iT_place_x12 iT_kind iT_at iT_number jT_name iT_next ++ (WM hM aM kM iM_stands iM_variables iM_rows iM_goals iM_differents iM_cases fM_from fM_to fM_whole fM_ways iM_plainRows fM_plainRow fM_kept fM_goalOver fM_goalUnder fM_goalMax fM_different)))) → va_S A s.heap H locs → lv_has ls 5 [(4, .int l4_x12), (3, .int l3_x12), (0, .ref (hL 0)), (1, .int p1), (2, .int p2)] → W p l e _ s m _ below meth c H locs 0 0 _ (F0 m 12 ls [])) => loop (4001) gL_over gL_under fL_bound iL_steps iT_fault iT_place 0 v2 _ _ _ (show 0 ≤ (0 : Int32).toInt ∧ (0 : Int32).toInt ≤ 4000 from by decide) (show v2.toInt = 0 ∨ V v2.toInt 11 lv from by assumption) ((by have e9 : (0 : Int32).toInt = 0 := (by decide : (0 : Int32).toInt = 0); omega)) hP hD hS hl) ?_
  intro n9
  induction n9 with
  | zero => intro gL_over_x12 gL_under_x12 fL_bound_x12 iL_steps_x12 iT_fault_x12 iT_place_x12 l4_x12 l3_x12 H locs ls b_l4_x12 hpt hf9; exact False.elim (by omega)
  | succ n9 ihx12 =>
    intro gL_over_x12 gL_under_x12 fL_bound_x12 iL_steps_x12 iT_fault_x12 iT_place_x12 l4_x12 l3_x12 H locs ls b_l4_x12 hpt hfx12 hP hD hS hl
    refine lv_iload hx hb dX10_anyHolds_12 (lv_at hl 0 rfl) ?_
    refine lv_sipush (v := 4000) hx hb dX10_anyHolds_14 (by decide) ?_
    refine lv_icmp_ge (tgt := 51) hx hb dX10_anyHolds_17 (by decide) (fun c_17 => ?_) (fun c_17 => ?_)
    · have t_17 : l4_x12.toInt ≥ 4000 := toI_ge c_17 rfl (by decide : (4000 : Int32).toInt = 4000)
      refine lv_iconst (v := 0) hx hb dX10_anyHolds_51 (by decide) ?_
      refine vx_ret ?_
      refine W.known (fun hz9 _ => ?_)
      refine W.widen (k := 1) (n := 6) (by decide +kernel) (by decide +kernel) ?_
      exact W.zret (v := 0) hx hb hr rfl (fun t9_ ht hW => ⟨⟨(0 : Int32), (gL_over_x12, gL_under_x12, fL_bound_x12, iL_steps_x12, iT_fault_x12, iT_place_x12), rfl, (show 0 ≤ (0 : Int32).toInt ∧ (0 : Int32).toInt ≤ 1 from by decide), by rw [ht]; exact hP, hD, by rw [ht]; first | done | exact Nat.le_antisymm hz9 hS.1⟩, hS.F ht⟩) hS.2.2 dX10_anyHolds_52
    · have t_17 : ¬ l4_x12.toInt ≥ 4000 := toI_nge c_17 rfl (by decide : (4000 : Int32).toInt = 4000)
      refine lv_iload_n hx hb dX10_anyHolds_20 rfl (lv_at hl 1 rfl) ?_
      refine lv_if_eq (tgt := 51) hx hb dX10_anyHolds_21 (by decide) (fun c_21 => ?_) (fun c_21 => ?_)
      · have t_21 : l3_x12.toInt = 0 := toI_eq c_21 rfl (by decide : (0 : Int32).toInt = 0)
        refine lv_iconst (v := 0) hx hb dX10_anyHolds_51 (by decide) ?_
        refine vx_ret ?_
        refine W.known (fun hz9 _ => ?_)
        refine W.widen (k := 1) (n := 6) (by decide +kernel) (by decide +kernel) ?_
        exact W.zret (v := 0) hx hb hr rfl (fun t9_ ht hW => ⟨⟨(0 : Int32), (gL_over_x12, gL_under_x12, fL_bound_x12, iL_steps_x12, iT_fault_x12, iT_place_x12), rfl, (show 0 ≤ (0 : Int32).toInt ∧ (0 : Int32).toInt ≤ 1 from by decide), by rw [ht]; exact hP, hD, by rw [ht]; first | done | exact Nat.le_antisymm hz9 hS.1⟩, hS.F ht⟩) hS.2.2 dX10_anyHolds_52
      · have t_21 : ¬ l3_x12.toInt = 0 := toI_neq c_21 rfl (by decide : (0 : Int32).toInt = 0)
        have hpv := hpt.resolve_left t_21
        have hr1 := TrL.rng hV hpv
        refine lv_aload_n hx hb dX10_anyHolds_24 rfl (lv_at hl 2 rfl) ?_
        refine lv_iload_n hx hb dX10_anyHolds_25 rfl (lv_at hl 1 rfl) ?_
        refine lv_iload_n hx hb dX10_anyHolds_26 rfl (lv_at hl 4 rfl) ?_
        refine W.known (fun hz0 _ => ?_)
        have hFc := allFree hD hS hA
        refine vx_calli (vx_runV (As := [.int l3_x12, .int p2]) (rest := []) ⟨hx, hb, hml, hown, hts⟩ (ih_X10_allHold dC dI hL aL kL hT hM iL_names gL_key fL_kind fL_one fL_two fL_base iL_params fL_paramOver dL_paramOver nL_params fL_paramUnder dL_paramUnder nL_pu gL_over_x12 gL_under_x12 fL_bound_x12 iL_nameAt iL_startAt iL_steps_x12 jL_scaleOver jL_scaleUnder hF aF kF dF_tree nF_tree fF_tree aT kT fT_tape dT_tape nT_tape iT_length iT_fault_x12 iT_place_x12 iT_kind iT_at iT_number jT_name iT_next aM kM iM_stands iM_variables iM_rows iM_goals iM_differents iM_cases fM_from fM_to fM_whole fM_ways iM_plainRows fM_plainRow fM_kept fM_goalOver fM_goalUnder fM_goalMax fM_different V lo lv l3_x12 p2 (b_iL_names) b_fL_kind b_fL_two b_fL_base (b_iL_params) (by first | exact b_nL_params | assumption | exact ⟨by omega, by omega⟩) (by first | assumption | omega | (rw [iI_t (by omega) (by omega)]; omega)) (by first | assumption | omega | (rw [iI_t (by omega) (by omega)]; omega)) (by first | assumption | omega | (rw [iI_t (by omega) (by omega)]; omega)) (by first | exact b_nF_tree | assumption | exact ⟨by omega, by omega⟩) b_fT_tape (by first | exact b_nT_tape | assumption | exact ⟨by omega, by omega⟩) (b_iT_length) (b_iT_at) (b_iT_number) (b_iT_next) (by first | assumption | omega) (b_iM_stands) (b_iM_variables) (b_iM_rows) (b_iM_goals) (b_iM_differents) (b_iM_cases) b_fM_ways (b_iM_plainRows) b_fM_plainRow (by first | assumption | omega) (b_p2) (by first | assumption | omega | (rw [iI_t (by omega) (by omega)]; omega) | decide) (by first | assumption | omega | (rw [iI_t (by omega) (by omega)]; omega) | decide) (by first | assumption | omega | (rw [iI_t (by omega) (by omega)]; omega) | decide) (by first | assumption | omega | (rw [iI_t (by omega) (by omega)]; omega) | decide) H.size) (cwV 2 hts gwsMX10_anyHolds_0 rfl rfl rfl (by decide +kernel) ⟨by (dsimp only [headSpec] <;> omega), by (dsimp only [headSpec] <;> omega)⟩) (fz_preE (va_recv hK hP (ci := 10) (q0 := 0) rfl rfl) hP hK hD (fun a U g mk qE => qE.call) (fun U hU9 hW => by rw [hU9]; exact (((hE : CE A s s.heap).kept hS.2.1).narrow (fun q h => hFc q h)).warm hW)) rfl rfl hl.1 rfl (lv_room (Nat.le_of_ble_eq_true rfl)) dX10_anyHolds_27 ⟨by (dsimp only [headSpec] <;> omega), by (dsimp only [headSpec] <;> omega)⟩) hS (fun q _ h => hFc q h) hFc (fun q _ h => hFc q h) (fun E ce q9 u t9_ H locs ht hvm hw9 hB9 hz1 hk1 hS hc1 hc2 hc3 => ?_) (fun r9 u t9_ H1 locs ht hvm hw9 hB9 hz1 hk1 hS => ?_)
        · obtain ⟨gL_over_9, gL_under_9, fL_bound_9, iL_steps_9, iT_fault_9, iT_place_9⟩ := u
          try dsimp only at hw9 hB9
          obtain ⟨hEx, hB9⟩ := hB9
          clear hw9
          have hP : va_P (dC, dI) vwCl (WL hL aL kL hT hM (.ref dF_tree) iL_names gL_key fL_kind fL_one fL_two fL_base iL_params fL_paramOver dL_paramOver nL_params fL_paramUnder dL_paramUnder nL_pu gL_over_9 gL_under_9 fL_bound_9 iL_nameAt iL_startAt iL_steps_9 jL_scaleOver jL_scaleUnder ++ (WF hF aF kF dF_tree nF_tree fF_tree ++ (WT hT aT kT fT_tape dT_tape nT_tape iT_length iT_fault_9 iT_place_9 iT_kind iT_at iT_number jT_name iT_next ++ (WM hM aM kM iM_stands iM_variables iM_rows iM_goals iM_differents iM_cases fM_from fM_to fM_whole fM_ways iM_plainRows fM_plainRow fM_kept fM_goalOver fM_goalUnder fM_goalMax fM_different)))) H := fz_P ht hB9.1
          have hD : va_D A (WL hL aL kL hT hM (.ref dF_tree) iL_names gL_key fL_kind fL_one fL_two fL_base iL_params fL_paramOver dL_paramOver nL_params fL_paramUnder dL_paramUnder nL_pu gL_over_9 gL_under_9 fL_bound_9 iL_nameAt iL_startAt iL_steps_9 jL_scaleOver jL_scaleUnder ++ (WF hF aF kF dF_tree nF_tree fF_tree ++ (WT hT aT kT fT_tape dT_tape nT_tape iT_length iT_fault_9 iT_place_9 iT_kind iT_at iT_number jT_name iT_next ++ (WM hM aM kM iM_stands iM_variables iM_rows iM_goals iM_differents iM_cases fM_from fM_to fM_whole fM_ways iM_plainRows fM_plainRow fM_kept fM_goalOver fM_goalUnder fM_goalMax fM_different)))) := hB9.2.weaken (fun _ q _ h => hFc q.1 h)
          exact vx_out (fun x hx9 => (htab x hx9).elim) hlocks hc1 hc2 hc3 (fun t9_ ht hvm => ⟨(gL_over_9, gL_under_9, fL_bound_9, iL_steps_9, iT_fault_9, iT_place_9), trivial, ⟨(by have h9 := hEx; exact h9), by rw [ht]; exact hP, hD⟩, hS.F ht⟩) hS.2.2 (by decide +kernel) (by decide +kernel)
        obtain ⟨gL_over_9, gL_under_9, fL_bound_9, iL_steps_9, iT_fault_9, iT_place_9⟩ := u
        try dsimp only at hw9 hB9
        have b_r9 := hw9
        try dsimp only at b_r9
        obtain ⟨hP1, hD1, hz8⟩ := hB9
        rw [ht] at hP1 hz8
        have hz9 : H1.size ≤ s.heap.size + 0 := by rw [hz8]; exact hz0
        refine W.tight (cells2 := 0) (slots2 := 0) hz9 (nS_0 hz9) ?_
        clear hz8 hz9
        have hP := hP1
        have hD := hD1.weaken (fun _ q _ h => hFc q.1 h)
        generalize H1 = H at hP hS ⊢
        have hP : va_P (dC, dI) vwCl (WL hL aL kL hT hM (.ref dF_tree) iL_names gL_key fL_kind fL_one fL_two fL_base iL_params fL_paramOver dL_paramOver nL_params fL_paramUnder dL_paramUnder nL_pu gL_over_9 gL_under_9 fL_bound_9 iL_nameAt iL_startAt iL_steps_9 jL_scaleOver jL_scaleUnder ++ (WF hF aF kF dF_tree nF_tree fF_tree ++ (WT hT aT kT fT_tape dT_tape nT_tape iT_length iT_fault_9 iT_place_9 iT_kind iT_at iT_number jT_name iT_next ++ (WM hM aM kM iM_stands iM_variables iM_rows iM_goals iM_differents iM_cases fM_from fM_to fM_whole fM_ways iM_plainRows fM_plainRow fM_kept fM_goalOver fM_goalUnder fM_goalMax fM_different)))) H := hP
        have hD : va_D A (WL hL aL kL hT hM (.ref dF_tree) iL_names gL_key fL_kind fL_one fL_two fL_base iL_params fL_paramOver dL_paramOver nL_params fL_paramUnder dL_paramUnder nL_pu gL_over_9 gL_under_9 fL_bound_9 iL_nameAt iL_startAt iL_steps_9 jL_scaleOver jL_scaleUnder ++ (WF hF aF kF dF_tree nF_tree fF_tree ++ (WT hT aT kT fT_tape dT_tape nT_tape iT_length iT_fault_9 iT_place_9 iT_kind iT_at iT_number jT_name iT_next ++ (WM hM aM kM iM_stands iM_variables iM_rows iM_goals iM_differents iM_cases fM_from fM_to fM_whole fM_ways iM_plainRows fM_plainRow fM_kept fM_goalOver fM_goalUnder fM_goalMax fM_different)))) := hD
        refine lv_if_eq (tgt := 35) hx hb dX10_anyHolds_30 (by decide) (fun c_30 => ?_) (fun c_30 => ?_)
        · have t_30 : r9.toInt = 0 := toI_eq c_30 rfl (by decide : (0 : Int32).toInt = 0)
          refine lv_aload_n hx hb dX10_anyHolds_35 rfl (lv_at hl 2 rfl) ?_
          refine va_get (D := (dC, dI)) (ci := 10) (v := .ref dF_tree) (C := RX10) (T := TX10) (N := 20) hx hb hts iwsMX10_anyHolds_in10 hown hK hP 0 rfl rfl 2 (by decide) (hts (.fieldLink RX10 55 "OptimaWorks$Worker" "tree" "[I") (by decide +kernel)) (fun _ h9 => h9) rfl dX10_anyHolds_36 ?_
          refine lv_iload_n hx hb dX10_anyHolds_39 rfl (lv_at hl 1 rfl) ?_
          refine lv_bipush (v := 6) hx hb dX10_anyHolds_40 (by decide) ?_
          refine lv_iadd hx hb dX10_anyHolds_42 ?_
          refine lv_topi (fun y10 hy10 => ?_)
          obtain rfl : (iI (l3_x12.toInt + 6)) = y10 := (hy10.trans (iI_add2 (iI_of _) (by decide : (6 : Int32) = iI 6))).symm
          refine va_iald (cA := kF 0) (n := nF_tree) (f := fF_tree) hx hb hK hP 11 10 rfl rfl (vp_iI (by omega) (by omega) (by omega)) dX10_anyHolds_43 ?_
          refine lv_topi (fun v11 hv11 => ?_)
          have b_v11 : v11.toInt = twL fF_tree (l3_x12.toInt + 6) := by rw [hv11]; exact tw_i (by omega) (by omega)
          have b1_v11 : v11.toInt = 0 ∨ V v11.toInt 11 lv := by rw [hv11]; exact tnx (tw_i (by omega) (by omega)) (TrL.nx hV (k := 11) (L := lv) (hpv))
          clear hv11
          refine lv_istore_n hx hb dX10_anyHolds_44 rfl hl (by decide) rfl (fun ls (hl : lv_has ls _ ([(3, .int v11), (4, .int l4_x12), (0, .ref (hL 0)), (1, .int p1), (2, .int p2)])) => ?_)
          refine lv_iinc (v := (iI (l4_x12.toInt + 1))) hx hb dX10_anyHolds_45 hl (k := 1) rfl (iI_add2 (iI_of _) (by decide : (1 : Int32) = iI 1)) (by decide) rfl (fun ls (hl : lv_has ls _ ([(4, .int (iI (l4_x12.toInt + 1))), (3, .int v11), (0, .ref (hL 0)), (1, .int p1), (2, .int p2)])) => ?_)
          refine lv_goto (tgt := 12) hx hb dX10_anyHolds_48 (by decide) ?_
          have hl : lv_has _ _ ([(4, .int (iI (l4_x12.toInt + 1))), (3, .int v11), (0, .ref (hL 0)), (1, .int p1), (2, .int p2)]) := lv_sub hl [0, 1, 2, 3, 4] rfl
          exact ihx12 gL_over_9 gL_under_9 fL_bound_9 iL_steps_9 iT_fault_9 iT_place_9 (iI (l4_x12.toInt + 1)) v11 _ _ _ (iI_rng (Int.le_trans (by decide) (Int.add_le_add (b_l4_x12.1) (Int.le_refl _))) (by omega) (by decide) (by decide)) (show v11.toInt = 0 ∨ V v11.toInt 11 lv from by assumption) (by have e9 : ((iI (l4_x12.toInt + 1))).toInt = (l4_x12.toInt + 1) := (iI_t (Int.le_trans (by decide) (Int.add_le_add (b_l4_x12.1) (Int.le_refl _))) (Int.le_trans (Int.add_le_add (b_l4_x12.2) (Int.le_refl _)) (by decide))); omega) hP hD hS hl
        · have t_30 : ¬ r9.toInt = 0 := toI_neq c_30 rfl (by decide : (0 : Int32).toInt = 0)
          refine lv_iconst (v := 1) hx hb dX10_anyHolds_33 (by decide) ?_
          refine vx_ret ?_
          refine W.known (fun hz9 _ => ?_)
          refine W.widen (k := 1) (n := 6) (by decide +kernel) (by decide +kernel) ?_
          exact W.zret (v := 1) hx hb hr rfl (fun t9_ ht hW => ⟨⟨(1 : Int32), (gL_over_9, gL_under_9, fL_bound_9, iL_steps_9, iT_fault_9, iT_place_9), rfl, (show 0 ≤ (1 : Int32).toInt ∧ (1 : Int32).toInt ≤ 1 from by decide), by rw [ht]; exact hP, hD, by rw [ht]; first | done | exact Nat.le_antisymm hz9 hS.1⟩, hS.F ht⟩) hS.2.2 dX10_anyHolds_34
theorem dX10_allHold_0 : decode cX10_allHold 0 = .ok (.aload_n 0, 1) := dk_42 (by decide +kernel)
theorem dX10_allHold_1 : decode cX10_allHold 1 = .ok (.getfield 55, 3) := dk_180 (by decide +kernel)
theorem dX10_allHold_4 : decode cX10_allHold 4 = .ok (.iload_n 1, 1) := dk_27 (by decide +kernel)
theorem dX10_allHold_5 : decode cX10_allHold 5 = .ok (.iconst 3, 1) := dk_6 (by decide +kernel)
theorem dX10_allHold_6 : decode cX10_allHold 6 = .ok (.iadd, 1) := dk_96 (by decide +kernel)
theorem dX10_allHold_7 : decode cX10_allHold 7 = .ok (.iaload, 1) := dk_46 (by decide +kernel)
theorem dX10_allHold_8 : decode cX10_allHold 8 = .ok (.istore_n 3, 1) := dk_62 (by decide +kernel)
theorem dX10_allHold_9 : decode cX10_allHold 9 = .ok (.iconst 0, 1) := dk_3 (by decide +kernel)
theorem dX10_allHold_10 : decode cX10_allHold 10 = .ok (.istore 4, 2) := dk_54 (by decide +kernel)
theorem dX10_allHold_12 : decode cX10_allHold 12 = .ok (.iload 4, 2) := dk_21 (by decide +kernel)
theorem dX10_allHold_14 : decode cX10_allHold 14 = .ok (.sipush 4000, 3) := dk_17 (by decide +kernel)
theorem dX10_allHold_17 : decode cX10_allHold 17 = .ok (.if_icmp .ge 34, 3) := dk_162 (by decide +kernel)
theorem dX10_allHold_20 : decode cX10_allHold 20 = .ok (.iload_n 3, 1) := dk_29 (by decide +kernel)
theorem dX10_allHold_21 : decode cX10_allHold 21 = .ok (.ifCond .eq 30, 3) := dk_153 (by decide +kernel)
theorem dX10_allHold_24 : decode cX10_allHold 24 = .ok (.aload_n 0, 1) := dk_42 (by decide +kernel)
theorem dX10_allHold_25 : decode cX10_allHold 25 = .ok (.iload_n 3, 1) := dk_29 (by decide +kernel)
theorem dX10_allHold_26 : decode cX10_allHold 26 = .ok (.iload_n 2, 1) := dk_28 (by decide +kernel)
theorem dX10_allHold_27 : decode cX10_allHold 27 = .ok (.invokevirtual 252, 3) := dk_182 (by decide +kernel)
theorem dX10_allHold_30 : decode cX10_allHold 30 = .ok (.ifCond .ne 5, 3) := dk_154 (by decide +kernel)
theorem dX10_allHold_33 : decode cX10_allHold 33 = .ok (.iconst 0, 1) := dk_3 (by decide +kernel)
theorem dX10_allHold_34 : decode cX10_allHold 34 = .ok (.ireturn, 1) := dk_172 (by decide +kernel)
theorem dX10_allHold_35 : decode cX10_allHold 35 = .ok (.aload_n 0, 1) := dk_42 (by decide +kernel)
theorem dX10_allHold_36 : decode cX10_allHold 36 = .ok (.getfield 55, 3) := dk_180 (by decide +kernel)
theorem dX10_allHold_39 : decode cX10_allHold 39 = .ok (.iload_n 3, 1) := dk_29 (by decide +kernel)
theorem dX10_allHold_40 : decode cX10_allHold 40 = .ok (.bipush 6, 2) := dk_16 (by decide +kernel)
theorem dX10_allHold_42 : decode cX10_allHold 42 = .ok (.iadd, 1) := dk_96 (by decide +kernel)
theorem dX10_allHold_43 : decode cX10_allHold 43 = .ok (.iaload, 1) := dk_46 (by decide +kernel)
theorem dX10_allHold_44 : decode cX10_allHold 44 = .ok (.istore_n 3, 1) := dk_62 (by decide +kernel)
theorem dX10_allHold_45 : decode cX10_allHold 45 = .ok (.iinc 4 1, 3) := dk_132 (by decide +kernel)
theorem dX10_allHold_48 : decode cX10_allHold 48 = .ok (.goto (-36), 3) := dk_167 (by decide +kernel)
theorem dX10_allHold_51 : decode cX10_allHold 51 = .ok (.iconst 1, 1) := dk_4 (by decide +kernel)
theorem dX10_allHold_52 : decode cX10_allHold 52 = .ok (.ireturn, 1) := dk_172 (by decide +kernel)
theorem iwsMX10_allHold_in10 : ∀ w ∈ wsX100, w ∈ wsMX10_allHold := fun w h => List.mem_cons_of_mem _ (iwsGW_in10 w h)
theorem gwsMX10_allHold_0 : GoodIn wsMX10_allHold (wsV RX10 252 RX10 yX10_oneHolds wsMX10_oneHolds) := goodIn_rec (hd := [.methodLink RX10 252 yX10_oneHolds, .instanceMethod yX10_oneHolds, .selects RX10 yX10_oneHolds yX10_oneHolds, .initialized RX10]) (by decide +kernel) (by decide +kernel) gdwsGW
set_option maxHeartbeats 4000000 in
set_option maxRecDepth 100000 in
/-- whether all hold -/
theorem m_X10_allHold (l : Launch) (hst : l.stackTraces = false) (ev : Nat) (ih_X10_oneHolds : Cm_X10_oneHolds l (ev + 1)) : Cm_X10_allHold l (ev + 1) := by
  intro dC dI hL aL kL hT hM iL_names gL_key fL_kind fL_one fL_two fL_base iL_params fL_paramOver dL_paramOver nL_params fL_paramUnder dL_paramUnder nL_pu gL_over gL_under fL_bound iL_nameAt iL_startAt iL_steps jL_scaleOver jL_scaleUnder hF aF kF dF_tree nF_tree fF_tree aT kT fT_tape dT_tape nT_tape iT_length iT_fault iT_place iT_kind iT_at iT_number jT_name iT_next aM kM iM_stands iM_variables iM_rows iM_goals iM_differents iM_cases fM_from fM_to fM_whole fM_ways iM_plainRows fM_plainRow fM_kept fM_goalOver fM_goalUnder fM_goalMax fM_different V lo lv p1 p2 b_iL_names b_fL_kind b_fL_two b_fL_base b_iL_params b_nL_params b_nm b_pm b_pu b_nF_tree b_fT_tape b_nT_tape b_iT_length b_iT_at b_iT_number b_iT_next b_len b_iM_stands b_iM_variables b_iM_rows b_iM_goals b_iM_differents b_iM_cases b_fM_ways b_iM_plainRows b_fM_plainRow b_pr b_p2 hV hn hlv hsl sz
  refine vx_ofW (cc := cX10_allHold) (maxL := 5) (ret := (some .boolean)) (by decide) rfl ?_
  intro p e s m args below meth c s₁ B hml htab hv
  obtain ⟨rfl, hsz, hP, hK, hD0, hE⟩ := hv
  have hx := B.exec
  have hb := B.bytes
  have hr := B.returns
  have hts := atoms_spec (ws := wsMX10_allHold) B.pre
  have hown : s.vm.findClass RX10 = some m.cls := findClass_of_methodNamed B.named
  have hlocks := B.notSynchronized
  subst hsz
  have hD := hD0.self (sz := s.heap.size)
  generalize hAe : va_A (WL hL aL kL hT hM (.ref dF_tree) iL_names gL_key fL_kind fL_one fL_two fL_base iL_params fL_paramOver dL_paramOver nL_params fL_paramUnder dL_paramUnder nL_pu gL_over gL_under fL_bound iL_nameAt iL_startAt iL_steps jL_scaleOver jL_scaleUnder ++ (WF hF aF kF dF_tree nF_tree fF_tree ++ (WT hT aT kT fT_tape dT_tape nT_tape iT_length iT_fault iT_place iT_kind iT_at iT_number jT_name iT_next ++ (WM hM aM kM iM_stands iM_variables iM_rows iM_goals iM_differents iM_cases fM_from fM_to fM_whole fM_ways iM_plainRows fM_plainRow fM_kept fM_goalOver fM_goalUnder fM_goalMax fM_different)))) s.heap.size = A at hD hE ⊢
  have hA : ∀ q : Nat, s.heap.size ≤ q → A q := fun q h => by rw [← hAe]; exact Or.inr h
  have hS : va_S A s.heap s.heap [] := va_S.rf
  have hl := lv_entry ([.ref (hL 0), .int p1, .int p2]) (n := 5) (Nat.le_of_ble_eq_true rfl)
  rw [lg_entry_eq]
  generalize (lg_sl ([.ref (hL 0), .int p1, .int p2]) ++ List.replicate (5 - (lg_sl ([.ref (hL 0), .int p1, .int p2])).length) Slot.unset).toArray = ls at hl ⊢
  have hl : lv_has ls 5 [(0, .ref (hL 0)), (1, .int p1), (2, .int p2)] := hl
  have hr0 := TrL.rng hV hn
  refine lv_aload_n hx hb dX10_allHold_0 rfl (lv_at hl 0 rfl) ?_
  refine va_get (D := (dC, dI)) (ci := 10) (v := .ref dF_tree) (C := RX10) (T := TX10) (N := 20) hx hb hts iwsMX10_allHold_in10 hown hK hP 0 rfl rfl 2 (by decide) (hts (.fieldLink RX10 55 "OptimaWorks$Worker" "tree" "[I") (by decide +kernel)) (fun _ h9 => h9) rfl dX10_allHold_1 ?_
  refine lv_iload_n hx hb dX10_allHold_4 rfl (lv_at hl 1 rfl) ?_
  refine lv_iconst (v := 3) hx hb dX10_allHold_5 (by decide) ?_
  refine lv_iadd hx hb dX10_allHold_6 ?_
  refine lv_topi (fun y1 hy1 => ?_)
  obtain rfl : (iI (p1.toInt + 3)) = y1 := (hy1.trans (iI_add2 (iI_of _) (by decide : (3 : Int32) = iI 3))).symm
  refine va_iald (cA := kF 0) (n := nF_tree) (f := fF_tree) hx hb hK hP 11 10 rfl rfl (vp_iI (by omega) (by omega) (by omega)) dX10_allHold_7 ?_
  refine lv_topi (fun v2 hv2 => ?_)
  have b_v2 : v2.toInt = twL fF_tree (p1.toInt + 3) := by rw [hv2]; exact tw_i (by omega) (by omega)
  have b1_v2 : v2.toInt = 0 ∨ V v2.toInt 12 lv := by rw [hv2]; exact Or.inr (Vld (tw_i (by omega) (by omega)) (TrL.c11 hV hn))
  clear hv2
  refine lv_istore_n hx hb dX10_allHold_8 rfl hl (by decide) rfl (fun ls (hl : lv_has ls _ ([(3, .int v2), (0, .ref (hL 0)), (1, .int p1), (2, .int p2)])) => ?_)
  refine lv_iconst (v := 0) hx hb dX10_allHold_9 (by decide) ?_
  refine lv_istore hx hb dX10_allHold_10 hl (by decide) rfl (fun ls (hl : lv_has ls _ ([(4, .int 0), (3, .int v2), (0, .ref (hL 0)), (1, .int p1), (2, .int p2)])) => ?_)
  have hl : lv_has _ _ ([(4, .int 0), (3, .int v2), (0, .ref (hL 0)), (1, .int p1), (2, .int p2)]) := lv_sub hl [0, 1, 2, 3, 4] rfl
  refine (fun (loop : ∀ (n9 : Nat) (gL_over_x12 : Nat → Int64) (gL_under_x12 : Nat → Int64) (fL_bound_x12 : Nat → Int32) (iL_steps_x12 : Int32) (iT_fault_x12 : Int32) (iT_place_x12 : Int32) (l4_x12 : Int32) (l3_x12 : Int32) (H : Heap) (locs : List Loc) (ls : Array Slot), (0 ≤ l4_x12.toInt ∧ l4_x12.toInt ≤ 4000) → (l3_x12.toInt = 0 ∨ V l3_x12.toInt 12 lv) → (4000 - l4_x12.toInt < ((n9 : Nat) : Int)) → va_P (dC, dI) vwCl (WL hL aL kL hT hM (.ref dF_tree) iL_names gL_key fL_kind fL_one fL_two fL_base iL_params fL_paramOver dL_paramOver nL_params fL_paramUnder dL_paramUnder nL_pu gL_over_x12 gL_under_x12 fL_bound_x12 iL_nameAt iL_startAt iL_steps_x12 jL_scaleOver jL_scaleUnder ++ (WF hF aF kF dF_tree nF_tree fF_tree ++ (WT hT aT kT fT_tape dT_tape nT_tape iT_length iT_fault_x12 iT_place_x12 iT_kind iT_at iT_number jT_name iT_next ++ (WM hM aM kM iM_stands iM_variables iM_rows iM_goals iM_differents iM_cases fM_from fM_to fM_whole fM_ways iM_plainRows fM_plainRow fM_kept fM_goalOver fM_goalUnder fM_goalMax fM_different)))) H → va_D A (WL hL aL kL hT hM (.ref dF_tree) iL_names gL_key fL_kind fL_one fL_two fL_base iL_params fL_paramOver dL_paramOver nL_params fL_paramUnder dL_paramUnder nL_pu gL_over_x12 gL_under_x12 fL_bound_x12 iL_nameAt iL_startAt iL_steps_x12 jL_scaleOver jL_scaleUnder ++ (WF hF aF kF dF_tree nF_tree fF_tree ++ (WT hT aT kT fT_tape dT_tape nT_tape iT_length iT_fault_x12 iT_place_x12 iT_kind iT_at iT_number jT_name iT_next ++ (WM hM aM kM iM_stands iM_variables iM_rows iM_goals iM_differents iM_cases fM_from fM_to fM_whole fM_ways iM_plainRows fM_plainRow fM_kept fM_goalOver fM_goalUnder fM_goalMax fM_different)))) → va_S A s.heap H locs → lv_has ls 5 [(4, .int l4_x12), (3, .int l3_x12), (0, .ref (hL 0)), (1, .int p1), (2, .int p2)] → W p l e _ s m _ below meth c H locs 0 0 _ (F0 m 12 ls [])) => loop (4001) gL_over gL_under fL_bound iL_steps iT_fault iT_place 0 v2 _ _ _ (show 0 ≤ (0 : Int32).toInt ∧ (0 : Int32).toInt ≤ 4000 from by decide) (show v2.toInt = 0 ∨ V v2.toInt 12 lv from by assumption) ((by have e9 : (0 : Int32).toInt = 0 := (by decide : (0 : Int32).toInt = 0); omega)) hP hD hS hl) ?_
  intro n9
  induction n9 with
  | zero => intro gL_over_x12 gL_under_x12 fL_bound_x12 iL_steps_x12 iT_fault_x12 iT_place_x12 l4_x12 l3_x12 H locs ls b_l4_x12 hpt hf9; exact False.elim (by omega)
  | succ n9 ihx12 =>
    intro gL_over_x12 gL_under_x12 fL_bound_x12 iL_steps_x12 iT_fault_x12 iT_place_x12 l4_x12 l3_x12 H locs ls b_l4_x12 hpt hfx12 hP hD hS hl
    refine lv_iload hx hb dX10_allHold_12 (lv_at hl 0 rfl) ?_
    refine lv_sipush (v := 4000) hx hb dX10_allHold_14 (by decide) ?_
    refine lv_icmp_ge (tgt := 51) hx hb dX10_allHold_17 (by decide) (fun c_17 => ?_) (fun c_17 => ?_)
    · have t_17 : l4_x12.toInt ≥ 4000 := toI_ge c_17 rfl (by decide : (4000 : Int32).toInt = 4000)
      refine lv_iconst (v := 1) hx hb dX10_allHold_51 (by decide) ?_
      refine vx_ret ?_
      refine W.known (fun hz9 _ => ?_)
      refine W.widen (k := 1) (n := 6) (by decide +kernel) (by decide +kernel) ?_
      exact W.zret (v := 1) hx hb hr rfl (fun t9_ ht hW => ⟨⟨(1 : Int32), (gL_over_x12, gL_under_x12, fL_bound_x12, iL_steps_x12, iT_fault_x12, iT_place_x12), rfl, (show 0 ≤ (1 : Int32).toInt ∧ (1 : Int32).toInt ≤ 1 from by decide), by rw [ht]; exact hP, hD, by rw [ht]; first | done | exact Nat.le_antisymm hz9 hS.1⟩, hS.F ht⟩) hS.2.2 dX10_allHold_52
    · have t_17 : ¬ l4_x12.toInt ≥ 4000 := toI_nge c_17 rfl (by decide : (4000 : Int32).toInt = 4000)
      refine lv_iload_n hx hb dX10_allHold_20 rfl (lv_at hl 1 rfl) ?_
      refine lv_if_eq (tgt := 51) hx hb dX10_allHold_21 (by decide) (fun c_21 => ?_) (fun c_21 => ?_)
      · have t_21 : l3_x12.toInt = 0 := toI_eq c_21 rfl (by decide : (0 : Int32).toInt = 0)
        refine lv_iconst (v := 1) hx hb dX10_allHold_51 (by decide) ?_
        refine vx_ret ?_
        refine W.known (fun hz9 _ => ?_)
        refine W.widen (k := 1) (n := 6) (by decide +kernel) (by decide +kernel) ?_
        exact W.zret (v := 1) hx hb hr rfl (fun t9_ ht hW => ⟨⟨(1 : Int32), (gL_over_x12, gL_under_x12, fL_bound_x12, iL_steps_x12, iT_fault_x12, iT_place_x12), rfl, (show 0 ≤ (1 : Int32).toInt ∧ (1 : Int32).toInt ≤ 1 from by decide), by rw [ht]; exact hP, hD, by rw [ht]; first | done | exact Nat.le_antisymm hz9 hS.1⟩, hS.F ht⟩) hS.2.2 dX10_allHold_52
      · have t_21 : ¬ l3_x12.toInt = 0 := toI_neq c_21 rfl (by decide : (0 : Int32).toInt = 0)
        have hpv := hpt.resolve_left t_21
        have hr1 := TrL.rng hV hpv
        refine lv_aload_n hx hb dX10_allHold_24 rfl (lv_at hl 2 rfl) ?_
        refine lv_iload_n hx hb dX10_allHold_25 rfl (lv_at hl 1 rfl) ?_
        refine lv_iload_n hx hb dX10_allHold_26 rfl (lv_at hl 4 rfl) ?_
        refine W.known (fun hz0 _ => ?_)
        have hFc := allFree hD hS hA
        refine vx_calli (vx_runV (As := [.int l3_x12, .int p2]) (rest := []) ⟨hx, hb, hml, hown, hts⟩ (ih_X10_oneHolds dC dI hL aL kL hT hM iL_names gL_key fL_kind fL_one fL_two fL_base iL_params fL_paramOver dL_paramOver nL_params fL_paramUnder dL_paramUnder nL_pu gL_over_x12 gL_under_x12 fL_bound_x12 iL_nameAt iL_startAt iL_steps_x12 jL_scaleOver jL_scaleUnder hF aF kF dF_tree nF_tree fF_tree aT kT fT_tape dT_tape nT_tape iT_length iT_fault_x12 iT_place_x12 iT_kind iT_at iT_number jT_name iT_next aM kM iM_stands iM_variables iM_rows iM_goals iM_differents iM_cases fM_from fM_to fM_whole fM_ways iM_plainRows fM_plainRow fM_kept fM_goalOver fM_goalUnder fM_goalMax fM_different V lo lv l3_x12 p2 (b_iL_names) b_fL_kind b_fL_two b_fL_base (b_iL_params) (by first | exact b_nL_params | assumption | exact ⟨by omega, by omega⟩) (by first | assumption | omega | (rw [iI_t (by omega) (by omega)]; omega)) (by first | assumption | omega | (rw [iI_t (by omega) (by omega)]; omega)) (by first | assumption | omega | (rw [iI_t (by omega) (by omega)]; omega)) (by first | exact b_nF_tree | assumption | exact ⟨by omega, by omega⟩) b_fT_tape (by first | exact b_nT_tape | assumption | exact ⟨by omega, by omega⟩) (b_iT_length) (b_iT_at) (b_iT_number) (b_iT_next) (by first | assumption | omega) (b_iM_stands) (b_iM_variables) (b_iM_rows) (b_iM_goals) (b_iM_differents) (b_iM_cases) b_fM_ways (b_iM_plainRows) b_fM_plainRow (by first | assumption | omega) (b_p2) (by first | assumption | omega | (rw [iI_t (by omega) (by omega)]; omega) | decide) (by first | assumption | omega | (rw [iI_t (by omega) (by omega)]; omega) | decide) (by first | assumption | omega | (rw [iI_t (by omega) (by omega)]; omega) | decide) (by first | assumption | omega | (rw [iI_t (by omega) (by omega)]; omega) | decide) H.size) (cwV 2 hts gwsMX10_allHold_0 rfl rfl rfl (by decide +kernel) ⟨by (dsimp only [headSpec] <;> omega), by (dsimp only [headSpec] <;> omega)⟩) (fz_preE (va_recv hK hP (ci := 10) (q0 := 0) rfl rfl) hP hK hD (fun a U g mk qE => qE.call) (fun U hU9 hW => by rw [hU9]; exact (((hE : CE A s s.heap).kept hS.2.1).narrow (fun q h => hFc q h)).warm hW)) rfl rfl hl.1 rfl (lv_room (Nat.le_of_ble_eq_true rfl)) dX10_allHold_27 ⟨by (dsimp only [headSpec] <;> omega), by (dsimp only [headSpec] <;> omega)⟩) hS (fun q _ h => hFc q h) hFc (fun q _ h => hFc q h) (fun E ce q9 u t9_ H locs ht hvm hw9 hB9 hz1 hk1 hS hc1 hc2 hc3 => ?_) (fun r9 u t9_ H1 locs ht hvm hw9 hB9 hz1 hk1 hS => ?_)
        · obtain ⟨gL_over_9, gL_under_9, fL_bound_9, iL_steps_9, iT_fault_9, iT_place_9⟩ := u
          try dsimp only at hw9 hB9
          obtain ⟨hEx, hB9⟩ := hB9
          clear hw9
          have hP : va_P (dC, dI) vwCl (WL hL aL kL hT hM (.ref dF_tree) iL_names gL_key fL_kind fL_one fL_two fL_base iL_params fL_paramOver dL_paramOver nL_params fL_paramUnder dL_paramUnder nL_pu gL_over_9 gL_under_9 fL_bound_9 iL_nameAt iL_startAt iL_steps_9 jL_scaleOver jL_scaleUnder ++ (WF hF aF kF dF_tree nF_tree fF_tree ++ (WT hT aT kT fT_tape dT_tape nT_tape iT_length iT_fault_9 iT_place_9 iT_kind iT_at iT_number jT_name iT_next ++ (WM hM aM kM iM_stands iM_variables iM_rows iM_goals iM_differents iM_cases fM_from fM_to fM_whole fM_ways iM_plainRows fM_plainRow fM_kept fM_goalOver fM_goalUnder fM_goalMax fM_different)))) H := fz_P ht hB9.1
          have hD : va_D A (WL hL aL kL hT hM (.ref dF_tree) iL_names gL_key fL_kind fL_one fL_two fL_base iL_params fL_paramOver dL_paramOver nL_params fL_paramUnder dL_paramUnder nL_pu gL_over_9 gL_under_9 fL_bound_9 iL_nameAt iL_startAt iL_steps_9 jL_scaleOver jL_scaleUnder ++ (WF hF aF kF dF_tree nF_tree fF_tree ++ (WT hT aT kT fT_tape dT_tape nT_tape iT_length iT_fault_9 iT_place_9 iT_kind iT_at iT_number jT_name iT_next ++ (WM hM aM kM iM_stands iM_variables iM_rows iM_goals iM_differents iM_cases fM_from fM_to fM_whole fM_ways iM_plainRows fM_plainRow fM_kept fM_goalOver fM_goalUnder fM_goalMax fM_different)))) := hB9.2.weaken (fun _ q _ h => hFc q.1 h)
          exact vx_out (fun x hx9 => (htab x hx9).elim) hlocks hc1 hc2 hc3 (fun t9_ ht hvm => ⟨(gL_over_9, gL_under_9, fL_bound_9, iL_steps_9, iT_fault_9, iT_place_9), trivial, ⟨(by have h9 := hEx; exact h9), by rw [ht]; exact hP, hD⟩, hS.F ht⟩) hS.2.2 (by decide +kernel) (by decide +kernel)
        obtain ⟨gL_over_9, gL_under_9, fL_bound_9, iL_steps_9, iT_fault_9, iT_place_9⟩ := u
        try dsimp only at hw9 hB9
        have b_r9 := hw9
        try dsimp only at b_r9
        obtain ⟨hP1, hD1, hz8⟩ := hB9
        rw [ht] at hP1 hz8
        have hz9 : H1.size ≤ s.heap.size + 0 := by rw [hz8]; exact hz0
        refine W.tight (cells2 := 0) (slots2 := 0) hz9 (nS_0 hz9) ?_
        clear hz8 hz9
        have hP := hP1
        have hD := hD1.weaken (fun _ q _ h => hFc q.1 h)
        generalize H1 = H at hP hS ⊢
        have hP : va_P (dC, dI) vwCl (WL hL aL kL hT hM (.ref dF_tree) iL_names gL_key fL_kind fL_one fL_two fL_base iL_params fL_paramOver dL_paramOver nL_params fL_paramUnder dL_paramUnder nL_pu gL_over_9 gL_under_9 fL_bound_9 iL_nameAt iL_startAt iL_steps_9 jL_scaleOver jL_scaleUnder ++ (WF hF aF kF dF_tree nF_tree fF_tree ++ (WT hT aT kT fT_tape dT_tape nT_tape iT_length iT_fault_9 iT_place_9 iT_kind iT_at iT_number jT_name iT_next ++ (WM hM aM kM iM_stands iM_variables iM_rows iM_goals iM_differents iM_cases fM_from fM_to fM_whole fM_ways iM_plainRows fM_plainRow fM_kept fM_goalOver fM_goalUnder fM_goalMax fM_different)))) H := hP
        have hD : va_D A (WL hL aL kL hT hM (.ref dF_tree) iL_names gL_key fL_kind fL_one fL_two fL_base iL_params fL_paramOver dL_paramOver nL_params fL_paramUnder dL_paramUnder nL_pu gL_over_9 gL_under_9 fL_bound_9 iL_nameAt iL_startAt iL_steps_9 jL_scaleOver jL_scaleUnder ++ (WF hF aF kF dF_tree nF_tree fF_tree ++ (WT hT aT kT fT_tape dT_tape nT_tape iT_length iT_fault_9 iT_place_9 iT_kind iT_at iT_number jT_name iT_next ++ (WM hM aM kM iM_stands iM_variables iM_rows iM_goals iM_differents iM_cases fM_from fM_to fM_whole fM_ways iM_plainRows fM_plainRow fM_kept fM_goalOver fM_goalUnder fM_goalMax fM_different)))) := hD
        refine lv_if_ne (tgt := 35) hx hb dX10_allHold_30 (by decide) (fun c_30 => ?_) (fun c_30 => ?_)
        · have t_30 : r9.toInt ≠ 0 := toI_ne c_30 rfl (by decide : (0 : Int32).toInt = 0)
          refine lv_aload_n hx hb dX10_allHold_35 rfl (lv_at hl 2 rfl) ?_
          refine va_get (D := (dC, dI)) (ci := 10) (v := .ref dF_tree) (C := RX10) (T := TX10) (N := 20) hx hb hts iwsMX10_allHold_in10 hown hK hP 0 rfl rfl 2 (by decide) (hts (.fieldLink RX10 55 "OptimaWorks$Worker" "tree" "[I") (by decide +kernel)) (fun _ h9 => h9) rfl dX10_allHold_36 ?_
          refine lv_iload_n hx hb dX10_allHold_39 rfl (lv_at hl 1 rfl) ?_
          refine lv_bipush (v := 6) hx hb dX10_allHold_40 (by decide) ?_
          refine lv_iadd hx hb dX10_allHold_42 ?_
          refine lv_topi (fun y10 hy10 => ?_)
          obtain rfl : (iI (l3_x12.toInt + 6)) = y10 := (hy10.trans (iI_add2 (iI_of _) (by decide : (6 : Int32) = iI 6))).symm
          refine va_iald (cA := kF 0) (n := nF_tree) (f := fF_tree) hx hb hK hP 11 10 rfl rfl (vp_iI (by omega) (by omega) (by omega)) dX10_allHold_43 ?_
          refine lv_topi (fun v11 hv11 => ?_)
          have b_v11 : v11.toInt = twL fF_tree (l3_x12.toInt + 6) := by rw [hv11]; exact tw_i (by omega) (by omega)
          have b1_v11 : v11.toInt = 0 ∨ V v11.toInt 12 lv := by rw [hv11]; exact tnx (tw_i (by omega) (by omega)) (TrL.nx hV (k := 12) (L := lv) (hpv))
          clear hv11
          refine lv_istore_n hx hb dX10_allHold_44 rfl hl (by decide) rfl (fun ls (hl : lv_has ls _ ([(3, .int v11), (4, .int l4_x12), (0, .ref (hL 0)), (1, .int p1), (2, .int p2)])) => ?_)
          refine lv_iinc (v := (iI (l4_x12.toInt + 1))) hx hb dX10_allHold_45 hl (k := 1) rfl (iI_add2 (iI_of _) (by decide : (1 : Int32) = iI 1)) (by decide) rfl (fun ls (hl : lv_has ls _ ([(4, .int (iI (l4_x12.toInt + 1))), (3, .int v11), (0, .ref (hL 0)), (1, .int p1), (2, .int p2)])) => ?_)
          refine lv_goto (tgt := 12) hx hb dX10_allHold_48 (by decide) ?_
          have hl : lv_has _ _ ([(4, .int (iI (l4_x12.toInt + 1))), (3, .int v11), (0, .ref (hL 0)), (1, .int p1), (2, .int p2)]) := lv_sub hl [0, 1, 2, 3, 4] rfl
          exact ihx12 gL_over_9 gL_under_9 fL_bound_9 iL_steps_9 iT_fault_9 iT_place_9 (iI (l4_x12.toInt + 1)) v11 _ _ _ (iI_rng (Int.le_trans (by decide) (Int.add_le_add (b_l4_x12.1) (Int.le_refl _))) (by omega) (by decide) (by decide)) (show v11.toInt = 0 ∨ V v11.toInt 12 lv from by assumption) (by have e9 : ((iI (l4_x12.toInt + 1))).toInt = (l4_x12.toInt + 1) := (iI_t (Int.le_trans (by decide) (Int.add_le_add (b_l4_x12.1) (Int.le_refl _))) (Int.le_trans (Int.add_le_add (b_l4_x12.2) (Int.le_refl _)) (by decide))); omega) hP hD hS hl
        · have t_30 : r9.toInt = 0 := toI_nne c_30 rfl (by decide : (0 : Int32).toInt = 0)
          refine lv_iconst (v := 0) hx hb dX10_allHold_33 (by decide) ?_
          refine vx_ret ?_
          refine W.known (fun hz9 _ => ?_)
          refine W.widen (k := 1) (n := 6) (by decide +kernel) (by decide +kernel) ?_
          exact W.zret (v := 0) hx hb hr rfl (fun t9_ ht hW => ⟨⟨(0 : Int32), (gL_over_9, gL_under_9, fL_bound_9, iL_steps_9, iT_fault_9, iT_place_9), rfl, (show 0 ≤ (0 : Int32).toInt ∧ (0 : Int32).toInt ≤ 1 from by decide), by rw [ht]; exact hP, hD, by rw [ht]; first | done | exact Nat.le_antisymm hz9 hS.1⟩, hS.F ht⟩) hS.2.2 dX10_allHold_34
theorem dX10_oneHolds_0 : decode cX10_oneHolds 0 = .ok (.aload_n 0, 1) := dk_42 (by decide +kernel)
theorem dX10_oneHolds_1 : decode cX10_oneHolds 1 = .ok (.getfield 55, 3) := dk_180 (by decide +kernel)
theorem dX10_oneHolds_4 : decode cX10_oneHolds 4 = .ok (.iload_n 1, 1) := dk_27 (by decide +kernel)
theorem dX10_oneHolds_5 : decode cX10_oneHolds 5 = .ok (.iconst 3, 1) := dk_6 (by decide +kernel)
theorem dX10_oneHolds_6 : decode cX10_oneHolds 6 = .ok (.iadd, 1) := dk_96 (by decide +kernel)
theorem dX10_oneHolds_7 : decode cX10_oneHolds 7 = .ok (.iaload, 1) := dk_46 (by decide +kernel)
theorem dX10_oneHolds_8 : decode cX10_oneHolds 8 = .ok (.istore_n 3, 1) := dk_62 (by decide +kernel)
theorem dX10_oneHolds_9 : decode cX10_oneHolds 9 = .ok (.aload_n 0, 1) := dk_42 (by decide +kernel)
theorem dX10_oneHolds_10 : decode cX10_oneHolds 10 = .ok (.getfield 55, 3) := dk_180 (by decide +kernel)
theorem dX10_oneHolds_13 : decode cX10_oneHolds 13 = .ok (.iload_n 1, 1) := dk_27 (by decide +kernel)
theorem dX10_oneHolds_14 : decode cX10_oneHolds 14 = .ok (.iconst 0, 1) := dk_3 (by decide +kernel)
theorem dX10_oneHolds_15 : decode cX10_oneHolds 15 = .ok (.iadd, 1) := dk_96 (by decide +kernel)
theorem dX10_oneHolds_16 : decode cX10_oneHolds 16 = .ok (.iaload, 1) := dk_46 (by decide +kernel)
theorem dX10_oneHolds_17 : decode cX10_oneHolds 17 = .ok (.lookupswitch 49 #[(12, 27), (13, 42)], 27) := by decide +kernel
theorem dX10_oneHolds_44 : decode cX10_oneHolds 44 = .ok (.aload_n 0, 1) := dk_42 (by decide +kernel)
theorem dX10_oneHolds_45 : decode cX10_oneHolds 45 = .ok (.iload_n 3, 1) := dk_29 (by decide +kernel)
theorem dX10_oneHolds_46 : decode cX10_oneHolds 46 = .ok (.iload_n 2, 1) := dk_28 (by decide +kernel)
theorem dX10_oneHolds_47 : decode cX10_oneHolds 47 = .ok (.invokevirtual 252, 3) := dk_182 (by decide +kernel)
theorem dX10_oneHolds_50 : decode cX10_oneHolds 50 = .ok (.ifCond .ne 7, 3) := dk_154 (by decide +kernel)
theorem dX10_oneHolds_53 : decode cX10_oneHolds 53 = .ok (.iconst 1, 1) := dk_4 (by decide +kernel)
theorem dX10_oneHolds_54 : decode cX10_oneHolds 54 = .ok (.goto 4, 3) := dk_167 (by decide +kernel)
theorem dX10_oneHolds_57 : decode cX10_oneHolds 57 = .ok (.iconst 0, 1) := dk_3 (by decide +kernel)
theorem dX10_oneHolds_58 : decode cX10_oneHolds 58 = .ok (.ireturn, 1) := dk_172 (by decide +kernel)
theorem dX10_oneHolds_59 : decode cX10_oneHolds 59 = .ok (.aload_n 0, 1) := dk_42 (by decide +kernel)
theorem dX10_oneHolds_60 : decode cX10_oneHolds 60 = .ok (.iload_n 3, 1) := dk_29 (by decide +kernel)
theorem dX10_oneHolds_61 : decode cX10_oneHolds 61 = .ok (.iload_n 2, 1) := dk_28 (by decide +kernel)
theorem dX10_oneHolds_62 : decode cX10_oneHolds 62 = .ok (.invokevirtual 123, 3) := dk_182 (by decide +kernel)
theorem dX10_oneHolds_65 : decode cX10_oneHolds 65 = .ok (.ireturn, 1) := dk_172 (by decide +kernel)
theorem dX10_oneHolds_66 : decode cX10_oneHolds 66 = .ok (.aload_n 0, 1) := dk_42 (by decide +kernel)
theorem dX10_oneHolds_67 : decode cX10_oneHolds 67 = .ok (.iload_n 1, 1) := dk_27 (by decide +kernel)
theorem dX10_oneHolds_68 : decode cX10_oneHolds 68 = .ok (.iload_n 2, 1) := dk_28 (by decide +kernel)
theorem dX10_oneHolds_69 : decode cX10_oneHolds 69 = .ok (.invokevirtual 255, 3) := dk_182 (by decide +kernel)
theorem dX10_oneHolds_72 : decode cX10_oneHolds 72 = .ok (.ireturn, 1) := dk_172 (by decide +kernel)
theorem iwsMX10_oneHolds_in10 : ∀ w ∈ wsX100, w ∈ wsMX10_oneHolds := fun w h => List.mem_cons_of_mem _ (iwsGW_in10 w h)
theorem gwsMX10_oneHolds_0 : GoodIn wsMX10_oneHolds (wsV RX10 252 RX10 yX10_oneHolds wsMX10_oneHolds) := goodIn_rec (hd := [.methodLink RX10 252 yX10_oneHolds, .instanceMethod yX10_oneHolds, .selects RX10 yX10_oneHolds yX10_oneHolds, .initialized RX10]) (by decide +kernel) (by decide +kernel) gdwsGW
theorem gwsMX10_oneHolds_1 : GoodIn wsMX10_oneHolds (wsV RX10 123 RX10 yX10_anyHolds wsMX10_anyHolds) := goodIn_rec (hd := [.methodLink RX10 123 yX10_anyHolds, .instanceMethod yX10_anyHolds, .selects RX10 yX10_anyHolds yX10_anyHolds, .initialized RX10]) (by decide +kernel) (by decide +kernel) gdwsGW
theorem gwsMX10_oneHolds_2 : GoodIn wsMX10_oneHolds (wsV RX10 255 RX10 yX10_compares wsMX10_compares) := goodIn_rec (hd := [.methodLink RX10 255 yX10_compares, .instanceMethod yX10_compares, .selects RX10 yX10_compares yX10_compares, .initialized RX10]) (by decide +kernel) (by decide +kernel) gdwsGW
set_option maxHeartbeats 4000000 in
set_option maxRecDepth 100000 in
/-- whether one holds -/
theorem m_X10_oneHolds (l : Launch) (hst : l.stackTraces = false) (ev : Nat) (ih_X10_oneHolds : Cm_X10_oneHolds l (ev)) (ih_X10_anyHolds : Cm_X10_anyHolds l (ev)) (ih_X10_compares : Cm_X10_compares l (ev + 1)) : Cm_X10_oneHolds l (ev + 1) := by
  intro dC dI hL aL kL hT hM iL_names gL_key fL_kind fL_one fL_two fL_base iL_params fL_paramOver dL_paramOver nL_params fL_paramUnder dL_paramUnder nL_pu gL_over gL_under fL_bound iL_nameAt iL_startAt iL_steps jL_scaleOver jL_scaleUnder hF aF kF dF_tree nF_tree fF_tree aT kT fT_tape dT_tape nT_tape iT_length iT_fault iT_place iT_kind iT_at iT_number jT_name iT_next aM kM iM_stands iM_variables iM_rows iM_goals iM_differents iM_cases fM_from fM_to fM_whole fM_ways iM_plainRows fM_plainRow fM_kept fM_goalOver fM_goalUnder fM_goalMax fM_different V lo lv p1 p2 b_iL_names b_fL_kind b_fL_two b_fL_base b_iL_params b_nL_params b_nm b_pm b_pu b_nF_tree b_fT_tape b_nT_tape b_iT_length b_iT_at b_iT_number b_iT_next b_len b_iM_stands b_iM_variables b_iM_rows b_iM_goals b_iM_differents b_iM_cases b_fM_ways b_iM_plainRows b_fM_plainRow b_pr b_p2 hV hn hlv hsl sz
  refine vx_ofW (cc := cX10_oneHolds) (maxL := 4) (ret := (some .boolean)) (by decide) rfl ?_
  intro p e s m args below meth c s₁ B hml htab hv
  obtain ⟨rfl, hsz, hP, hK, hD0, hE⟩ := hv
  have hx := B.exec
  have hb := B.bytes
  have hr := B.returns
  have hts := atoms_spec (ws := wsMX10_oneHolds) B.pre
  have hown : s.vm.findClass RX10 = some m.cls := findClass_of_methodNamed B.named
  have hlocks := B.notSynchronized
  subst hsz
  have hD := hD0.self (sz := s.heap.size)
  generalize hAe : va_A (WL hL aL kL hT hM (.ref dF_tree) iL_names gL_key fL_kind fL_one fL_two fL_base iL_params fL_paramOver dL_paramOver nL_params fL_paramUnder dL_paramUnder nL_pu gL_over gL_under fL_bound iL_nameAt iL_startAt iL_steps jL_scaleOver jL_scaleUnder ++ (WF hF aF kF dF_tree nF_tree fF_tree ++ (WT hT aT kT fT_tape dT_tape nT_tape iT_length iT_fault iT_place iT_kind iT_at iT_number jT_name iT_next ++ (WM hM aM kM iM_stands iM_variables iM_rows iM_goals iM_differents iM_cases fM_from fM_to fM_whole fM_ways iM_plainRows fM_plainRow fM_kept fM_goalOver fM_goalUnder fM_goalMax fM_different)))) s.heap.size = A at hD hE ⊢
  have hA : ∀ q : Nat, s.heap.size ≤ q → A q := fun q h => by rw [← hAe]; exact Or.inr h
  have hS : va_S A s.heap s.heap [] := va_S.rf
  have hl := lv_entry ([.ref (hL 0), .int p1, .int p2]) (n := 4) (Nat.le_of_ble_eq_true rfl)
  rw [lg_entry_eq]
  generalize (lg_sl ([.ref (hL 0), .int p1, .int p2]) ++ List.replicate (4 - (lg_sl ([.ref (hL 0), .int p1, .int p2])).length) Slot.unset).toArray = ls at hl ⊢
  have hl : lv_has ls 4 [(0, .ref (hL 0)), (1, .int p1), (2, .int p2)] := hl
  have hr0 := TrL.rng hV hn
  refine lv_aload_n hx hb dX10_oneHolds_0 rfl (lv_at hl 0 rfl) ?_
  refine va_get (D := (dC, dI)) (ci := 10) (v := .ref dF_tree) (C := RX10) (T := TX10) (N := 20) hx hb hts iwsMX10_oneHolds_in10 hown hK hP 0 rfl rfl 2 (by decide) (hts (.fieldLink RX10 55 "OptimaWorks$Worker" "tree" "[I") (by decide +kernel)) (fun _ h9 => h9) rfl dX10_oneHolds_1 ?_
  refine lv_iload_n hx hb dX10_oneHolds_4 rfl (lv_at hl 1 rfl) ?_
  refine lv_iconst (v := 3) hx hb dX10_oneHolds_5 (by decide) ?_
  refine lv_iadd hx hb dX10_oneHolds_6 ?_
  refine lv_topi (fun y1 hy1 => ?_)
  obtain rfl : (iI (p1.toInt + 3)) = y1 := (hy1.trans (iI_add2 (iI_of _) (by decide : (3 : Int32) = iI 3))).symm
  refine va_iald (cA := kF 0) (n := nF_tree) (f := fF_tree) hx hb hK hP 11 10 rfl rfl (vp_iI (by omega) (by omega) (by omega)) dX10_oneHolds_7 ?_
  refine lv_topi (fun v2 hv2 => ?_)
  have b_v2 : v2.toInt = twL fF_tree (p1.toInt + 3) := by rw [hv2]; exact tw_i (by omega) (by omega)
  clear hv2
  refine lv_istore_n hx hb dX10_oneHolds_8 rfl hl (by decide) rfl (fun ls (hl : lv_has ls _ ([(3, .int v2), (0, .ref (hL 0)), (1, .int p1), (2, .int p2)])) => ?_)
  refine lv_aload_n hx hb dX10_oneHolds_9 rfl (lv_at hl 1 rfl) ?_
  refine va_get (D := (dC, dI)) (ci := 10) (v := .ref dF_tree) (C := RX10) (T := TX10) (N := 20) hx hb hts iwsMX10_oneHolds_in10 hown hK hP 0 rfl rfl 2 (by decide) (hts (.fieldLink RX10 55 "OptimaWorks$Worker" "tree" "[I") (by decide +kernel)) (fun _ h9 => h9) rfl dX10_oneHolds_10 ?_
  refine lv_iload_n hx hb dX10_oneHolds_13 rfl (lv_at hl 2 rfl) ?_
  refine lv_iconst (v := 0) hx hb dX10_oneHolds_14 (by decide) ?_
  refine lv_iadd hx hb dX10_oneHolds_15 ?_
  refine lv_topi (fun y3 hy3 => ?_)
  obtain rfl : (iI (p1.toInt + 0)) = y3 := (hy3.trans (iI_add2 (iI_of _) (by decide : (0 : Int32) = iI 0))).symm
  refine va_iald (cA := kF 0) (n := nF_tree) (f := fF_tree) hx hb hK hP 11 10 rfl rfl (vp_iI (by omega) (by omega) (by omega)) dX10_oneHolds_16 ?_
  refine lv_topi (fun v4 hv4 => ?_)
  have b_v4 : v4.toInt = twL fF_tree p1.toInt := by rw [hv4]; exact tw_i0 (by omega) (by omega)
  clear hv4
  by_cases s_17_12 : v4 = 12
  · have ts_17_12 : v4.toInt = 12 := toI_eq s_17_12 rfl (by decide)
    refine lv_lookup (off := 27) (tgt := 44) hx hb dX10_oneHolds_17 (by decide) (by rw [s_17_12]; decide) (by decide) ?_
    refine lv_aload_n hx hb dX10_oneHolds_44 rfl (lv_at hl 1 rfl) ?_
    refine lv_iload_n hx hb dX10_oneHolds_45 rfl (lv_at hl 0 rfl) ?_
    refine lv_iload_n hx hb dX10_oneHolds_46 rfl (lv_at hl 3 rfl) ?_
    refine W.known (fun hz0 _ => ?_)
    have hFc := allFree hD hS hA
    refine vx_calli (vx_runV (As := [.int v2, .int p2]) (rest := []) ⟨hx, hb, hml, hown, hts⟩ (ih_X10_oneHolds dC dI hL aL kL hT hM iL_names gL_key fL_kind fL_one fL_two fL_base iL_params fL_paramOver dL_paramOver nL_params fL_paramUnder dL_paramUnder nL_pu gL_over gL_under fL_bound iL_nameAt iL_startAt iL_steps jL_scaleOver jL_scaleUnder hF aF kF dF_tree nF_tree fF_tree aT kT fT_tape dT_tape nT_tape iT_length iT_fault iT_place iT_kind iT_at iT_number jT_name iT_next aM kM iM_stands iM_variables iM_rows iM_goals iM_differents iM_cases fM_from fM_to fM_whole fM_ways iM_plainRows fM_plainRow fM_kept fM_goalOver fM_goalUnder fM_goalMax fM_different V lo (lv + 1) v2 p2 (b_iL_names) b_fL_kind b_fL_two b_fL_base (b_iL_params) (by first | exact b_nL_params | assumption | exact ⟨by omega, by omega⟩) (by first | assumption | omega | (rw [iI_t (by omega) (by omega)]; omega)) (by first | assumption | omega | (rw [iI_t (by omega) (by omega)]; omega)) (by first | assumption | omega | (rw [iI_t (by omega) (by omega)]; omega)) (by first | exact b_nF_tree | assumption | exact ⟨by omega, by omega⟩) b_fT_tape (by first | exact b_nT_tape | assumption | exact ⟨by omega, by omega⟩) (b_iT_length) (b_iT_at) (b_iT_number) (b_iT_next) (by first | assumption | omega) (b_iM_stands) (b_iM_variables) (b_iM_rows) (b_iM_goals) (b_iM_differents) (b_iM_cases) b_fM_ways (b_iM_plainRows) b_fM_plainRow (by first | assumption | omega) (b_p2) (by first | assumption | omega | (rw [iI_t (by omega) (by omega)]; omega) | decide) (Vld b_v2 (TrL.c12n hV hn (by omega))) (by first | assumption | omega | (rw [iI_t (by omega) (by omega)]; omega) | decide) (by first | assumption | omega | (rw [iI_t (by omega) (by omega)]; omega) | decide) s.heap.size) (cwV 2 hts gwsMX10_oneHolds_0 rfl rfl rfl (by decide +kernel) ⟨by (dsimp only [headSpec] <;> omega), by (dsimp only [headSpec] <;> omega)⟩) (fz_preE (va_recv hK hP (ci := 10) (q0 := 0) rfl rfl) hP hK hD (fun a U g mk qE => qE.call) (fun U hU9 hW => by rw [hU9]; exact (((hE : CE A s s.heap).kept hS.2.1).narrow (fun q h => hFc q h)).warm hW)) rfl rfl hl.1 rfl (lv_room (Nat.le_of_ble_eq_true rfl)) dX10_oneHolds_47 ⟨by (dsimp only [headSpec] <;> omega), by (dsimp only [headSpec] <;> omega)⟩) hS (fun q _ h => hFc q h) hFc (fun q _ h => hFc q h) (fun E ce q9 u t9_ H locs ht hvm hw9 hB9 hz1 hk1 hS hc1 hc2 hc3 => ?_) (fun r5 u t9_ H1 locs ht hvm hw9 hB9 hz1 hk1 hS => ?_)
    · obtain ⟨gL_over_5, gL_under_5, fL_bound_5, iL_steps_5, iT_fault_5, iT_place_5⟩ := u
      try dsimp only at hw9 hB9
      obtain ⟨hEx, hB9⟩ := hB9
      clear hw9
      have hP : va_P (dC, dI) vwCl (WL hL aL kL hT hM (.ref dF_tree) iL_names gL_key fL_kind fL_one fL_two fL_base iL_params fL_paramOver dL_paramOver nL_params fL_paramUnder dL_paramUnder nL_pu gL_over_5 gL_under_5 fL_bound_5 iL_nameAt iL_startAt iL_steps_5 jL_scaleOver jL_scaleUnder ++ (WF hF aF kF dF_tree nF_tree fF_tree ++ (WT hT aT kT fT_tape dT_tape nT_tape iT_length iT_fault_5 iT_place_5 iT_kind iT_at iT_number jT_name iT_next ++ (WM hM aM kM iM_stands iM_variables iM_rows iM_goals iM_differents iM_cases fM_from fM_to fM_whole fM_ways iM_plainRows fM_plainRow fM_kept fM_goalOver fM_goalUnder fM_goalMax fM_different)))) H := fz_P ht hB9.1
      have hD : va_D A (WL hL aL kL hT hM (.ref dF_tree) iL_names gL_key fL_kind fL_one fL_two fL_base iL_params fL_paramOver dL_paramOver nL_params fL_paramUnder dL_paramUnder nL_pu gL_over_5 gL_under_5 fL_bound_5 iL_nameAt iL_startAt iL_steps_5 jL_scaleOver jL_scaleUnder ++ (WF hF aF kF dF_tree nF_tree fF_tree ++ (WT hT aT kT fT_tape dT_tape nT_tape iT_length iT_fault_5 iT_place_5 iT_kind iT_at iT_number jT_name iT_next ++ (WM hM aM kM iM_stands iM_variables iM_rows iM_goals iM_differents iM_cases fM_from fM_to fM_whole fM_ways iM_plainRows fM_plainRow fM_kept fM_goalOver fM_goalUnder fM_goalMax fM_different)))) := hB9.2.weaken (fun _ q _ h => hFc q.1 h)
      exact vx_out (fun x hx9 => (htab x hx9).elim) hlocks hc1 hc2 hc3 (fun t9_ ht hvm => ⟨(gL_over_5, gL_under_5, fL_bound_5, iL_steps_5, iT_fault_5, iT_place_5), trivial, ⟨(by have h9 := hEx; exact h9), by rw [ht]; exact hP, hD⟩, hS.F ht⟩) hS.2.2 (by decide +kernel) (by decide +kernel)
    obtain ⟨gL_over_5, gL_under_5, fL_bound_5, iL_steps_5, iT_fault_5, iT_place_5⟩ := u
    try dsimp only at hw9 hB9
    have b_r5 := hw9
    try dsimp only at b_r5
    obtain ⟨hP1, hD1, hz8⟩ := hB9
    rw [ht] at hP1 hz8
    have hz9 : H1.size ≤ s.heap.size + 0 := by rw [hz8]; exact hz0
    refine W.tight (cells2 := 0) (slots2 := 0) hz9 (nS_0 hz9) ?_
    clear hz8 hz9
    have hP := hP1
    have hD := hD1.weaken (fun _ q _ h => hFc q.1 h)
    generalize H1 = H at hP hS ⊢
    have hP : va_P (dC, dI) vwCl (WL hL aL kL hT hM (.ref dF_tree) iL_names gL_key fL_kind fL_one fL_two fL_base iL_params fL_paramOver dL_paramOver nL_params fL_paramUnder dL_paramUnder nL_pu gL_over_5 gL_under_5 fL_bound_5 iL_nameAt iL_startAt iL_steps_5 jL_scaleOver jL_scaleUnder ++ (WF hF aF kF dF_tree nF_tree fF_tree ++ (WT hT aT kT fT_tape dT_tape nT_tape iT_length iT_fault_5 iT_place_5 iT_kind iT_at iT_number jT_name iT_next ++ (WM hM aM kM iM_stands iM_variables iM_rows iM_goals iM_differents iM_cases fM_from fM_to fM_whole fM_ways iM_plainRows fM_plainRow fM_kept fM_goalOver fM_goalUnder fM_goalMax fM_different)))) H := hP
    have hD : va_D A (WL hL aL kL hT hM (.ref dF_tree) iL_names gL_key fL_kind fL_one fL_two fL_base iL_params fL_paramOver dL_paramOver nL_params fL_paramUnder dL_paramUnder nL_pu gL_over_5 gL_under_5 fL_bound_5 iL_nameAt iL_startAt iL_steps_5 jL_scaleOver jL_scaleUnder ++ (WF hF aF kF dF_tree nF_tree fF_tree ++ (WT hT aT kT fT_tape dT_tape nT_tape iT_length iT_fault_5 iT_place_5 iT_kind iT_at iT_number jT_name iT_next ++ (WM hM aM kM iM_stands iM_variables iM_rows iM_goals iM_differents iM_cases fM_from fM_to fM_whole fM_ways iM_plainRows fM_plainRow fM_kept fM_goalOver fM_goalUnder fM_goalMax fM_different)))) := hD
    refine W.cut (pc := 58) (fun H locs ls stk => ∃ (k0_j2 : Int32), (0 ≤ k0_j2.toInt ∧ k0_j2.toInt ≤ 1) ∧  stk = [.int k0_j2] ∧ va_P (dC, dI) vwCl (WL hL aL kL hT hM (.ref dF_tree) iL_names gL_key fL_kind fL_one fL_two fL_base iL_params fL_paramOver dL_paramOver nL_params fL_paramUnder dL_paramUnder nL_pu gL_over_5 gL_under_5 fL_bound_5 iL_nameAt iL_startAt iL_steps_5 jL_scaleOver jL_scaleUnder ++ (WF hF aF kF dF_tree nF_tree fF_tree ++ (WT hT aT kT fT_tape dT_tape nT_tape iT_length iT_fault_5 iT_place_5 iT_kind iT_at iT_number jT_name iT_next ++ (WM hM aM kM iM_stands iM_variables iM_rows iM_goals iM_differents iM_cases fM_from fM_to fM_whole fM_ways iM_plainRows fM_plainRow fM_kept fM_goalOver fM_goalUnder fM_goalMax fM_different)))) H ∧ va_D A (WL hL aL kL hT hM (.ref dF_tree) iL_names gL_key fL_kind fL_one fL_two fL_base iL_params fL_paramOver dL_paramOver nL_params fL_paramUnder dL_paramUnder nL_pu gL_over_5 gL_under_5 fL_bound_5 iL_nameAt iL_startAt iL_steps_5 jL_scaleOver jL_scaleUnder ++ (WF hF aF kF dF_tree nF_tree fF_tree ++ (WT hT aT kT fT_tape dT_tape nT_tape iT_length iT_fault_5 iT_place_5 iT_kind iT_at iT_number jT_name iT_next ++ (WM hM aM kM iM_stands iM_variables iM_rows iM_goals iM_differents iM_cases fM_from fM_to fM_whole fM_ways iM_plainRows fM_plainRow fM_kept fM_goalOver fM_goalUnder fM_goalMax fM_different)))) ∧ va_S A s.heap H locs ∧ lv_has ls 4 [(3, .int v2), (0, .ref (hL 0)), (1, .int p1), (2, .int p2)]) (fun join2 => ?_) ?_
    · refine lv_if_ne (tgt := 57) hx hb dX10_oneHolds_50 (by decide) (fun c_50 => ?_) (fun c_50 => ?_)
      · have t_50 : r5.toInt ≠ 0 := toI_ne c_50 rfl (by decide : (0 : Int32).toInt = 0)
        refine lv_iconst (v := 0) hx hb dX10_oneHolds_57 (by decide) ?_
        have hl : lv_has _ _ ([(3, .int v2), (0, .ref (hL 0)), (1, .int p1), (2, .int p2)]) := lv_sub hl [0, 1, 2, 3] rfl
        exact join2 _ _ _ _ ⟨0, (show 0 ≤ (0 : Int32).toInt ∧ (0 : Int32).toInt ≤ 1 from by decide), rfl, hP, hD, hS, hl⟩
      · have t_50 : r5.toInt = 0 := toI_nne c_50 rfl (by decide : (0 : Int32).toInt = 0)
        refine lv_iconst (v := 1) hx hb dX10_oneHolds_53 (by decide) ?_
        refine lv_goto (tgt := 58) hx hb dX10_oneHolds_54 (by decide) ?_
        have hl : lv_has _ _ ([(3, .int v2), (0, .ref (hL 0)), (1, .int p1), (2, .int p2)]) := lv_sub hl [0, 1, 2, 3] rfl
        exact join2 _ _ _ _ ⟨1, (show 0 ≤ (1 : Int32).toInt ∧ (1 : Int32).toInt ≤ 1 from by decide), rfl, hP, hD, hS, hl⟩
    · rintro H locs ls stk ⟨k0_j2, b_k0_j2, rfl, hP, hD, hS, hl⟩
      refine vx_ret ?_
      refine W.known (fun hz9 _ => ?_)
      refine W.widen (k := 1) (n := 6) (by decide +kernel) (by decide +kernel) ?_
      exact W.zret (v := k0_j2) hx hb hr (by rcases z01 (x := k0_j2) (b_k0_j2) with h9 | h9 <;> rw [h9] <;> rfl) (fun t9_ ht hW => ⟨⟨k0_j2, (gL_over_5, gL_under_5, fL_bound_5, iL_steps_5, iT_fault_5, iT_place_5), rfl, (b_k0_j2), by rw [ht]; exact hP, hD, by rw [ht]; first | done | exact Nat.le_antisymm hz9 hS.1⟩, hS.F ht⟩) hS.2.2 dX10_oneHolds_58
  · have ts_17_12 : ¬ v4.toInt = 12 := toI_neq s_17_12 rfl (by decide)
    by_cases s_17_13 : v4 = 13
    · have ts_17_13 : v4.toInt = 13 := toI_eq s_17_13 rfl (by decide)
      refine lv_lookup (off := 42) (tgt := 59) hx hb dX10_oneHolds_17 (by decide) (by rw [s_17_13]; decide) (by decide) ?_
      refine lv_aload_n hx hb dX10_oneHolds_59 rfl (lv_at hl 1 rfl) ?_
      refine lv_iload_n hx hb dX10_oneHolds_60 rfl (lv_at hl 0 rfl) ?_
      refine lv_iload_n hx hb dX10_oneHolds_61 rfl (lv_at hl 3 rfl) ?_
      refine W.known (fun hz0 _ => ?_)
      have hFc := allFree hD hS hA
      refine vx_calli (vx_runV (As := [.int v2, .int p2]) (rest := []) ⟨hx, hb, hml, hown, hts⟩ (ih_X10_anyHolds dC dI hL aL kL hT hM iL_names gL_key fL_kind fL_one fL_two fL_base iL_params fL_paramOver dL_paramOver nL_params fL_paramUnder dL_paramUnder nL_pu gL_over gL_under fL_bound iL_nameAt iL_startAt iL_steps jL_scaleOver jL_scaleUnder hF aF kF dF_tree nF_tree fF_tree aT kT fT_tape dT_tape nT_tape iT_length iT_fault iT_place iT_kind iT_at iT_number jT_name iT_next aM kM iM_stands iM_variables iM_rows iM_goals iM_differents iM_cases fM_from fM_to fM_whole fM_ways iM_plainRows fM_plainRow fM_kept fM_goalOver fM_goalUnder fM_goalMax fM_different V lo (lv + 1) v2 p2 (b_iL_names) b_fL_kind b_fL_two b_fL_base (b_iL_params) (by first | exact b_nL_params | assumption | exact ⟨by omega, by omega⟩) (by first | assumption | omega | (rw [iI_t (by omega) (by omega)]; omega)) (by first | assumption | omega | (rw [iI_t (by omega) (by omega)]; omega)) (by first | assumption | omega | (rw [iI_t (by omega) (by omega)]; omega)) (by first | exact b_nF_tree | assumption | exact ⟨by omega, by omega⟩) b_fT_tape (by first | exact b_nT_tape | assumption | exact ⟨by omega, by omega⟩) (b_iT_length) (b_iT_at) (b_iT_number) (b_iT_next) (by first | assumption | omega) (b_iM_stands) (b_iM_variables) (b_iM_rows) (b_iM_goals) (b_iM_differents) (b_iM_cases) b_fM_ways (b_iM_plainRows) b_fM_plainRow (by first | assumption | omega) (b_p2) (by first | assumption | omega | (rw [iI_t (by omega) (by omega)]; omega) | decide) (Vld b_v2 (TrL.c12a hV hn (by omega))) (by first | assumption | omega | (rw [iI_t (by omega) (by omega)]; omega) | decide) (by first | assumption | omega | (rw [iI_t (by omega) (by omega)]; omega) | decide) s.heap.size) (cwV 2 hts gwsMX10_oneHolds_1 rfl rfl rfl (by decide +kernel) ⟨by (dsimp only [headSpec] <;> omega), by (dsimp only [headSpec] <;> omega)⟩) (fz_preE (va_recv hK hP (ci := 10) (q0 := 0) rfl rfl) hP hK hD (fun a U g mk qE => qE.call) (fun U hU9 hW => by rw [hU9]; exact (((hE : CE A s s.heap).kept hS.2.1).narrow (fun q h => hFc q h)).warm hW)) rfl rfl hl.1 rfl (lv_room (Nat.le_of_ble_eq_true rfl)) dX10_oneHolds_62 ⟨by (dsimp only [headSpec] <;> omega), by (dsimp only [headSpec] <;> omega)⟩) hS (fun q _ h => hFc q h) hFc (fun q _ h => hFc q h) (fun E ce q9 u t9_ H locs ht hvm hw9 hB9 hz1 hk1 hS hc1 hc2 hc3 => ?_) (fun r6 u t9_ H1 locs ht hvm hw9 hB9 hz1 hk1 hS => ?_)
      · obtain ⟨gL_over_6, gL_under_6, fL_bound_6, iL_steps_6, iT_fault_6, iT_place_6⟩ := u
        try dsimp only at hw9 hB9
        obtain ⟨hEx, hB9⟩ := hB9
        clear hw9
        have hP : va_P (dC, dI) vwCl (WL hL aL kL hT hM (.ref dF_tree) iL_names gL_key fL_kind fL_one fL_two fL_base iL_params fL_paramOver dL_paramOver nL_params fL_paramUnder dL_paramUnder nL_pu gL_over_6 gL_under_6 fL_bound_6 iL_nameAt iL_startAt iL_steps_6 jL_scaleOver jL_scaleUnder ++ (WF hF aF kF dF_tree nF_tree fF_tree ++ (WT hT aT kT fT_tape dT_tape nT_tape iT_length iT_fault_6 iT_place_6 iT_kind iT_at iT_number jT_name iT_next ++ (WM hM aM kM iM_stands iM_variables iM_rows iM_goals iM_differents iM_cases fM_from fM_to fM_whole fM_ways iM_plainRows fM_plainRow fM_kept fM_goalOver fM_goalUnder fM_goalMax fM_different)))) H := fz_P ht hB9.1
        have hD : va_D A (WL hL aL kL hT hM (.ref dF_tree) iL_names gL_key fL_kind fL_one fL_two fL_base iL_params fL_paramOver dL_paramOver nL_params fL_paramUnder dL_paramUnder nL_pu gL_over_6 gL_under_6 fL_bound_6 iL_nameAt iL_startAt iL_steps_6 jL_scaleOver jL_scaleUnder ++ (WF hF aF kF dF_tree nF_tree fF_tree ++ (WT hT aT kT fT_tape dT_tape nT_tape iT_length iT_fault_6 iT_place_6 iT_kind iT_at iT_number jT_name iT_next ++ (WM hM aM kM iM_stands iM_variables iM_rows iM_goals iM_differents iM_cases fM_from fM_to fM_whole fM_ways iM_plainRows fM_plainRow fM_kept fM_goalOver fM_goalUnder fM_goalMax fM_different)))) := hB9.2.weaken (fun _ q _ h => hFc q.1 h)
        exact vx_out (fun x hx9 => (htab x hx9).elim) hlocks hc1 hc2 hc3 (fun t9_ ht hvm => ⟨(gL_over_6, gL_under_6, fL_bound_6, iL_steps_6, iT_fault_6, iT_place_6), trivial, ⟨(by have h9 := hEx; exact h9), by rw [ht]; exact hP, hD⟩, hS.F ht⟩) hS.2.2 (by decide +kernel) (by decide +kernel)
      obtain ⟨gL_over_6, gL_under_6, fL_bound_6, iL_steps_6, iT_fault_6, iT_place_6⟩ := u
      try dsimp only at hw9 hB9
      have b_r6 := hw9
      try dsimp only at b_r6
      obtain ⟨hP1, hD1, hz8⟩ := hB9
      rw [ht] at hP1 hz8
      have hz9 : H1.size ≤ s.heap.size + 0 := by rw [hz8]; exact hz0
      refine W.tight (cells2 := 0) (slots2 := 0) hz9 (nS_0 hz9) ?_
      clear hz8 hz9
      have hP := hP1
      have hD := hD1.weaken (fun _ q _ h => hFc q.1 h)
      generalize H1 = H at hP hS ⊢
      have hP : va_P (dC, dI) vwCl (WL hL aL kL hT hM (.ref dF_tree) iL_names gL_key fL_kind fL_one fL_two fL_base iL_params fL_paramOver dL_paramOver nL_params fL_paramUnder dL_paramUnder nL_pu gL_over_6 gL_under_6 fL_bound_6 iL_nameAt iL_startAt iL_steps_6 jL_scaleOver jL_scaleUnder ++ (WF hF aF kF dF_tree nF_tree fF_tree ++ (WT hT aT kT fT_tape dT_tape nT_tape iT_length iT_fault_6 iT_place_6 iT_kind iT_at iT_number jT_name iT_next ++ (WM hM aM kM iM_stands iM_variables iM_rows iM_goals iM_differents iM_cases fM_from fM_to fM_whole fM_ways iM_plainRows fM_plainRow fM_kept fM_goalOver fM_goalUnder fM_goalMax fM_different)))) H := hP
      have hD : va_D A (WL hL aL kL hT hM (.ref dF_tree) iL_names gL_key fL_kind fL_one fL_two fL_base iL_params fL_paramOver dL_paramOver nL_params fL_paramUnder dL_paramUnder nL_pu gL_over_6 gL_under_6 fL_bound_6 iL_nameAt iL_startAt iL_steps_6 jL_scaleOver jL_scaleUnder ++ (WF hF aF kF dF_tree nF_tree fF_tree ++ (WT hT aT kT fT_tape dT_tape nT_tape iT_length iT_fault_6 iT_place_6 iT_kind iT_at iT_number jT_name iT_next ++ (WM hM aM kM iM_stands iM_variables iM_rows iM_goals iM_differents iM_cases fM_from fM_to fM_whole fM_ways iM_plainRows fM_plainRow fM_kept fM_goalOver fM_goalUnder fM_goalMax fM_different)))) := hD
      refine vx_ret ?_
      refine W.known (fun hz9 _ => ?_)
      refine W.widen (k := 1) (n := 6) (by decide +kernel) (by decide +kernel) ?_
      exact W.zret (v := r6) hx hb hr (by rcases z01 (x := r6) (by first | exact b_r6 | assumption | exact ⟨by omega, by omega⟩) with h9 | h9 <;> rw [h9] <;> rfl) (fun t9_ ht hW => ⟨⟨r6, (gL_over_6, gL_under_6, fL_bound_6, iL_steps_6, iT_fault_6, iT_place_6), rfl, (by first | exact b_r6 | assumption | exact ⟨by omega, by omega⟩), by rw [ht]; exact hP, hD, by rw [ht]; first | done | exact Nat.le_antisymm hz9 hS.1⟩, hS.F ht⟩) hS.2.2 dX10_oneHolds_65
    · have ts_17_13 : ¬ v4.toInt = 13 := toI_neq s_17_13 rfl (by decide)
      refine lv_lookup (off := 49) (tgt := 66) hx hb dX10_oneHolds_17 (by decide) (by show Op.lookupswitch.offset [(12, 27), (13, 42)] 49 _ = 49; rw [Op.lookupswitch.offset_cons, if_neg (lk_ne s_17_12 (show Int32.toInt 12 = 12 by decide)), Op.lookupswitch.offset_cons, if_neg (lk_ne s_17_13 (show Int32.toInt 13 = 13 by decide))]; rfl) (by decide) ?_
      refine lv_aload_n hx hb dX10_oneHolds_66 rfl (lv_at hl 1 rfl) ?_
      refine lv_iload_n hx hb dX10_oneHolds_67 rfl (lv_at hl 2 rfl) ?_
      refine lv_iload_n hx hb dX10_oneHolds_68 rfl (lv_at hl 3 rfl) ?_
      refine W.known (fun hz0 _ => ?_)
      have hFc := allFree hD hS hA
      refine vx_calli (vx_runV (As := [.int p1, .int p2]) (rest := []) ⟨hx, hb, hml, hown, hts⟩ (ih_X10_compares dC dI hL aL kL hT hM iL_names gL_key fL_kind fL_one fL_two fL_base iL_params fL_paramOver dL_paramOver nL_params fL_paramUnder dL_paramUnder nL_pu gL_over gL_under fL_bound iL_nameAt iL_startAt iL_steps jL_scaleOver jL_scaleUnder hF aF kF dF_tree nF_tree fF_tree aT kT fT_tape dT_tape nT_tape iT_length iT_fault iT_place iT_kind iT_at iT_number jT_name iT_next aM kM iM_stands iM_variables iM_rows iM_goals iM_differents iM_cases fM_from fM_to fM_whole fM_ways iM_plainRows fM_plainRow fM_kept fM_goalOver fM_goalUnder fM_goalMax fM_different V lo lv p1 p2 (b_iL_names) b_fL_kind b_fL_two b_fL_base (b_iL_params) (by first | exact b_nL_params | assumption | exact ⟨by omega, by omega⟩) (by first | assumption | omega | (rw [iI_t (by omega) (by omega)]; omega)) (by first | assumption | omega | (rw [iI_t (by omega) (by omega)]; omega)) (by first | assumption | omega | (rw [iI_t (by omega) (by omega)]; omega)) (by first | exact b_nF_tree | assumption | exact ⟨by omega, by omega⟩) b_fT_tape (by first | exact b_nT_tape | assumption | exact ⟨by omega, by omega⟩) (b_iT_length) (b_iT_at) (b_iT_number) (b_iT_next) (by first | assumption | omega) (b_iM_stands) (b_iM_variables) (b_iM_rows) (b_iM_goals) (b_iM_differents) (b_iM_cases) b_fM_ways (b_iM_plainRows) b_fM_plainRow (by first | assumption | omega) (b_p2) (by first | assumption | omega | (rw [iI_t (by omega) (by omega)]; omega) | decide) (by first | assumption | omega | (rw [iI_t (by omega) (by omega)]; omega) | decide) (by first | assumption | omega | (rw [iI_t (by omega) (by omega)]; omega) | decide) (by first | assumption | omega | (rw [iI_t (by omega) (by omega)]; omega) | decide) (TrL.c12c hV hn (by omega) (by omega)) s.heap.size) (cwV 2 hts gwsMX10_oneHolds_2 rfl rfl rfl (by decide +kernel) ⟨by (dsimp only [headSpec] <;> omega), by (dsimp only [headSpec] <;> omega)⟩) (fz_preE (va_recv hK hP (ci := 10) (q0 := 0) rfl rfl) hP hK hD (fun a U g mk qE => qE.call) (fun U hU9 hW => by rw [hU9]; exact (((hE : CE A s s.heap).kept hS.2.1).narrow (fun q h => hFc q h)).warm hW)) rfl rfl hl.1 rfl (lv_room (Nat.le_of_ble_eq_true rfl)) dX10_oneHolds_69 ⟨by (dsimp only [headSpec] <;> omega), by (dsimp only [headSpec] <;> omega)⟩) hS (fun q _ h => hFc q h) hFc (fun q _ h => hFc q h) (fun E ce q9 u t9_ H locs ht hvm hw9 hB9 hz1 hk1 hS hc1 hc2 hc3 => ?_) (fun r7 u t9_ H1 locs ht hvm hw9 hB9 hz1 hk1 hS => ?_)
      · obtain ⟨gL_over_7, gL_under_7, fL_bound_7, iL_steps_7, iT_fault_7, iT_place_7⟩ := u
        try dsimp only at hw9 hB9
        obtain ⟨hEx, hB9⟩ := hB9
        clear hw9
        have hP : va_P (dC, dI) vwCl (WL hL aL kL hT hM (.ref dF_tree) iL_names gL_key fL_kind fL_one fL_two fL_base iL_params fL_paramOver dL_paramOver nL_params fL_paramUnder dL_paramUnder nL_pu gL_over_7 gL_under_7 fL_bound_7 iL_nameAt iL_startAt iL_steps_7 jL_scaleOver jL_scaleUnder ++ (WF hF aF kF dF_tree nF_tree fF_tree ++ (WT hT aT kT fT_tape dT_tape nT_tape iT_length iT_fault_7 iT_place_7 iT_kind iT_at iT_number jT_name iT_next ++ (WM hM aM kM iM_stands iM_variables iM_rows iM_goals iM_differents iM_cases fM_from fM_to fM_whole fM_ways iM_plainRows fM_plainRow fM_kept fM_goalOver fM_goalUnder fM_goalMax fM_different)))) H := fz_P ht hB9.1
        have hD : va_D A (WL hL aL kL hT hM (.ref dF_tree) iL_names gL_key fL_kind fL_one fL_two fL_base iL_params fL_paramOver dL_paramOver nL_params fL_paramUnder dL_paramUnder nL_pu gL_over_7 gL_under_7 fL_bound_7 iL_nameAt iL_startAt iL_steps_7 jL_scaleOver jL_scaleUnder ++ (WF hF aF kF dF_tree nF_tree fF_tree ++ (WT hT aT kT fT_tape dT_tape nT_tape iT_length iT_fault_7 iT_place_7 iT_kind iT_at iT_number jT_name iT_next ++ (WM hM aM kM iM_stands iM_variables iM_rows iM_goals iM_differents iM_cases fM_from fM_to fM_whole fM_ways iM_plainRows fM_plainRow fM_kept fM_goalOver fM_goalUnder fM_goalMax fM_different)))) := hB9.2.weaken (fun _ q _ h => hFc q.1 h)
        exact vx_out (fun x hx9 => (htab x hx9).elim) hlocks hc1 hc2 hc3 (fun t9_ ht hvm => ⟨(gL_over_7, gL_under_7, fL_bound_7, iL_steps_7, iT_fault_7, iT_place_7), trivial, ⟨(by have h9 := hEx; exact h9), by rw [ht]; exact hP, hD⟩, hS.F ht⟩) hS.2.2 (by decide +kernel) (by decide +kernel)
      obtain ⟨gL_over_7, gL_under_7, fL_bound_7, iL_steps_7, iT_fault_7, iT_place_7⟩ := u
      try dsimp only at hw9 hB9
      have b_r7 := hw9
      try dsimp only at b_r7
      obtain ⟨hP1, hD1, hz8⟩ := hB9
      rw [ht] at hP1 hz8
      have hz9 : H1.size ≤ s.heap.size + 0 := by rw [hz8]; exact hz0
      refine W.tight (cells2 := 0) (slots2 := 0) hz9 (nS_0 hz9) ?_
      clear hz8 hz9
      have hP := hP1
      have hD := hD1.weaken (fun _ q _ h => hFc q.1 h)
      generalize H1 = H at hP hS ⊢
      have hP : va_P (dC, dI) vwCl (WL hL aL kL hT hM (.ref dF_tree) iL_names gL_key fL_kind fL_one fL_two fL_base iL_params fL_paramOver dL_paramOver nL_params fL_paramUnder dL_paramUnder nL_pu gL_over_7 gL_under_7 fL_bound_7 iL_nameAt iL_startAt iL_steps_7 jL_scaleOver jL_scaleUnder ++ (WF hF aF kF dF_tree nF_tree fF_tree ++ (WT hT aT kT fT_tape dT_tape nT_tape iT_length iT_fault_7 iT_place_7 iT_kind iT_at iT_number jT_name iT_next ++ (WM hM aM kM iM_stands iM_variables iM_rows iM_goals iM_differents iM_cases fM_from fM_to fM_whole fM_ways iM_plainRows fM_plainRow fM_kept fM_goalOver fM_goalUnder fM_goalMax fM_different)))) H := hP
      have hD : va_D A (WL hL aL kL hT hM (.ref dF_tree) iL_names gL_key fL_kind fL_one fL_two fL_base iL_params fL_paramOver dL_paramOver nL_params fL_paramUnder dL_paramUnder nL_pu gL_over_7 gL_under_7 fL_bound_7 iL_nameAt iL_startAt iL_steps_7 jL_scaleOver jL_scaleUnder ++ (WF hF aF kF dF_tree nF_tree fF_tree ++ (WT hT aT kT fT_tape dT_tape nT_tape iT_length iT_fault_7 iT_place_7 iT_kind iT_at iT_number jT_name iT_next ++ (WM hM aM kM iM_stands iM_variables iM_rows iM_goals iM_differents iM_cases fM_from fM_to fM_whole fM_ways iM_plainRows fM_plainRow fM_kept fM_goalOver fM_goalUnder fM_goalMax fM_different)))) := hD
      refine vx_ret ?_
      refine W.known (fun hz9 _ => ?_)
      refine W.widen (k := 1) (n := 6) (by decide +kernel) (by decide +kernel) ?_
      exact W.zret (v := r7) hx hb hr (by rcases z01 (x := r7) (by first | exact b_r7 | assumption | exact ⟨by omega, by omega⟩) with h9 | h9 <;> rw [h9] <;> rfl) (fun t9_ ht hW => ⟨⟨r7, (gL_over_7, gL_under_7, fL_bound_7, iL_steps_7, iT_fault_7, iT_place_7), rfl, (by first | exact b_r7 | assumption | exact ⟨by omega, by omega⟩), by rw [ht]; exact hP, hD, by rw [ht]; first | done | exact Nat.le_antisymm hz9 hS.1⟩, hS.F ht⟩) hS.2.2 dX10_oneHolds_72
theorem dX10_compares_0 : decode cX10_compares 0 = .ok (.aload_n 0, 1) := dk_42 (by decide +kernel)
theorem dX10_compares_1 : decode cX10_compares 1 = .ok (.aload_n 0, 1) := dk_42 (by decide +kernel)
theorem dX10_compares_2 : decode cX10_compares 2 = .ok (.getfield 55, 3) := dk_180 (by decide +kernel)
theorem dX10_compares_5 : decode cX10_compares 5 = .ok (.iload_n 1, 1) := dk_27 (by decide +kernel)
theorem dX10_compares_6 : decode cX10_compares 6 = .ok (.iconst 3, 1) := dk_6 (by decide +kernel)
theorem dX10_compares_7 : decode cX10_compares 7 = .ok (.iadd, 1) := dk_96 (by decide +kernel)
theorem dX10_compares_8 : decode cX10_compares 8 = .ok (.iaload, 1) := dk_46 (by decide +kernel)
theorem dX10_compares_9 : decode cX10_compares 9 = .ok (.iload_n 2, 1) := dk_28 (by decide +kernel)
theorem dX10_compares_10 : decode cX10_compares 10 = .ok (.invokevirtual 80, 3) := dk_182 (by decide +kernel)
theorem dX10_compares_13 : decode cX10_compares 13 = .ok (.aload_n 0, 1) := dk_42 (by decide +kernel)
theorem dX10_compares_14 : decode cX10_compares 14 = .ok (.getfield 36, 3) := dk_180 (by decide +kernel)
theorem dX10_compares_17 : decode cX10_compares 17 = .ok (.iload_n 2, 1) := dk_28 (by decide +kernel)
theorem dX10_compares_18 : decode cX10_compares 18 = .ok (.bipush 9, 2) := dk_16 (by decide +kernel)
theorem dX10_compares_20 : decode cX10_compares 20 = .ok (.imul, 1) := dk_104 (by decide +kernel)
theorem dX10_compares_21 : decode cX10_compares 21 = .ok (.laload, 1) := dk_47 (by decide +kernel)
theorem dX10_compares_22 : decode cX10_compares 22 = .ok (.lstore_n 3, 1) := dk_66 (by decide +kernel)
theorem dX10_compares_23 : decode cX10_compares 23 = .ok (.aload_n 0, 1) := dk_42 (by decide +kernel)
theorem dX10_compares_24 : decode cX10_compares 24 = .ok (.getfield 39, 3) := dk_180 (by decide +kernel)
theorem dX10_compares_27 : decode cX10_compares 27 = .ok (.iload_n 2, 1) := dk_28 (by decide +kernel)
theorem dX10_compares_28 : decode cX10_compares 28 = .ok (.bipush 9, 2) := dk_16 (by decide +kernel)
theorem dX10_compares_30 : decode cX10_compares 30 = .ok (.imul, 1) := dk_104 (by decide +kernel)
theorem dX10_compares_31 : decode cX10_compares 31 = .ok (.laload, 1) := dk_47 (by decide +kernel)
theorem dX10_compares_32 : decode cX10_compares 32 = .ok (.lstore 5, 2) := dk_55 (by decide +kernel)
theorem dX10_compares_34 : decode cX10_compares 34 = .ok (.aload_n 0, 1) := dk_42 (by decide +kernel)
theorem dX10_compares_35 : decode cX10_compares 35 = .ok (.aload_n 0, 1) := dk_42 (by decide +kernel)
theorem dX10_compares_36 : decode cX10_compares 36 = .ok (.getfield 55, 3) := dk_180 (by decide +kernel)
theorem dX10_compares_39 : decode cX10_compares 39 = .ok (.iload_n 1, 1) := dk_27 (by decide +kernel)
theorem dX10_compares_40 : decode cX10_compares 40 = .ok (.iconst 4, 1) := dk_7 (by decide +kernel)
theorem dX10_compares_41 : decode cX10_compares 41 = .ok (.iadd, 1) := dk_96 (by decide +kernel)
theorem dX10_compares_42 : decode cX10_compares 42 = .ok (.iaload, 1) := dk_46 (by decide +kernel)
theorem dX10_compares_43 : decode cX10_compares 43 = .ok (.iload_n 2, 1) := dk_28 (by decide +kernel)
theorem dX10_compares_44 : decode cX10_compares 44 = .ok (.invokevirtual 80, 3) := dk_182 (by decide +kernel)
theorem dX10_compares_47 : decode cX10_compares 47 = .ok (.lload_n 3, 1) := dk_33 (by decide +kernel)
theorem dX10_compares_48 : decode cX10_compares 48 = .ok (.aload_n 0, 1) := dk_42 (by decide +kernel)
theorem dX10_compares_49 : decode cX10_compares 49 = .ok (.getfield 39, 3) := dk_180 (by decide +kernel)
theorem dX10_compares_52 : decode cX10_compares 52 = .ok (.iload_n 2, 1) := dk_28 (by decide +kernel)
theorem dX10_compares_53 : decode cX10_compares 53 = .ok (.bipush 9, 2) := dk_16 (by decide +kernel)
theorem dX10_compares_55 : decode cX10_compares 55 = .ok (.imul, 1) := dk_104 (by decide +kernel)
theorem dX10_compares_56 : decode cX10_compares 56 = .ok (.laload, 1) := dk_47 (by decide +kernel)
theorem dX10_compares_57 : decode cX10_compares 57 = .ok (.lmul, 1) := dk_105 (by decide +kernel)
theorem dX10_compares_58 : decode cX10_compares 58 = .ok (.aload_n 0, 1) := dk_42 (by decide +kernel)
theorem dX10_compares_59 : decode cX10_compares 59 = .ok (.getfield 36, 3) := dk_180 (by decide +kernel)
theorem dX10_compares_62 : decode cX10_compares 62 = .ok (.iload_n 2, 1) := dk_28 (by decide +kernel)
theorem dX10_compares_63 : decode cX10_compares 63 = .ok (.bipush 9, 2) := dk_16 (by decide +kernel)
theorem dX10_compares_65 : decode cX10_compares 65 = .ok (.imul, 1) := dk_104 (by decide +kernel)
theorem dX10_compares_66 : decode cX10_compares 66 = .ok (.laload, 1) := dk_47 (by decide +kernel)
theorem dX10_compares_67 : decode cX10_compares 67 = .ok (.lload 5, 2) := dk_22 (by decide +kernel)
theorem dX10_compares_69 : decode cX10_compares 69 = .ok (.lmul, 1) := dk_105 (by decide +kernel)
theorem dX10_compares_70 : decode cX10_compares 70 = .ok (.invokestatic 258, 3) := dk_184 (by decide +kernel)
theorem dX10_compares_73 : decode cX10_compares 73 = .ok (.istore 7, 2) := dk_54 (by decide +kernel)
theorem dX10_compares_75 : decode cX10_compares 75 = .ok (.aload_n 0, 1) := dk_42 (by decide +kernel)
theorem dX10_compares_76 : decode cX10_compares 76 = .ok (.getfield 55, 3) := dk_180 (by decide +kernel)
theorem dX10_compares_79 : decode cX10_compares 79 = .ok (.iload_n 1, 1) := dk_27 (by decide +kernel)
theorem dX10_compares_80 : decode cX10_compares 80 = .ok (.iconst 2, 1) := dk_5 (by decide +kernel)
theorem dX10_compares_81 : decode cX10_compares 81 = .ok (.iadd, 1) := dk_96 (by decide +kernel)
theorem dX10_compares_82 : decode cX10_compares 82 = .ok (.iaload, 1) := dk_46 (by decide +kernel)
theorem dX10_compares_83 : decode cX10_compares 83 = .ok (.lookupswitch 104 #[(60, 82), (62, 93), (301, 49), (302, 60), (303, 71)], 49) := by decide +kernel
theorem dX10_compares_132 : decode cX10_compares 132 = .ok (.iload 7, 2) := dk_21 (by decide +kernel)
theorem dX10_compares_134 : decode cX10_compares 134 = .ok (.ifCond .gt 7, 3) := dk_157 (by decide +kernel)
theorem dX10_compares_137 : decode cX10_compares 137 = .ok (.iconst 1, 1) := dk_4 (by decide +kernel)
theorem dX10_compares_138 : decode cX10_compares 138 = .ok (.goto 4, 3) := dk_167 (by decide +kernel)
theorem dX10_compares_141 : decode cX10_compares 141 = .ok (.iconst 0, 1) := dk_3 (by decide +kernel)
theorem dX10_compares_142 : decode cX10_compares 142 = .ok (.ireturn, 1) := dk_172 (by decide +kernel)
theorem dX10_compares_143 : decode cX10_compares 143 = .ok (.iload 7, 2) := dk_21 (by decide +kernel)
theorem dX10_compares_145 : decode cX10_compares 145 = .ok (.ifCond .lt 7, 3) := dk_155 (by decide +kernel)
theorem dX10_compares_148 : decode cX10_compares 148 = .ok (.iconst 1, 1) := dk_4 (by decide +kernel)
theorem dX10_compares_149 : decode cX10_compares 149 = .ok (.goto 4, 3) := dk_167 (by decide +kernel)
theorem dX10_compares_152 : decode cX10_compares 152 = .ok (.iconst 0, 1) := dk_3 (by decide +kernel)
theorem dX10_compares_153 : decode cX10_compares 153 = .ok (.ireturn, 1) := dk_172 (by decide +kernel)
theorem dX10_compares_154 : decode cX10_compares 154 = .ok (.iload 7, 2) := dk_21 (by decide +kernel)
theorem dX10_compares_156 : decode cX10_compares 156 = .ok (.ifCond .eq 7, 3) := dk_153 (by decide +kernel)
theorem dX10_compares_159 : decode cX10_compares 159 = .ok (.iconst 1, 1) := dk_4 (by decide +kernel)
theorem dX10_compares_160 : decode cX10_compares 160 = .ok (.goto 4, 3) := dk_167 (by decide +kernel)
theorem dX10_compares_163 : decode cX10_compares 163 = .ok (.iconst 0, 1) := dk_3 (by decide +kernel)
theorem dX10_compares_164 : decode cX10_compares 164 = .ok (.ireturn, 1) := dk_172 (by decide +kernel)
theorem dX10_compares_165 : decode cX10_compares 165 = .ok (.iload 7, 2) := dk_21 (by decide +kernel)
theorem dX10_compares_167 : decode cX10_compares 167 = .ok (.ifCond .ge 7, 3) := dk_156 (by decide +kernel)
theorem dX10_compares_170 : decode cX10_compares 170 = .ok (.iconst 1, 1) := dk_4 (by decide +kernel)
theorem dX10_compares_171 : decode cX10_compares 171 = .ok (.goto 4, 3) := dk_167 (by decide +kernel)
theorem dX10_compares_174 : decode cX10_compares 174 = .ok (.iconst 0, 1) := dk_3 (by decide +kernel)
theorem dX10_compares_175 : decode cX10_compares 175 = .ok (.ireturn, 1) := dk_172 (by decide +kernel)
theorem dX10_compares_176 : decode cX10_compares 176 = .ok (.iload 7, 2) := dk_21 (by decide +kernel)
theorem dX10_compares_178 : decode cX10_compares 178 = .ok (.ifCond .le 7, 3) := dk_158 (by decide +kernel)
theorem dX10_compares_181 : decode cX10_compares 181 = .ok (.iconst 1, 1) := dk_4 (by decide +kernel)
theorem dX10_compares_182 : decode cX10_compares 182 = .ok (.goto 4, 3) := dk_167 (by decide +kernel)
theorem dX10_compares_185 : decode cX10_compares 185 = .ok (.iconst 0, 1) := dk_3 (by decide +kernel)
theorem dX10_compares_186 : decode cX10_compares 186 = .ok (.ireturn, 1) := dk_172 (by decide +kernel)
theorem dX10_compares_187 : decode cX10_compares 187 = .ok (.iload 7, 2) := dk_21 (by decide +kernel)
theorem dX10_compares_189 : decode cX10_compares 189 = .ok (.ifCond .ne 7, 3) := dk_154 (by decide +kernel)
theorem dX10_compares_192 : decode cX10_compares 192 = .ok (.iconst 1, 1) := dk_4 (by decide +kernel)
theorem dX10_compares_193 : decode cX10_compares 193 = .ok (.goto 4, 3) := dk_167 (by decide +kernel)
theorem dX10_compares_196 : decode cX10_compares 196 = .ok (.iconst 0, 1) := dk_3 (by decide +kernel)
theorem dX10_compares_197 : decode cX10_compares 197 = .ok (.ireturn, 1) := dk_172 (by decide +kernel)
theorem iwsMX10_compares_in10 : ∀ w ∈ wsX100, w ∈ wsMX10_compares := fun w h => List.mem_cons_of_mem _ (iwsGW_in10 w h)
theorem gwsMX10_compares_0 : GoodIn wsMX10_compares (wsV RX10 80 RX10 yX10_number wsMX10_number) := goodIn_rec (hd := [.methodLink RX10 80 yX10_number, .instanceMethod yX10_number, .selects RX10 yX10_number yX10_number, .initialized RX10]) (by decide +kernel) (by decide +kernel) gdwsGW
theorem gwsMX10_compares_1 : GoodIn wsMX10_compares (va_wsS RX10 258 yJ13_compare_74951 wsMJ13_compare_74951) := goodIn_sub (fun w h => List.mem_cons_of_mem _ (gwsGW_10 w h)) (gdS (by decide +kernel) gdwsMJ13_compare_74951)
set_option maxHeartbeats 4000000 in
set_option maxRecDepth 100000 in
/-- whether a comparison holds -/
theorem m_X10_compares (l : Launch) (hst : l.stackTraces = false) (ev : Nat) (ih_X10_number : Cm_X10_number l (ev)) : Cm_X10_compares l (ev + 1) := by
  intro dC dI hL aL kL hT hM iL_names gL_key fL_kind fL_one fL_two fL_base iL_params fL_paramOver dL_paramOver nL_params fL_paramUnder dL_paramUnder nL_pu gL_over gL_under fL_bound iL_nameAt iL_startAt iL_steps jL_scaleOver jL_scaleUnder hF aF kF dF_tree nF_tree fF_tree aT kT fT_tape dT_tape nT_tape iT_length iT_fault iT_place iT_kind iT_at iT_number jT_name iT_next aM kM iM_stands iM_variables iM_rows iM_goals iM_differents iM_cases fM_from fM_to fM_whole fM_ways iM_plainRows fM_plainRow fM_kept fM_goalOver fM_goalUnder fM_goalMax fM_different V lo lv p1 p2 b_iL_names b_fL_kind b_fL_two b_fL_base b_iL_params b_nL_params b_nm b_pm b_pu b_nF_tree b_fT_tape b_nT_tape b_iT_length b_iT_at b_iT_number b_iT_next b_len b_iM_stands b_iM_variables b_iM_rows b_iM_goals b_iM_differents b_iM_cases b_fM_ways b_iM_plainRows b_fM_plainRow b_pr b_p2 hV hn hlv hsl hcc sz
  refine vx_ofW (cc := cX10_compares) (maxL := 8) (ret := (some .boolean)) (by decide) rfl ?_
  intro p e s m args below meth c s₁ B hml htab hv
  obtain ⟨rfl, hsz, hP, hK, hD0, hE⟩ := hv
  have hx := B.exec
  have hb := B.bytes
  have hr := B.returns
  have hts := atoms_spec (ws := wsMX10_compares) B.pre
  have hown : s.vm.findClass RX10 = some m.cls := findClass_of_methodNamed B.named
  have hlocks := B.notSynchronized
  subst hsz
  have hD := hD0.self (sz := s.heap.size)
  generalize hAe : va_A (WL hL aL kL hT hM (.ref dF_tree) iL_names gL_key fL_kind fL_one fL_two fL_base iL_params fL_paramOver dL_paramOver nL_params fL_paramUnder dL_paramUnder nL_pu gL_over gL_under fL_bound iL_nameAt iL_startAt iL_steps jL_scaleOver jL_scaleUnder ++ (WF hF aF kF dF_tree nF_tree fF_tree ++ (WT hT aT kT fT_tape dT_tape nT_tape iT_length iT_fault iT_place iT_kind iT_at iT_number jT_name iT_next ++ (WM hM aM kM iM_stands iM_variables iM_rows iM_goals iM_differents iM_cases fM_from fM_to fM_whole fM_ways iM_plainRows fM_plainRow fM_kept fM_goalOver fM_goalUnder fM_goalMax fM_different)))) s.heap.size = A at hD hE ⊢
  have hA : ∀ q : Nat, s.heap.size ≤ q → A q := fun q h => by rw [← hAe]; exact Or.inr h
  have hS : va_S A s.heap s.heap [] := va_S.rf
  have hl := lv_entry ([.ref (hL 0), .int p1, .int p2]) (n := 8) (Nat.le_of_ble_eq_true rfl)
  rw [lg_entry_eq]
  generalize (lg_sl ([.ref (hL 0), .int p1, .int p2]) ++ List.replicate (8 - (lg_sl ([.ref (hL 0), .int p1, .int p2])).length) Slot.unset).toArray = ls at hl ⊢
  have hl : lv_has ls 8 [(0, .ref (hL 0)), (1, .int p1), (2, .int p2)] := hl
  have hr0 := TrL.rng hV hn
  refine lv_aload_n hx hb dX10_compares_0 rfl (lv_at hl 0 rfl) ?_
  refine lv_aload_n hx hb dX10_compares_1 rfl (lv_at hl 0 rfl) ?_
  refine va_get (D := (dC, dI)) (ci := 10) (v := .ref dF_tree) (C := RX10) (T := TX10) (N := 20) hx hb hts iwsMX10_compares_in10 hown hK hP 0 rfl rfl 2 (by decide) (hts (.fieldLink RX10 55 "OptimaWorks$Worker" "tree" "[I") (by decide +kernel)) (fun _ h9 => h9) rfl dX10_compares_2 ?_
  refine lv_iload_n hx hb dX10_compares_5 rfl (lv_at hl 1 rfl) ?_
  refine lv_iconst (v := 3) hx hb dX10_compares_6 (by decide) ?_
  refine lv_iadd hx hb dX10_compares_7 ?_
  refine lv_topi (fun y1 hy1 => ?_)
  obtain rfl : (iI (p1.toInt + 3)) = y1 := (hy1.trans (iI_add2 (iI_of _) (by decide : (3 : Int32) = iI 3))).symm
  refine va_iald (cA := kF 0) (n := nF_tree) (f := fF_tree) hx hb hK hP 11 10 rfl rfl (vp_iI (by omega) (by omega) (by omega)) dX10_compares_8 ?_
  refine lv_topi (fun v2 hv2 => ?_)
  have b_v2 : v2.toInt = twL fF_tree (p1.toInt + 3) := by rw [hv2]; exact tw_i (by omega) (by omega)
  clear hv2
  refine lv_iload_n hx hb dX10_compares_9 rfl (lv_at hl 2 rfl) ?_
  refine W.known (fun hz0 _ => ?_)
  have hFc := allFree hD hS hA
  refine vx_callv (vx_runV (As := [.int v2, .int p2]) (rest := []) ⟨hx, hb, hml, hown, hts⟩ (ih_X10_number dC dI hL aL kL hT hM iL_names gL_key fL_kind fL_one fL_two fL_base iL_params fL_paramOver dL_paramOver nL_params fL_paramUnder dL_paramUnder nL_pu gL_over gL_under fL_bound iL_nameAt iL_startAt iL_steps jL_scaleOver jL_scaleUnder hF aF kF dF_tree nF_tree fF_tree aT kT fT_tape dT_tape nT_tape iT_length iT_fault iT_place iT_kind iT_at iT_number jT_name iT_next aM kM iM_stands iM_variables iM_rows iM_goals iM_differents iM_cases fM_from fM_to fM_whole fM_ways iM_plainRows fM_plainRow fM_kept fM_goalOver fM_goalUnder fM_goalMax fM_different V lo (lv + 1) v2 p2 (b_iL_names) b_fL_kind b_fL_two b_fL_base (b_iL_params) (by first | exact b_nL_params | assumption | exact ⟨by omega, by omega⟩) (by first | assumption | omega | (rw [iI_t (by omega) (by omega)]; omega)) (by first | assumption | omega | (rw [iI_t (by omega) (by omega)]; omega)) (by first | assumption | omega | (rw [iI_t (by omega) (by omega)]; omega)) (by first | exact b_nF_tree | assumption | exact ⟨by omega, by omega⟩) b_fT_tape (by first | exact b_nT_tape | assumption | exact ⟨by omega, by omega⟩) (b_iT_length) (b_iT_at) (b_iT_number) (b_iT_next) (by first | assumption | omega) (b_iM_stands) (b_iM_variables) (b_iM_rows) (b_iM_goals) (b_iM_differents) (b_iM_cases) b_fM_ways (b_iM_plainRows) b_fM_plainRow (by first | assumption | omega) (b_p2) (by first | assumption | omega | (rw [iI_t (by omega) (by omega)]; omega) | decide) (Vld b_v2 hcc.1) (by first | assumption | omega | (rw [iI_t (by omega) (by omega)]; omega) | decide) (by first | assumption | omega | (rw [iI_t (by omega) (by omega)]; omega) | decide) s.heap.size) (cwV 2 hts gwsMX10_compares_0 rfl rfl rfl (by decide +kernel) ⟨by (dsimp only [headSpec] <;> omega), by (dsimp only [headSpec] <;> omega)⟩) (fz_preE (va_recv hK hP (ci := 10) (q0 := 0) rfl rfl) hP hK hD (fun a U g mk qE => qE.call) (fun U hU9 hW => by rw [hU9]; exact (((hE : CE A s s.heap).kept hS.2.1).narrow (fun q h => hFc q h)).warm hW)) rfl rfl hl.1 rfl (lv_room (Nat.le_of_ble_eq_true rfl)) dX10_compares_10 ⟨by (dsimp only [headSpec] <;> omega), by (dsimp only [headSpec] <;> omega)⟩) hS (fun q _ h => hFc q h) hFc (fun q _ h => hFc q h) (fun E ce q9 u t9_ H locs ht hvm hw9 hB9 hz1 hk1 hS hc1 hc2 hc3 => ?_) (fun u t9_ H1 locs ht hvm hw9 hB9 hz1 hk1 hS => ?_)
  · obtain ⟨gL_over_3, gL_under_3, fL_bound_3, iL_steps_3, iT_fault_3, iT_place_3⟩ := u
    try dsimp only at hw9 hB9
    obtain ⟨hEx, hB9⟩ := hB9
    clear hw9
    have hP : va_P (dC, dI) vwCl (WL hL aL kL hT hM (.ref dF_tree) iL_names gL_key fL_kind fL_one fL_two fL_base iL_params fL_paramOver dL_paramOver nL_params fL_paramUnder dL_paramUnder nL_pu gL_over_3 gL_under_3 fL_bound_3 iL_nameAt iL_startAt iL_steps_3 jL_scaleOver jL_scaleUnder ++ (WF hF aF kF dF_tree nF_tree fF_tree ++ (WT hT aT kT fT_tape dT_tape nT_tape iT_length iT_fault_3 iT_place_3 iT_kind iT_at iT_number jT_name iT_next ++ (WM hM aM kM iM_stands iM_variables iM_rows iM_goals iM_differents iM_cases fM_from fM_to fM_whole fM_ways iM_plainRows fM_plainRow fM_kept fM_goalOver fM_goalUnder fM_goalMax fM_different)))) H := fz_P ht hB9.1
    have hD : va_D A (WL hL aL kL hT hM (.ref dF_tree) iL_names gL_key fL_kind fL_one fL_two fL_base iL_params fL_paramOver dL_paramOver nL_params fL_paramUnder dL_paramUnder nL_pu gL_over_3 gL_under_3 fL_bound_3 iL_nameAt iL_startAt iL_steps_3 jL_scaleOver jL_scaleUnder ++ (WF hF aF kF dF_tree nF_tree fF_tree ++ (WT hT aT kT fT_tape dT_tape nT_tape iT_length iT_fault_3 iT_place_3 iT_kind iT_at iT_number jT_name iT_next ++ (WM hM aM kM iM_stands iM_variables iM_rows iM_goals iM_differents iM_cases fM_from fM_to fM_whole fM_ways iM_plainRows fM_plainRow fM_kept fM_goalOver fM_goalUnder fM_goalMax fM_different)))) := hB9.2.weaken (fun _ q _ h => hFc q.1 h)
    exact vx_out (fun x hx9 => (htab x hx9).elim) hlocks hc1 hc2 hc3 (fun t9_ ht hvm => ⟨(gL_over_3, gL_under_3, fL_bound_3, iL_steps_3, iT_fault_3, iT_place_3), trivial, ⟨(by have h9 := hEx; exact h9), by rw [ht]; exact hP, hD⟩, hS.F ht⟩) hS.2.2 (by decide +kernel) (by decide +kernel)
  obtain ⟨gL_over_3, gL_under_3, fL_bound_3, iL_steps_3, iT_fault_3, iT_place_3⟩ := u
  try dsimp only at hw9 hB9
  clear hw9
  obtain ⟨hP1, hD1, hz8⟩ := hB9
  rw [ht] at hP1 hz8
  have hz9 : H1.size ≤ s.heap.size + 0 := by rw [hz8]; exact hz0
  refine W.tight (cells2 := 0) (slots2 := 0) hz9 (nS_0 hz9) ?_
  clear hz8 hz9
  have hP := hP1
  have hD := hD1.weaken (fun _ q _ h => hFc q.1 h)
  generalize H1 = H at hP hS ⊢
  have hP : va_P (dC, dI) vwCl (WL hL aL kL hT hM (.ref dF_tree) iL_names gL_key fL_kind fL_one fL_two fL_base iL_params fL_paramOver dL_paramOver nL_params fL_paramUnder dL_paramUnder nL_pu gL_over_3 gL_under_3 fL_bound_3 iL_nameAt iL_startAt iL_steps_3 jL_scaleOver jL_scaleUnder ++ (WF hF aF kF dF_tree nF_tree fF_tree ++ (WT hT aT kT fT_tape dT_tape nT_tape iT_length iT_fault_3 iT_place_3 iT_kind iT_at iT_number jT_name iT_next ++ (WM hM aM kM iM_stands iM_variables iM_rows iM_goals iM_differents iM_cases fM_from fM_to fM_whole fM_ways iM_plainRows fM_plainRow fM_kept fM_goalOver fM_goalUnder fM_goalMax fM_different)))) H := hP
  have hD : va_D A (WL hL aL kL hT hM (.ref dF_tree) iL_names gL_key fL_kind fL_one fL_two fL_base iL_params fL_paramOver dL_paramOver nL_params fL_paramUnder dL_paramUnder nL_pu gL_over_3 gL_under_3 fL_bound_3 iL_nameAt iL_startAt iL_steps_3 jL_scaleOver jL_scaleUnder ++ (WF hF aF kF dF_tree nF_tree fF_tree ++ (WT hT aT kT fT_tape dT_tape nT_tape iT_length iT_fault_3 iT_place_3 iT_kind iT_at iT_number jT_name iT_next ++ (WM hM aM kM iM_stands iM_variables iM_rows iM_goals iM_differents iM_cases fM_from fM_to fM_whole fM_ways iM_plainRows fM_plainRow fM_kept fM_goalOver fM_goalUnder fM_goalMax fM_different)))) := hD
  refine lv_aload_n hx hb dX10_compares_13 rfl (lv_at hl 0 rfl) ?_
  refine va_get (D := (dC, dI)) (ci := 10) (v := .ref (aL 7)) (C := RX10) (T := TX10) (N := 20) hx hb hts iwsMX10_compares_in10 hown hK hP 0 rfl rfl 12 (by decide) (hts (.fieldLink RX10 36 "OptimaWorks$Worker" "over" "[J") (by decide +kernel)) (fun _ h9 => h9) rfl dX10_compares_14 ?_
  refine lv_iload_n hx hb dX10_compares_17 rfl (lv_at hl 2 rfl) ?_
  refine lv_bipush (v := 9) hx hb dX10_compares_18 (by decide) ?_
  refine lv_imul hx hb dX10_compares_20 ?_
  refine lv_topi (fun y4 hy4 => ?_)
  obtain rfl : (iI (p2.toInt * 9)) = y4 := (hy4.trans (iI_mul2 (iI_of _) (by decide : (9 : Int32) = iI 9))).symm
  refine va_lald (cA := kL 7) (n := 360) (f := gL_over_3) hx hb hK hP 8 7 rfl rfl (vp_iI (Int.le_trans (by decide) (Int.mul_le_mul_of_nonneg_right (b_p2.1) (by decide))) (Int.lt_of_le_of_lt (Int.mul_le_mul_of_nonneg_right (b_p2.2) (by decide)) (by decide)) (by decide)) dX10_compares_21 ?_
  refine lv_topl (fun v5 hv5 => ?_)
  clear hv5
  refine lv_lstore_n hx hb dX10_compares_22 rfl hl (by decide) rfl (fun ls (hl : lv_has ls _ ([(3, .long v5), (0, .ref (hL 0)), (1, .int p1), (2, .int p2)])) => ?_)
  refine lv_aload_n hx hb dX10_compares_23 rfl (lv_at hl 1 rfl) ?_
  refine va_get (D := (dC, dI)) (ci := 10) (v := .ref (aL 8)) (C := RX10) (T := TX10) (N := 20) hx hb hts iwsMX10_compares_in10 hown hK hP 0 rfl rfl 13 (by decide) (hts (.fieldLink RX10 39 "OptimaWorks$Worker" "under" "[J") (by decide +kernel)) (fun _ h9 => h9) rfl dX10_compares_24 ?_
  refine lv_iload_n hx hb dX10_compares_27 rfl (lv_at hl 3 rfl) ?_
  refine lv_bipush (v := 9) hx hb dX10_compares_28 (by decide) ?_
  refine lv_imul hx hb dX10_compares_30 ?_
  refine lv_topi (fun y6 hy6 => ?_)
  obtain rfl : (iI (p2.toInt * 9)) = y6 := (hy6.trans (iI_mul2 (iI_of _) (by decide : (9 : Int32) = iI 9))).symm
  refine va_lald (cA := kL 8) (n := 360) (f := gL_under_3) hx hb hK hP 9 8 rfl rfl (vp_iI (Int.le_trans (by decide) (Int.mul_le_mul_of_nonneg_right (b_p2.1) (by decide))) (Int.lt_of_le_of_lt (Int.mul_le_mul_of_nonneg_right (b_p2.2) (by decide)) (by decide)) (by decide)) dX10_compares_31 ?_
  refine lv_topl (fun v7 hv7 => ?_)
  clear hv7
  refine lv_lstore hx hb dX10_compares_32 hl (by decide) rfl (fun ls (hl : lv_has ls _ ([(5, .long v7), (3, .long v5), (0, .ref (hL 0)), (1, .int p1), (2, .int p2)])) => ?_)
  refine lv_aload_n hx hb dX10_compares_34 rfl (lv_at hl 2 rfl) ?_
  refine lv_aload_n hx hb dX10_compares_35 rfl (lv_at hl 2 rfl) ?_
  refine va_get (D := (dC, dI)) (ci := 10) (v := .ref dF_tree) (C := RX10) (T := TX10) (N := 20) hx hb hts iwsMX10_compares_in10 hown hK hP 0 rfl rfl 2 (by decide) (hts (.fieldLink RX10 55 "OptimaWorks$Worker" "tree" "[I") (by decide +kernel)) (fun _ h9 => h9) rfl dX10_compares_36 ?_
  refine lv_iload_n hx hb dX10_compares_39 rfl (lv_at hl 3 rfl) ?_
  refine lv_iconst (v := 4) hx hb dX10_compares_40 (by decide) ?_
  refine lv_iadd hx hb dX10_compares_41 ?_
  refine lv_topi (fun y8 hy8 => ?_)
  obtain rfl : (iI (p1.toInt + 4)) = y8 := (hy8.trans (iI_add2 (iI_of _) (by decide : (4 : Int32) = iI 4))).symm
  refine va_iald (cA := kF 0) (n := nF_tree) (f := fF_tree) hx hb hK hP 11 10 rfl rfl (vp_iI (by omega) (by omega) (by omega)) dX10_compares_42 ?_
  refine lv_topi (fun v9 hv9 => ?_)
  have b_v9 : v9.toInt = twL fF_tree (p1.toInt + 4) := by rw [hv9]; exact tw_i (by omega) (by omega)
  clear hv9
  refine lv_iload_n hx hb dX10_compares_43 rfl (lv_at hl 4 rfl) ?_
  refine W.known (fun hz0 _ => ?_)
  have hFc := allFree hD hS hA
  refine vx_callv (vx_runV (As := [.int v9, .int p2]) (rest := []) ⟨hx, hb, hml, hown, hts⟩ (ih_X10_number dC dI hL aL kL hT hM iL_names gL_key fL_kind fL_one fL_two fL_base iL_params fL_paramOver dL_paramOver nL_params fL_paramUnder dL_paramUnder nL_pu gL_over_3 gL_under_3 fL_bound_3 iL_nameAt iL_startAt iL_steps_3 jL_scaleOver jL_scaleUnder hF aF kF dF_tree nF_tree fF_tree aT kT fT_tape dT_tape nT_tape iT_length iT_fault_3 iT_place_3 iT_kind iT_at iT_number jT_name iT_next aM kM iM_stands iM_variables iM_rows iM_goals iM_differents iM_cases fM_from fM_to fM_whole fM_ways iM_plainRows fM_plainRow fM_kept fM_goalOver fM_goalUnder fM_goalMax fM_different V lo (lv + 1) v9 p2 (b_iL_names) b_fL_kind b_fL_two b_fL_base (b_iL_params) (by first | exact b_nL_params | assumption | exact ⟨by omega, by omega⟩) (by first | assumption | omega | (rw [iI_t (by omega) (by omega)]; omega)) (by first | assumption | omega | (rw [iI_t (by omega) (by omega)]; omega)) (by first | assumption | omega | (rw [iI_t (by omega) (by omega)]; omega)) (by first | exact b_nF_tree | assumption | exact ⟨by omega, by omega⟩) b_fT_tape (by first | exact b_nT_tape | assumption | exact ⟨by omega, by omega⟩) (b_iT_length) (b_iT_at) (b_iT_number) (b_iT_next) (by first | assumption | omega) (b_iM_stands) (b_iM_variables) (b_iM_rows) (b_iM_goals) (b_iM_differents) (b_iM_cases) b_fM_ways (b_iM_plainRows) b_fM_plainRow (by first | assumption | omega) (b_p2) (by first | assumption | omega | (rw [iI_t (by omega) (by omega)]; omega) | decide) (Vld b_v9 hcc.2) (by first | assumption | omega | (rw [iI_t (by omega) (by omega)]; omega) | decide) (by first | assumption | omega | (rw [iI_t (by omega) (by omega)]; omega) | decide) H.size) (cwV 2 hts gwsMX10_compares_0 rfl rfl rfl (by decide +kernel) ⟨by (dsimp only [headSpec] <;> omega), by (dsimp only [headSpec] <;> omega)⟩) (fz_preE (va_recv hK hP (ci := 10) (q0 := 0) rfl rfl) hP hK hD (fun a U g mk qE => qE.call) (fun U hU9 hW => by rw [hU9]; exact (((hE : CE A s s.heap).kept hS.2.1).narrow (fun q h => hFc q h)).warm hW)) rfl rfl hl.1 rfl (lv_room (Nat.le_of_ble_eq_true rfl)) dX10_compares_44 ⟨by (dsimp only [headSpec] <;> omega), by (dsimp only [headSpec] <;> omega)⟩) hS (fun q _ h => hFc q h) hFc (fun q _ h => hFc q h) (fun E ce q9 u t9_ H locs ht hvm hw9 hB9 hz1 hk1 hS hc1 hc2 hc3 => ?_) (fun u t9_ H1 locs ht hvm hw9 hB9 hz1 hk1 hS => ?_)
  · obtain ⟨gL_over_10, gL_under_10, fL_bound_10, iL_steps_10, iT_fault_10, iT_place_10⟩ := u
    try dsimp only at hw9 hB9
    obtain ⟨hEx, hB9⟩ := hB9
    clear hw9
    have hP : va_P (dC, dI) vwCl (WL hL aL kL hT hM (.ref dF_tree) iL_names gL_key fL_kind fL_one fL_two fL_base iL_params fL_paramOver dL_paramOver nL_params fL_paramUnder dL_paramUnder nL_pu gL_over_10 gL_under_10 fL_bound_10 iL_nameAt iL_startAt iL_steps_10 jL_scaleOver jL_scaleUnder ++ (WF hF aF kF dF_tree nF_tree fF_tree ++ (WT hT aT kT fT_tape dT_tape nT_tape iT_length iT_fault_10 iT_place_10 iT_kind iT_at iT_number jT_name iT_next ++ (WM hM aM kM iM_stands iM_variables iM_rows iM_goals iM_differents iM_cases fM_from fM_to fM_whole fM_ways iM_plainRows fM_plainRow fM_kept fM_goalOver fM_goalUnder fM_goalMax fM_different)))) H := fz_P ht hB9.1
    have hD : va_D A (WL hL aL kL hT hM (.ref dF_tree) iL_names gL_key fL_kind fL_one fL_two fL_base iL_params fL_paramOver dL_paramOver nL_params fL_paramUnder dL_paramUnder nL_pu gL_over_10 gL_under_10 fL_bound_10 iL_nameAt iL_startAt iL_steps_10 jL_scaleOver jL_scaleUnder ++ (WF hF aF kF dF_tree nF_tree fF_tree ++ (WT hT aT kT fT_tape dT_tape nT_tape iT_length iT_fault_10 iT_place_10 iT_kind iT_at iT_number jT_name iT_next ++ (WM hM aM kM iM_stands iM_variables iM_rows iM_goals iM_differents iM_cases fM_from fM_to fM_whole fM_ways iM_plainRows fM_plainRow fM_kept fM_goalOver fM_goalUnder fM_goalMax fM_different)))) := hB9.2.weaken (fun _ q _ h => hFc q.1 h)
    exact vx_out (fun x hx9 => (htab x hx9).elim) hlocks hc1 hc2 hc3 (fun t9_ ht hvm => ⟨(gL_over_10, gL_under_10, fL_bound_10, iL_steps_10, iT_fault_10, iT_place_10), trivial, ⟨(by have h9 := hEx; exact h9), by rw [ht]; exact hP, hD⟩, hS.F ht⟩) hS.2.2 (by decide +kernel) (by decide +kernel)
  obtain ⟨gL_over_10, gL_under_10, fL_bound_10, iL_steps_10, iT_fault_10, iT_place_10⟩ := u
  try dsimp only at hw9 hB9
  clear hw9
  obtain ⟨hP1, hD1, hz8⟩ := hB9
  rw [ht] at hP1 hz8
  have hz9 : H1.size ≤ s.heap.size + 0 := by rw [hz8]; exact hz0
  refine W.tight (cells2 := 0) (slots2 := 0) hz9 (nS_0 hz9) ?_
  clear hz8 hz9
  have hP := hP1
  have hD := hD1.weaken (fun _ q _ h => hFc q.1 h)
  generalize H1 = H at hP hS ⊢
  have hP : va_P (dC, dI) vwCl (WL hL aL kL hT hM (.ref dF_tree) iL_names gL_key fL_kind fL_one fL_two fL_base iL_params fL_paramOver dL_paramOver nL_params fL_paramUnder dL_paramUnder nL_pu gL_over_10 gL_under_10 fL_bound_10 iL_nameAt iL_startAt iL_steps_10 jL_scaleOver jL_scaleUnder ++ (WF hF aF kF dF_tree nF_tree fF_tree ++ (WT hT aT kT fT_tape dT_tape nT_tape iT_length iT_fault_10 iT_place_10 iT_kind iT_at iT_number jT_name iT_next ++ (WM hM aM kM iM_stands iM_variables iM_rows iM_goals iM_differents iM_cases fM_from fM_to fM_whole fM_ways iM_plainRows fM_plainRow fM_kept fM_goalOver fM_goalUnder fM_goalMax fM_different)))) H := hP
  have hD : va_D A (WL hL aL kL hT hM (.ref dF_tree) iL_names gL_key fL_kind fL_one fL_two fL_base iL_params fL_paramOver dL_paramOver nL_params fL_paramUnder dL_paramUnder nL_pu gL_over_10 gL_under_10 fL_bound_10 iL_nameAt iL_startAt iL_steps_10 jL_scaleOver jL_scaleUnder ++ (WF hF aF kF dF_tree nF_tree fF_tree ++ (WT hT aT kT fT_tape dT_tape nT_tape iT_length iT_fault_10 iT_place_10 iT_kind iT_at iT_number jT_name iT_next ++ (WM hM aM kM iM_stands iM_variables iM_rows iM_goals iM_differents iM_cases fM_from fM_to fM_whole fM_ways iM_plainRows fM_plainRow fM_kept fM_goalOver fM_goalUnder fM_goalMax fM_different)))) := hD
  refine lv_lload_n hx hb dX10_compares_47 rfl (lv_at hl 1 rfl) ?_
  refine lv_aload_n hx hb dX10_compares_48 rfl (lv_at hl 2 rfl) ?_
  refine va_get (D := (dC, dI)) (ci := 10) (v := .ref (aL 8)) (C := RX10) (T := TX10) (N := 20) hx hb hts iwsMX10_compares_in10 hown hK hP 0 rfl rfl 13 (by decide) (hts (.fieldLink RX10 39 "OptimaWorks$Worker" "under" "[J") (by decide +kernel)) (fun _ h9 => h9) rfl dX10_compares_49 ?_
  refine lv_iload_n hx hb dX10_compares_52 rfl (lv_at hl 4 rfl) ?_
  refine lv_bipush (v := 9) hx hb dX10_compares_53 (by decide) ?_
  refine lv_imul hx hb dX10_compares_55 ?_
  refine lv_topi (fun y11 hy11 => ?_)
  obtain rfl : (iI (p2.toInt * 9)) = y11 := (hy11.trans (iI_mul2 (iI_of _) (by decide : (9 : Int32) = iI 9))).symm
  refine va_lald (cA := kL 8) (n := 360) (f := gL_under_10) hx hb hK hP 9 8 rfl rfl (vp_iI (Int.le_trans (by decide) (Int.mul_le_mul_of_nonneg_right (b_p2.1) (by decide))) (Int.lt_of_le_of_lt (Int.mul_le_mul_of_nonneg_right (b_p2.2) (by decide)) (by decide)) (by decide)) dX10_compares_56 ?_
  refine lv_topl (fun v12 hv12 => ?_)
  clear hv12
  refine lv_lmul hx hb dX10_compares_57 ?_
  refine lv_topl (fun v13 hv13 => ?_)
  clear hv13
  refine lv_aload_n hx hb dX10_compares_58 rfl (lv_at hl 2 rfl) ?_
  refine va_get (D := (dC, dI)) (ci := 10) (v := .ref (aL 7)) (C := RX10) (T := TX10) (N := 20) hx hb hts iwsMX10_compares_in10 hown hK hP 0 rfl rfl 12 (by decide) (hts (.fieldLink RX10 36 "OptimaWorks$Worker" "over" "[J") (by decide +kernel)) (fun _ h9 => h9) rfl dX10_compares_59 ?_
  refine lv_iload_n hx hb dX10_compares_62 rfl (lv_at hl 4 rfl) ?_
  refine lv_bipush (v := 9) hx hb dX10_compares_63 (by decide) ?_
  refine lv_imul hx hb dX10_compares_65 ?_
  refine lv_topi (fun y14 hy14 => ?_)
  obtain rfl : (iI (p2.toInt * 9)) = y14 := (hy14.trans (iI_mul2 (iI_of _) (by decide : (9 : Int32) = iI 9))).symm
  refine va_lald (cA := kL 7) (n := 360) (f := gL_over_10) hx hb hK hP 8 7 rfl rfl (vp_iI (Int.le_trans (by decide) (Int.mul_le_mul_of_nonneg_right (b_p2.1) (by decide))) (Int.lt_of_le_of_lt (Int.mul_le_mul_of_nonneg_right (b_p2.2) (by decide)) (by decide)) (by decide)) dX10_compares_66 ?_
  refine lv_topl (fun v15 hv15 => ?_)
  clear hv15
  refine lv_lload hx hb dX10_compares_67 (lv_at hl 0 rfl) ?_
  refine lv_lmul hx hb dX10_compares_69 ?_
  refine lv_topl (fun v16 hv16 => ?_)
  clear hv16
  have hFc := noneFree hS hA
  refine va_calli (va_runS (As := [.long v13, .long v16]) (rest := []) ⟨hx, hb, hml, hown, hts⟩ (m_J13_compare_74951 l dC dI v13 v16 H.size) (va_cwS 2 hts gwsMX10_compares_1 rfl rfl rfl (by decide +kernel) ⟨by (dsimp only [headSpec] <;> omega), by (dsimp only [headSpec] <;> omega)⟩) ⟨fun a U g mk q => by obtain ⟨q0, q1, qP, qK, qD⟩ := q; exact ⟨q0, q1, qP, va_K.moved (u := U) (U := U.calling g mk a) (Vm.Alike.refl U.vm) qK, qD⟩, fun U hU9 hW => ⟨rfl, by rw [hU9], by rw [hU9]; exact nilP, va_K.moved hW.alike (hK.sub (tys' := []) [] rfl), nilD⟩⟩ rfl rfl hl.1 rfl (lv_room (Nat.le_of_ble_eq_true rfl)) dX10_compares_70 ⟨by (dsimp only [headSpec] <;> omega), by (dsimp only [headSpec] <;> omega)⟩) hS (fun q _ h => hFc q h) hFc (fun r17 u t9_ H1 locs ht hvm hw9 hB9 hz1 hk1 hS => ?_)
  clear hw9
  clear hB9
  have hP := keepAll hP hk1
  generalize H1 = H at hP hS ⊢
  have hP : va_P (dC, dI) vwCl (WL hL aL kL hT hM (.ref dF_tree) iL_names gL_key fL_kind fL_one fL_two fL_base iL_params fL_paramOver dL_paramOver nL_params fL_paramUnder dL_paramUnder nL_pu gL_over_10 gL_under_10 fL_bound_10 iL_nameAt iL_startAt iL_steps_10 jL_scaleOver jL_scaleUnder ++ (WF hF aF kF dF_tree nF_tree fF_tree ++ (WT hT aT kT fT_tape dT_tape nT_tape iT_length iT_fault_10 iT_place_10 iT_kind iT_at iT_number jT_name iT_next ++ (WM hM aM kM iM_stands iM_variables iM_rows iM_goals iM_differents iM_cases fM_from fM_to fM_whole fM_ways iM_plainRows fM_plainRow fM_kept fM_goalOver fM_goalUnder fM_goalMax fM_different)))) H := hP
  have hD : va_D A (WL hL aL kL hT hM (.ref dF_tree) iL_names gL_key fL_kind fL_one fL_two fL_base iL_params fL_paramOver dL_paramOver nL_params fL_paramUnder dL_paramUnder nL_pu gL_over_10 gL_under_10 fL_bound_10 iL_nameAt iL_startAt iL_steps_10 jL_scaleOver jL_scaleUnder ++ (WF hF aF kF dF_tree nF_tree fF_tree ++ (WT hT aT kT fT_tape dT_tape nT_tape iT_length iT_fault_10 iT_place_10 iT_kind iT_at iT_number jT_name iT_next ++ (WM hM aM kM iM_stands iM_variables iM_rows iM_goals iM_differents iM_cases fM_from fM_to fM_whole fM_ways iM_plainRows fM_plainRow fM_kept fM_goalOver fM_goalUnder fM_goalMax fM_different)))) := hD
  refine lv_istore hx hb dX10_compares_73 hl (by decide) rfl (fun ls (hl : lv_has ls _ ([(7, .int r17), (5, .long v7), (3, .long v5), (0, .ref (hL 0)), (1, .int p1), (2, .int p2)])) => ?_)
  refine lv_aload_n hx hb dX10_compares_75 rfl (lv_at hl 3 rfl) ?_
  refine va_get (D := (dC, dI)) (ci := 10) (v := .ref dF_tree) (C := RX10) (T := TX10) (N := 20) hx hb hts iwsMX10_compares_in10 hown hK hP 0 rfl rfl 2 (by decide) (hts (.fieldLink RX10 55 "OptimaWorks$Worker" "tree" "[I") (by decide +kernel)) (fun _ h9 => h9) rfl dX10_compares_76 ?_
  refine lv_iload_n hx hb dX10_compares_79 rfl (lv_at hl 4 rfl) ?_
  refine lv_iconst (v := 2) hx hb dX10_compares_80 (by decide) ?_
  refine lv_iadd hx hb dX10_compares_81 ?_
  refine lv_topi (fun y18 hy18 => ?_)
  obtain rfl : (iI (p1.toInt + 2)) = y18 := (hy18.trans (iI_add2 (iI_of _) (by decide : (2 : Int32) = iI 2))).symm
  refine va_iald (cA := kF 0) (n := nF_tree) (f := fF_tree) hx hb hK hP 11 10 rfl rfl (vp_iI (by omega) (by omega) (by omega)) dX10_compares_82 ?_
  refine lv_topi (fun v19 hv19 => ?_)
  have b_v19 : v19.toInt = twL fF_tree (p1.toInt + 2) := by rw [hv19]; exact tw_i (by omega) (by omega)
  clear hv19
  by_cases s_83_60 : v19 = 60
  · have ts_83_60 : v19.toInt = 60 := toI_eq s_83_60 rfl (by decide)
    refine lv_lookup (off := 82) (tgt := 165) hx hb dX10_compares_83 (by decide) (by rw [s_83_60]; decide) (by decide) ?_
    refine lv_iload hx hb dX10_compares_165 (lv_at hl 0 rfl) ?_
    refine lv_if_ge (tgt := 174) hx hb dX10_compares_167 (by decide) (fun c_167 => ?_) (fun c_167 => ?_)
    · have t_167 : r17.toInt ≥ 0 := toI_ge c_167 rfl (by decide : (0 : Int32).toInt = 0)
      refine lv_iconst (v := 0) hx hb dX10_compares_174 (by decide) ?_
      refine vx_ret ?_
      refine W.known (fun hz9 _ => ?_)
      refine W.widen (k := 1) (n := 6) (by decide +kernel) (by decide +kernel) ?_
      exact W.zret (v := 0) hx hb hr rfl (fun t9_ ht hW => ⟨⟨(0 : Int32), (gL_over_10, gL_under_10, fL_bound_10, iL_steps_10, iT_fault_10, iT_place_10), rfl, (show 0 ≤ (0 : Int32).toInt ∧ (0 : Int32).toInt ≤ 1 from by decide), by rw [ht]; exact hP, hD, by rw [ht]; first | done | exact Nat.le_antisymm hz9 hS.1⟩, hS.F ht⟩) hS.2.2 dX10_compares_175
    · have t_167 : ¬ r17.toInt ≥ 0 := toI_nge c_167 rfl (by decide : (0 : Int32).toInt = 0)
      refine lv_iconst (v := 1) hx hb dX10_compares_170 (by decide) ?_
      refine lv_goto (tgt := 175) hx hb dX10_compares_171 (by decide) ?_
      refine vx_ret ?_
      refine W.known (fun hz9 _ => ?_)
      refine W.widen (k := 1) (n := 6) (by decide +kernel) (by decide +kernel) ?_
      exact W.zret (v := 1) hx hb hr rfl (fun t9_ ht hW => ⟨⟨(1 : Int32), (gL_over_10, gL_under_10, fL_bound_10, iL_steps_10, iT_fault_10, iT_place_10), rfl, (show 0 ≤ (1 : Int32).toInt ∧ (1 : Int32).toInt ≤ 1 from by decide), by rw [ht]; exact hP, hD, by rw [ht]; first | done | exact Nat.le_antisymm hz9 hS.1⟩, hS.F ht⟩) hS.2.2 dX10_compares_175
  · have ts_83_60 : ¬ v19.toInt = 60 := toI_neq s_83_60 rfl (by decide)
    by_cases s_83_62 : v19 = 62
    · have ts_83_62 : v19.toInt = 62 := toI_eq s_83_62 rfl (by decide)
      refine lv_lookup (off := 93) (tgt := 176) hx hb dX10_compares_83 (by decide) (by rw [s_83_62]; decide) (by decide) ?_
      refine lv_iload hx hb dX10_compares_176 (lv_at hl 0 rfl) ?_
      refine lv_if_le (tgt := 185) hx hb dX10_compares_178 (by decide) (fun c_178 => ?_) (fun c_178 => ?_)
      · have t_178 : r17.toInt ≤ 0 := toI_le c_178 rfl (by decide : (0 : Int32).toInt = 0)
        refine lv_iconst (v := 0) hx hb dX10_compares_185 (by decide) ?_
        refine vx_ret ?_
        refine W.known (fun hz9 _ => ?_)
        refine W.widen (k := 1) (n := 6) (by decide +kernel) (by decide +kernel) ?_
        exact W.zret (v := 0) hx hb hr rfl (fun t9_ ht hW => ⟨⟨(0 : Int32), (gL_over_10, gL_under_10, fL_bound_10, iL_steps_10, iT_fault_10, iT_place_10), rfl, (show 0 ≤ (0 : Int32).toInt ∧ (0 : Int32).toInt ≤ 1 from by decide), by rw [ht]; exact hP, hD, by rw [ht]; first | done | exact Nat.le_antisymm hz9 hS.1⟩, hS.F ht⟩) hS.2.2 dX10_compares_186
      · have t_178 : ¬ r17.toInt ≤ 0 := toI_nle c_178 rfl (by decide : (0 : Int32).toInt = 0)
        refine lv_iconst (v := 1) hx hb dX10_compares_181 (by decide) ?_
        refine lv_goto (tgt := 186) hx hb dX10_compares_182 (by decide) ?_
        refine vx_ret ?_
        refine W.known (fun hz9 _ => ?_)
        refine W.widen (k := 1) (n := 6) (by decide +kernel) (by decide +kernel) ?_
        exact W.zret (v := 1) hx hb hr rfl (fun t9_ ht hW => ⟨⟨(1 : Int32), (gL_over_10, gL_under_10, fL_bound_10, iL_steps_10, iT_fault_10, iT_place_10), rfl, (show 0 ≤ (1 : Int32).toInt ∧ (1 : Int32).toInt ≤ 1 from by decide), by rw [ht]; exact hP, hD, by rw [ht]; first | done | exact Nat.le_antisymm hz9 hS.1⟩, hS.F ht⟩) hS.2.2 dX10_compares_186
    · have ts_83_62 : ¬ v19.toInt = 62 := toI_neq s_83_62 rfl (by decide)
      by_cases s_83_301 : v19 = 301
      · have ts_83_301 : v19.toInt = 301 := toI_eq s_83_301 rfl (by decide)
        refine lv_lookup (off := 49) (tgt := 132) hx hb dX10_compares_83 (by decide) (by rw [s_83_301]; decide) (by decide) ?_
        refine lv_iload hx hb dX10_compares_132 (lv_at hl 0 rfl) ?_
        refine lv_if_gt (tgt := 141) hx hb dX10_compares_134 (by decide) (fun c_134 => ?_) (fun c_134 => ?_)
        · have t_134 : r17.toInt > 0 := toI_gt c_134 rfl (by decide : (0 : Int32).toInt = 0)
          refine lv_iconst (v := 0) hx hb dX10_compares_141 (by decide) ?_
          refine vx_ret ?_
          refine W.known (fun hz9 _ => ?_)
          refine W.widen (k := 1) (n := 6) (by decide +kernel) (by decide +kernel) ?_
          exact W.zret (v := 0) hx hb hr rfl (fun t9_ ht hW => ⟨⟨(0 : Int32), (gL_over_10, gL_under_10, fL_bound_10, iL_steps_10, iT_fault_10, iT_place_10), rfl, (show 0 ≤ (0 : Int32).toInt ∧ (0 : Int32).toInt ≤ 1 from by decide), by rw [ht]; exact hP, hD, by rw [ht]; first | done | exact Nat.le_antisymm hz9 hS.1⟩, hS.F ht⟩) hS.2.2 dX10_compares_142
        · have t_134 : ¬ r17.toInt > 0 := toI_ngt c_134 rfl (by decide : (0 : Int32).toInt = 0)
          refine lv_iconst (v := 1) hx hb dX10_compares_137 (by decide) ?_
          refine lv_goto (tgt := 142) hx hb dX10_compares_138 (by decide) ?_
          refine vx_ret ?_
          refine W.known (fun hz9 _ => ?_)
          refine W.widen (k := 1) (n := 6) (by decide +kernel) (by decide +kernel) ?_
          exact W.zret (v := 1) hx hb hr rfl (fun t9_ ht hW => ⟨⟨(1 : Int32), (gL_over_10, gL_under_10, fL_bound_10, iL_steps_10, iT_fault_10, iT_place_10), rfl, (show 0 ≤ (1 : Int32).toInt ∧ (1 : Int32).toInt ≤ 1 from by decide), by rw [ht]; exact hP, hD, by rw [ht]; first | done | exact Nat.le_antisymm hz9 hS.1⟩, hS.F ht⟩) hS.2.2 dX10_compares_142
      · have ts_83_301 : ¬ v19.toInt = 301 := toI_neq s_83_301 rfl (by decide)
        by_cases s_83_302 : v19 = 302
        · have ts_83_302 : v19.toInt = 302 := toI_eq s_83_302 rfl (by decide)
          refine lv_lookup (off := 60) (tgt := 143) hx hb dX10_compares_83 (by decide) (by rw [s_83_302]; decide) (by decide) ?_
          refine lv_iload hx hb dX10_compares_143 (lv_at hl 0 rfl) ?_
          refine lv_if_lt (tgt := 152) hx hb dX10_compares_145 (by decide) (fun c_145 => ?_) (fun c_145 => ?_)
          · have t_145 : r17.toInt < 0 := toI_lt c_145 rfl (by decide : (0 : Int32).toInt = 0)
            refine lv_iconst (v := 0) hx hb dX10_compares_152 (by decide) ?_
            refine vx_ret ?_
            refine W.known (fun hz9 _ => ?_)
            refine W.widen (k := 1) (n := 6) (by decide +kernel) (by decide +kernel) ?_
            exact W.zret (v := 0) hx hb hr rfl (fun t9_ ht hW => ⟨⟨(0 : Int32), (gL_over_10, gL_under_10, fL_bound_10, iL_steps_10, iT_fault_10, iT_place_10), rfl, (show 0 ≤ (0 : Int32).toInt ∧ (0 : Int32).toInt ≤ 1 from by decide), by rw [ht]; exact hP, hD, by rw [ht]; first | done | exact Nat.le_antisymm hz9 hS.1⟩, hS.F ht⟩) hS.2.2 dX10_compares_153
          · have t_145 : ¬ r17.toInt < 0 := toI_nlt c_145 rfl (by decide : (0 : Int32).toInt = 0)
            refine lv_iconst (v := 1) hx hb dX10_compares_148 (by decide) ?_
            refine lv_goto (tgt := 153) hx hb dX10_compares_149 (by decide) ?_
            refine vx_ret ?_
            refine W.known (fun hz9 _ => ?_)
            refine W.widen (k := 1) (n := 6) (by decide +kernel) (by decide +kernel) ?_
            exact W.zret (v := 1) hx hb hr rfl (fun t9_ ht hW => ⟨⟨(1 : Int32), (gL_over_10, gL_under_10, fL_bound_10, iL_steps_10, iT_fault_10, iT_place_10), rfl, (show 0 ≤ (1 : Int32).toInt ∧ (1 : Int32).toInt ≤ 1 from by decide), by rw [ht]; exact hP, hD, by rw [ht]; first | done | exact Nat.le_antisymm hz9 hS.1⟩, hS.F ht⟩) hS.2.2 dX10_compares_153
        · have ts_83_302 : ¬ v19.toInt = 302 := toI_neq s_83_302 rfl (by decide)
          by_cases s_83_303 : v19 = 303
          · have ts_83_303 : v19.toInt = 303 := toI_eq s_83_303 rfl (by decide)
            refine lv_lookup (off := 71) (tgt := 154) hx hb dX10_compares_83 (by decide) (by rw [s_83_303]; decide) (by decide) ?_
            refine lv_iload hx hb dX10_compares_154 (lv_at hl 0 rfl) ?_
            refine lv_if_eq (tgt := 163) hx hb dX10_compares_156 (by decide) (fun c_156 => ?_) (fun c_156 => ?_)
            · have t_156 : r17.toInt = 0 := toI_eq c_156 rfl (by decide : (0 : Int32).toInt = 0)
              refine lv_iconst (v := 0) hx hb dX10_compares_163 (by decide) ?_
              refine vx_ret ?_
              refine W.known (fun hz9 _ => ?_)
              refine W.widen (k := 1) (n := 6) (by decide +kernel) (by decide +kernel) ?_
              exact W.zret (v := 0) hx hb hr rfl (fun t9_ ht hW => ⟨⟨(0 : Int32), (gL_over_10, gL_under_10, fL_bound_10, iL_steps_10, iT_fault_10, iT_place_10), rfl, (show 0 ≤ (0 : Int32).toInt ∧ (0 : Int32).toInt ≤ 1 from by decide), by rw [ht]; exact hP, hD, by rw [ht]; first | done | exact Nat.le_antisymm hz9 hS.1⟩, hS.F ht⟩) hS.2.2 dX10_compares_164
            · have t_156 : ¬ r17.toInt = 0 := toI_neq c_156 rfl (by decide : (0 : Int32).toInt = 0)
              refine lv_iconst (v := 1) hx hb dX10_compares_159 (by decide) ?_
              refine lv_goto (tgt := 164) hx hb dX10_compares_160 (by decide) ?_
              refine vx_ret ?_
              refine W.known (fun hz9 _ => ?_)
              refine W.widen (k := 1) (n := 6) (by decide +kernel) (by decide +kernel) ?_
              exact W.zret (v := 1) hx hb hr rfl (fun t9_ ht hW => ⟨⟨(1 : Int32), (gL_over_10, gL_under_10, fL_bound_10, iL_steps_10, iT_fault_10, iT_place_10), rfl, (show 0 ≤ (1 : Int32).toInt ∧ (1 : Int32).toInt ≤ 1 from by decide), by rw [ht]; exact hP, hD, by rw [ht]; first | done | exact Nat.le_antisymm hz9 hS.1⟩, hS.F ht⟩) hS.2.2 dX10_compares_164
          · have ts_83_303 : ¬ v19.toInt = 303 := toI_neq s_83_303 rfl (by decide)
            refine lv_lookup (off := 104) (tgt := 187) hx hb dX10_compares_83 (by decide) (by show Op.lookupswitch.offset [(60, 82), (62, 93), (301, 49), (302, 60), (303, 71)] 104 _ = 104; rw [Op.lookupswitch.offset_cons, if_neg (lk_ne s_83_60 (show Int32.toInt 60 = 60 by decide)), Op.lookupswitch.offset_cons, if_neg (lk_ne s_83_62 (show Int32.toInt 62 = 62 by decide)), Op.lookupswitch.offset_cons, if_neg (lk_ne s_83_301 (show Int32.toInt 301 = 301 by decide)), Op.lookupswitch.offset_cons, if_neg (lk_ne s_83_302 (show Int32.toInt 302 = 302 by decide)), Op.lookupswitch.offset_cons, if_neg (lk_ne s_83_303 (show Int32.toInt 303 = 303 by decide))]; rfl) (by decide) ?_
            refine lv_iload hx hb dX10_compares_187 (lv_at hl 0 rfl) ?_
            refine lv_if_ne (tgt := 196) hx hb dX10_compares_189 (by decide) (fun c_189 => ?_) (fun c_189 => ?_)
            · have t_189 : r17.toInt ≠ 0 := toI_ne c_189 rfl (by decide : (0 : Int32).toInt = 0)
              refine lv_iconst (v := 0) hx hb dX10_compares_196 (by decide) ?_
              refine vx_ret ?_
              refine W.known (fun hz9 _ => ?_)
              refine W.widen (k := 1) (n := 6) (by decide +kernel) (by decide +kernel) ?_
              exact W.zret (v := 0) hx hb hr rfl (fun t9_ ht hW => ⟨⟨(0 : Int32), (gL_over_10, gL_under_10, fL_bound_10, iL_steps_10, iT_fault_10, iT_place_10), rfl, (show 0 ≤ (0 : Int32).toInt ∧ (0 : Int32).toInt ≤ 1 from by decide), by rw [ht]; exact hP, hD, by rw [ht]; first | done | exact Nat.le_antisymm hz9 hS.1⟩, hS.F ht⟩) hS.2.2 dX10_compares_197
            · have t_189 : r17.toInt = 0 := toI_nne c_189 rfl (by decide : (0 : Int32).toInt = 0)
              refine lv_iconst (v := 1) hx hb dX10_compares_192 (by decide) ?_
              refine lv_goto (tgt := 197) hx hb dX10_compares_193 (by decide) ?_
              refine vx_ret ?_
              refine W.known (fun hz9 _ => ?_)
              refine W.widen (k := 1) (n := 6) (by decide +kernel) (by decide +kernel) ?_
              exact W.zret (v := 1) hx hb hr rfl (fun t9_ ht hW => ⟨⟨(1 : Int32), (gL_over_10, gL_under_10, fL_bound_10, iL_steps_10, iT_fault_10, iT_place_10), rfl, (show 0 ≤ (1 : Int32).toInt ∧ (1 : Int32).toInt ≤ 1 from by decide), by rw [ht]; exact hP, hD, by rw [ht]; first | done | exact Nat.le_antisymm hz9 hS.1⟩, hS.F ht⟩) hS.2.2 dX10_compares_197

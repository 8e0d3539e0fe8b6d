theorem dL_law_755 : decode cL_law 755 = .ok (.aload_n 1, 1) := by decide +kernel
theorem dL_law_756 : decode cL_law 756 = .ok (.aload_n 0, 1) := by decide +kernel
theorem dL_law_757 : decode cL_law 757 = .ok (.iload 4, 2) := by decide +kernel
theorem dL_law_759 : decode cL_law 759 = .ok (.iconst 1, 1) := by decide +kernel
theorem dL_law_760 : decode cL_law 760 = .ok (.iadd, 1) := by decide +kernel
theorem dL_law_761 : decode cL_law 761 = .ok (.iaload, 1) := by decide +kernel
theorem dL_law_762 : decode cL_law 762 = .ok (.aload_n 3, 1) := by decide +kernel
theorem dL_law_763 : decode cL_law 763 = .ok (.invokestatic 137, 3) := by decide +kernel
theorem dL_law_766 : decode cL_law 766 = .ok (.istore 5, 2) := by decide +kernel
theorem dL_law_768 : decode cL_law 768 = .ok (.aload_n 2, 1) := by decide +kernel
theorem dL_law_769 : decode cL_law 769 = .ok (.aload_n 0, 1) := by decide +kernel
theorem dL_law_770 : decode cL_law 770 = .ok (.iload 4, 2) := by decide +kernel
theorem dL_law_772 : decode cL_law 772 = .ok (.iconst 1, 1) := by decide +kernel
theorem dL_law_773 : decode cL_law 773 = .ok (.iadd, 1) := by decide +kernel
theorem dL_law_774 : decode cL_law 774 = .ok (.iaload, 1) := by decide +kernel
theorem dL_law_775 : decode cL_law 775 = .ok (.invokevirtual 140, 3) := by decide +kernel
theorem dL_law_778 : decode cL_law 778 = .ok (.istore 6, 2) := by decide +kernel
theorem dL_law_780 : decode cL_law 780 = .ok (.aload_n 2, 1) := by decide +kernel
theorem dL_law_781 : decode cL_law 781 = .ok (.invokevirtual 111, 3) := by decide +kernel
theorem dL_law_784 : decode cL_law 784 = .ok (.iload 5, 2) := by decide +kernel
theorem dL_law_786 : decode cL_law 786 = .ok (.if_icmp .eq 5, 3) := by decide +kernel
theorem dL_law_791 : decode cL_law 791 = .ok (.iload 5, 2) := by decide +kernel
theorem dL_law_793 : decode cL_law 793 = .ok (.ifCond .ne 15, 3) := by decide +kernel
theorem dL_law_808 : decode cL_law 808 = .ok (.goto 1323, 3) := by decide +kernel
theorem glaw10_0 : GoodIn lw_tbl (va_wsS RL 137 yL_value wsPL_value) := goodIn_sub ((List.forall_mem_append.mpr ⟨(mem_p ([.methodLink RL 137 yL_value, .static yL_value, .initialized "OptimaWorksLaw"] : List Cond) [(8, 176), (8, 177), (1, 0)] (by decide +kernel)), ml_wsPL_value⟩ : ∀ w ∈ va_wsS RL 137 yL_value wsPL_value, w ∈ lw_tbl)) (by decide +kernel)
theorem glaw10_1 : GoodIn lw_tbl (wsV RL 140 RX12 yX12_value wsPX12_value) := goodIn_sub ((List.forall_mem_append.mpr ⟨(mem_p ([.methodLink RL 140 yX12_value, .instanceMethod yX12_value, .selects RX12 yX12_value yX12_value, .initialized RX12] : List Cond) [(14, 227), (14, 228), (14, 229), (1, 4)] (by decide +kernel)), ml_wsPX12_value⟩ : ∀ w ∈ wsV RL 140 RX12 yX12_value wsPX12_value, w ∈ lw_tbl)) (by decide +kernel)
theorem glaw10_2 : GoodIn lw_tbl (wsV RL 111 RX12 yX12_thrown wsPX12_thrown) := goodIn_sub ((List.forall_mem_append.mpr ⟨(mem_p ([.methodLink RL 111 yX12_thrown, .instanceMethod yX12_thrown, .selects RX12 yX12_thrown yX12_thrown, .initialized RX12] : List Cond) [(12, 139), (12, 140), (12, 141), (1, 4)] (by decide +kernel)), ml_wsPX12_thrown⟩ : ∀ w ∈ wsV RL 111 RX12 yX12_thrown wsPX12_thrown, w ∈ lw_tbl)) (by decide +kernel)
set_option maxHeartbeats 4000000 in
set_option maxRecDepth 100000 in
/-- the law's case 10: value -/
theorem lc_10 {p : Program} {e : Env} {s : State} {m : MethodId} {below : List Frame} {meth : Method} {c : Code} (l : Launch) (hst : l.stackTraces = false) {b : Nat} {xs : Nat → Int32} (C0 : lw_At p s m meth c b 6 xs) {A : Nat → Prop} (hA : ∀ q : Nat, s.heap.size ≤ q → A q) (hA2 : ∀ q : Nat, A q → s.heap.size ≤ q) (X0 : lx_ok A s) (dC : Nat → ClassId) (dI : Nat → Nat → Nat) {h1 h2 o : Nat} {a : Nat → Nat} {k : Nat → ClassId} {av : Nat → Nat} {kv : Nat → ClassId} {kO : ClassId} {H : Heap} {locs : List Loc} {ls : Array Slot} (hK : va_K (dC, dI) vwCl [(kO, .long)] s) (hP : va_P (dC, dI) vwCl [(h1, .inr (11, [.ref (a 0), .ref (a 1), .ref (a 3), .ref (a 14), .int 0, .null, .null, .null, .null, .null, .null])), ((a 3), .inr (1, [.int 0, .int 0, .int 0, .int 0, .int 0, .int 0, .ref (a 4), .ref (a 5), .ref (a 6), .ref (a 7), .int 0, .ref (a 8), .ref (a 9), .ref (a 10), .ref (a 11), .ref (a 12), .ref (a 13)])), (h2, .inr (12, fM (vM av))), (o, .inl (kO, 1, .inr (.inl (fun _ => 0))))] H) (hD : va_D A [(h1, .inr (11, [.ref (a 0), .ref (a 1), .ref (a 3), .ref (a 14), .int 0, .null, .null, .null, .null, .null, .null])), ((a 3), .inr (1, [.int 0, .int 0, .int 0, .int 0, .int 0, .int 0, .ref (a 4), .ref (a 5), .ref (a 6), .ref (a 7), .int 0, .ref (a 8), .ref (a 9), .ref (a 10), .ref (a 11), .ref (a 12), .ref (a 13)])), (h2, .inr (12, fM (vM av))), (o, .inl (kO, 1, .inr (.inl (fun _ => 0))))]) (hS : va_S A s.heap H locs) (hl : lv_has ls 7 [(4, .int 0), (3, .ref o), (2, .ref h2), (1, .ref h1), (0, .ref b)]) : W p l e room_1 s m #[Value.ref b] below meth c H locs 125 181434 (lw_Z below #[Value.ref b] s) (F0 m 755 ls []) := by
  obtain ⟨hx, hb, hr, hml, hown, hts, hX, hbl, hlocks, hgv⟩ := id C0
  have hb : c.code = cL_law := hb
  have hown : s.vm.findClass RL = some m.cls := hown
  obtain ⟨hU, hN, hnX11_343, hnX11_392, hnX11_421, hncAI, hngX11_161, hngX11_79, hngX11_95⟩ := X0
  have hbA : ¬ A b := fun h => absurd (hA2 b h) (Nat.not_le.mpr hbl)
  refine lv_aload_n hx hb dL_law_755 rfl (lv_at hl 3 rfl) ?_
  refine lv_aload_n hx hb dL_law_756 rfl (lv_at hl 4 rfl) ?_
  refine lv_iload hx hb dL_law_757 (lv_at hl 0 rfl) ?_
  refine lv_iconst (v := 1) hx hb dL_law_759 (by decide) ?_
  refine lv_iadd hx hb dL_law_760 ?_
  refine lv_topi (fun y1 hy1 => ?_)
  obtain rfl : 1 = y1 := (hy1.trans (by decide)).symm
  refine va_sld hx hb hX hbl hbA hS (show ¬ ((1 : Int32) < 0 ∨ 6 ≤ (1 : Int32).toNatClampNeg) by decide) dL_law_761 ?_
  refine lv_topi (fun y2 hy2 => ?_)
  obtain rfl : (xs 1) = y2 := (hy2.trans (rfl)).symm
  refine lv_aload_n hx hb dL_law_762 rfl (lv_at hl 1 rfl) ?_
  have hPc := hP.sub (ws' := [(h1, .inr (11, [.ref (a 0), .ref (a 1), .ref (a 3), .ref (a 14), .int 0, .null, .null, .null, .null, .null, .null])), ((a 3), .inr (1, [.int 0, .int 0, .int 0, .int 0, .int 0, .int 0, .ref (a 4), .ref (a 5), .ref (a 6), .ref (a 7), .int 0, .ref (a 8), .ref (a 9), .ref (a 10), .ref (a 11), .ref (a 12), .ref (a 13)])), (o, .inl (kO, 1, .inr (.inl (fun _ => 0))))]) [0, 1, 3] rfl
  have hDc := hD.sub (ws' := [(h1, .inr (11, [.ref (a 0), .ref (a 1), .ref (a 3), .ref (a 14), .int 0, .null, .null, .null, .null, .null, .null])), ((a 3), .inr (1, [.int 0, .int 0, .int 0, .int 0, .int 0, .int 0, .ref (a 4), .ref (a 5), .ref (a 6), .ref (a 7), .int 0, .ref (a 8), .ref (a 9), .ref (a 10), .ref (a 11), .ref (a 12), .ref (a 13)])), (o, .inl (kO, 1, .inr (.inl (fun _ => 0))))]) [0, 1, 3] (by decide) rfl
  have hKc := hK.sub (tys' := [(kO, .long)]) [0] rfl
  have hFc := va_free (wc := [(h1, .inr (11, [.ref (a 0), .ref (a 1), .ref (a 3), .ref (a 14), .int 0, .null, .null, .null, .null, .null, .null])), ((a 3), .inr (1, [.int 0, .int 0, .int 0, .int 0, .int 0, .int 0, .ref (a 4), .ref (a 5), .ref (a 6), .ref (a 7), .int 0, .ref (a 8), .ref (a 9), .ref (a 10), .ref (a 11), .ref (a 12), .ref (a 13)])), (o, .inl (kO, 1, .inr (.inl (fun _ => 0))))]) hD hS hA [0, 1, 3] rfl
  refine va_calli (vx_runSW (As := [.ref h1, .int (xs 1), .ref o]) (rest := []) ⟨hx, hb, hml, hown, hts⟩ (p_L_value l hst dC dI h1 a o kO (xs 1) H.size) (vx_cwSW 3 hts glaw10_0 rfl rfl rfl (by decide +kernel) ⟨by decide +kernel, by decide +kernel⟩) ⟨fun a U g mk q => by obtain ⟨q0, q1, qP, qK, qD, qU, qN, qngX11_161⟩ := q; exact ⟨q0, q1, qP, va_K.moved (u := U) (U := U.calling g mk a) (Vm.Alike.refl U.vm) qK, qD, vx_Zq.moved (u := U) (U := U.calling g mk a) (Vm.Alike.refl U.vm) qU, vx_Zq.moved (u := U) (U := U.calling g mk a) (Vm.Alike.refl U.vm) qN, fun w h => va_Nw.same (u := U) (U := U.calling g mk a) (ngX11_161_ot w h) rfl (qngX11_161 w h)⟩, fun U hU9 hW => ⟨rfl, by rw [hU9], by rw [hU9]; exact hPc, va_K.moved hW.alike hKc, hDc.weaken (fun _ _ _ _ => trivial), by rw [hU9]; exact ((hU.kept (fun a h1 h2 => hS.2.1 a h1 h2)).narrow hFc).moved hW.alike, by rw [hU9]; exact ((hN.kept (fun a h1 h2 => hS.2.1 a h1 h2)).narrow hFc).moved hW.alike, fun w h => cd_warm (ngX11_161_cd w h) hW (hngX11_161 w h)⟩⟩ rfl rfl hl.1 rfl (lv_room (Nat.le_of_ble_eq_true rfl)) dL_law_763 ⟨by decide +kernel, by decide +kernel⟩) hS (fun q _ h => hFc q h) hFc (fun r763 u t H1 locs ht hvm hw hB hz1 hk1 hS => ?_)
  obtain ⟨go763, hwit763⟩ : ∃ w9, w9 = u := ⟨u, rfl⟩
  subst hwit763
  obtain ⟨hP1, hK1, hD1⟩ := hB
  rw [ht] at hP1
  have hK1 := va_K.moved hvm.symm hK1
  obtain ⟨hP, hD⟩ := va_join (wr := [(h2, .inr (12, fM (vM av)))]) (w1 := [(o, .inl (kO, 1, .inr (.inl go763)))]) hP hD [0, 1, 3] [2] rfl rfl (by decide) (by decide) hk1 hFc hP1 hD1
  generalize H1 = H at hP hS ⊢
  have hP : va_P (dC, dI) vwCl [(h2, .inr (12, fM (vM av))), (o, .inl (kO, 1, .inr (.inl go763)))] H := hP
  have hD : va_D A [(h2, .inr (12, fM (vM av))), (o, .inl (kO, 1, .inr (.inl go763)))] := hD
  refine W.widen (k := 126) (n := 181440) (by decide +kernel) (by decide +kernel) ?_
  obtain rfl := hw
  refine lv_istore (lv' := [(5, .int 1), (4, .int 0), (3, .ref o), (2, .ref h2), (1, .ref h1), (0, .ref b)]) hx hb dL_law_766 hl (by decide) rfl (fun ls hl => ?_)
  refine lv_aload_n hx hb dL_law_768 rfl (lv_at hl 3 rfl) ?_
  refine lv_aload_n hx hb dL_law_769 rfl (lv_at hl 5 rfl) ?_
  refine lv_iload hx hb dL_law_770 (lv_at hl 1 rfl) ?_
  refine lv_iconst (v := 1) hx hb dL_law_772 (by decide) ?_
  refine lv_iadd hx hb dL_law_773 ?_
  refine lv_topi (fun y3 hy3 => ?_)
  obtain rfl : 1 = y3 := (hy3.trans (by decide)).symm
  refine va_sld hx hb hX hbl hbA hS (show ¬ ((1 : Int32) < 0 ∨ 6 ≤ (1 : Int32).toNatClampNeg) by decide) dL_law_774 ?_
  refine lv_topi (fun y4 hy4 => ?_)
  obtain rfl : (xs 1) = y4 := (hy4.trans (rfl)).symm
  have hPc := hP.sub (ws' := [(h2, .inr (12, fM (vM av)))]) [0] rfl
  have hDc := hD.sub (ws' := [(h2, .inr (12, fM (vM av)))]) [0] (by decide) rfl
  have hKc := hK.sub (tys' := []) [] rfl
  have hFc := va_free (wc := [(h2, .inr (12, fM (vM av)))]) hD hS hA [0] rfl
  refine va_calli (va_runV (As := [.int (xs 1)]) (rest := []) ⟨hx, hb, hml, hown, hts⟩ (p_X12_value l dC dI h2 (vM av) (rfl) (rfl) (xs 1) H.size) (cwV 1 hts glaw10_1 rfl rfl rfl (by decide +kernel) ⟨by decide +kernel, by decide +kernel⟩) ⟨fun a U g mk q => by obtain ⟨q0, q1, qP, qK, qD⟩ := q; exact ⟨q0, q1, qP, va_K.moved (u := U) (U := U.calling g mk a) (Vm.Alike.refl U.vm) qK, qD⟩, va_recv hKc hPc (ci := 12) (q0 := 0) rfl rfl, fun U hU9 hW => ⟨rfl, by rw [hU9], by rw [hU9]; exact hPc, va_K.moved hW.alike hKc, hDc.weaken (fun _ _ _ _ => trivial)⟩⟩ rfl rfl hl.1 rfl (lv_room (Nat.le_of_ble_eq_true rfl)) dL_law_775 ⟨by decide +kernel, by decide +kernel⟩) hS (fun q _ h => hFc q h) hFc (fun r775 u t H1 locs ht hvm hw hB hz1 hk1 hS => ?_)
  obtain ⟨w775, hwit775⟩ : ∃ w9, w9 = u := ⟨u, rfl⟩
  subst hwit775
  obtain ⟨hP1, hK1, hD1⟩ := hB
  rw [ht] at hP1
  have hK1 := va_K.moved hvm.symm hK1
  obtain ⟨hP, hD⟩ := va_join (wr := [(o, .inl (kO, 1, .inr (.inl go763)))]) (w1 := [(h2, .inr (12, fM w775))]) hP hD [0] [1] rfl rfl (by decide) (by decide) hk1 hFc hP1 hD1
  generalize H1 = H at hP hS ⊢
  have hP : va_P (dC, dI) vwCl [(o, .inl (kO, 1, .inr (.inl go763))), (h2, .inr (12, fM w775))] H := hP
  have hD : va_D A [(o, .inl (kO, 1, .inr (.inl go763))), (h2, .inr (12, fM w775))] := hD
  obtain ⟨rfl, f775_0⟩ := hw
  refine lv_istore (lv' := [(6, .int 0), (5, .int 1), (4, .int 0), (3, .ref o), (2, .ref h2), (1, .ref h1), (0, .ref b)]) hx hb dL_law_778 hl (by decide) rfl (fun ls hl => ?_)
  refine lv_aload_n hx hb dL_law_780 rfl (lv_at hl 4 rfl) ?_
  have hPc := hP.sub (ws' := [(h2, .inr (12, fM w775))]) [1] rfl
  have hDc := hD.sub (ws' := [(h2, .inr (12, fM w775))]) [1] (by decide) rfl
  have hKc := hK.sub (tys' := []) [] rfl
  have hFc := va_free (wc := [(h2, .inr (12, fM w775))]) hD hS hA [1] rfl
  refine va_calli (va_runV (As := []) (rest := []) ⟨hx, hb, hml, hown, hts⟩ (p_X12_thrown l dC dI h2 w775 1 (f775_0) H.size) (cwV 0 hts glaw10_2 rfl rfl rfl (by decide +kernel) ⟨by decide +kernel, by decide +kernel⟩) ⟨fun a U g mk q => by obtain ⟨q0, q1, qP, qK, qD⟩ := q; exact ⟨q0, q1, qP, va_K.moved (u := U) (U := U.calling g mk a) (Vm.Alike.refl U.vm) qK, qD⟩, va_recv hKc hPc (ci := 12) (q0 := 0) rfl rfl, fun U hU9 hW => ⟨rfl, by rw [hU9], by rw [hU9]; exact hPc, va_K.moved hW.alike hKc, hDc.weaken (fun _ _ _ _ => trivial)⟩⟩ rfl rfl hl.1 rfl (lv_room (Nat.le_of_ble_eq_true rfl)) dL_law_781 ⟨by decide +kernel, by decide +kernel⟩) hS (fun q _ h => hFc q h) hFc (fun r781 u t H1 locs ht hvm hw hB hz1 hk1 hS => ?_)
  obtain ⟨hP1, hK1, hD1⟩ := hB
  rw [ht] at hP1
  have hK1 := va_K.moved hvm.symm hK1
  obtain ⟨hP, hD⟩ := va_join (wr := [(o, .inl (kO, 1, .inr (.inl go763)))]) (w1 := []) hP hD [1] [0] rfl rfl (by decide) (by decide) hk1 hFc hP1 hD1
  generalize H1 = H at hP hS ⊢
  have hP : va_P (dC, dI) vwCl [(o, .inl (kO, 1, .inr (.inl go763)))] H := hP
  have hD : va_D A [(o, .inl (kO, 1, .inr (.inl go763)))] := hD
  obtain rfl := hw
  refine lv_iload hx hb dL_law_784 (lv_at hl 1 rfl) ?_
  refine lv_icmp_eq (tgt := 791) hx hb dL_law_786 (by decide) (fun _ => ?_) (fun c9 => absurd (by decide) c9)
  refine lv_iload hx hb dL_law_791 (lv_at hl 1 rfl) ?_
  refine lv_if_ne (tgt := 808) hx hb dL_law_793 (by decide) (fun _ => ?_) (fun c9 => absurd c9 (by decide))
  refine lv_goto (tgt := 2131) hx hb dL_law_808 (by decide) ?_
  refine lv_iinc (v := 6) (lv' := [(4, .int 6), (6, .int 0), (5, .int 1), (3, .ref o), (2, .ref h2), (1, .ref h1), (0, .ref b)]) hx hb dL_law_2131 hl (k := 2) rfl (by decide) (by decide) rfl (fun ls hl => ?_)
  refine lv_goto (tgt := 23) hx hb dL_law_2134 (by decide) ?_
  refine lv_iload hx hb dL_law_23 (lv_at hl 0 rfl) ?_
  refine lv_aload_n hx hb dL_law_25 rfl (lv_at hl 6 rfl) ?_
  refine va_slen hx hb hX hbl hbA hS dL_law_26 ?_
  refine lv_topi (fun y5 hy5 => ?_)
  obtain rfl : 6 = y5 := (hy5.trans (rfl)).symm
  refine lv_bipush (v := 6) hx hb dL_law_27 (by decide) ?_
  refine lv_isub hx hb dL_law_29 ?_
  refine lv_topi (fun y6 hy6 => ?_)
  obtain rfl : 0 = y6 := (hy6.trans (by decide)).symm
  refine lv_icmp_gt (tgt := 2137) hx hb dL_law_30 (by decide) (fun _ => ?_) (fun c9 => absurd (by decide) c9)
  refine lv_iconst (v := 1) hx hb dL_law_2137 (by decide) ?_
  refine W.widen (k := 600002) (n := 7302232) (by decide +kernel) (by decide +kernel) ?_
  refine va_forget (fun q hq => hA2 _ (hS.2.2 q hq)) ?_
  exact lw_ret hx hb hr hlocks dL_law_2138
theorem dL_law_811 : decode cL_law 811 = .ok (.aload_n 1, 1) := by decide +kernel
theorem dL_law_812 : decode cL_law 812 = .ok (.aload_n 0, 1) := by decide +kernel
theorem dL_law_813 : decode cL_law 813 = .ok (.iload 4, 2) := by decide +kernel
theorem dL_law_815 : decode cL_law 815 = .ok (.iconst 1, 1) := by decide +kernel
theorem dL_law_816 : decode cL_law 816 = .ok (.iadd, 1) := by decide +kernel
theorem dL_law_817 : decode cL_law 817 = .ok (.iaload, 1) := by decide +kernel
theorem dL_law_818 : decode cL_law 818 = .ok (.aload_n 3, 1) := by decide +kernel
theorem dL_law_819 : decode cL_law 819 = .ok (.invokestatic 141, 3) := by decide +kernel
theorem dL_law_822 : decode cL_law 822 = .ok (.istore 5, 2) := by decide +kernel
theorem dL_law_824 : decode cL_law 824 = .ok (.aload_n 2, 1) := by decide +kernel
theorem dL_law_825 : decode cL_law 825 = .ok (.aload_n 0, 1) := by decide +kernel
theorem dL_law_826 : decode cL_law 826 = .ok (.iload 4, 2) := by decide +kernel
theorem dL_law_828 : decode cL_law 828 = .ok (.iconst 1, 1) := by decide +kernel
theorem dL_law_829 : decode cL_law 829 = .ok (.iadd, 1) := by decide +kernel
theorem dL_law_830 : decode cL_law 830 = .ok (.iaload, 1) := by decide +kernel
theorem dL_law_831 : decode cL_law 831 = .ok (.invokevirtual 143, 3) := by decide +kernel
theorem dL_law_834 : decode cL_law 834 = .ok (.istore 6, 2) := by decide +kernel
theorem dL_law_836 : decode cL_law 836 = .ok (.aload_n 2, 1) := by decide +kernel
theorem dL_law_837 : decode cL_law 837 = .ok (.invokevirtual 111, 3) := by decide +kernel
theorem dL_law_840 : decode cL_law 840 = .ok (.iload 5, 2) := by decide +kernel
theorem dL_law_842 : decode cL_law 842 = .ok (.if_icmp .eq 5, 3) := by decide +kernel
theorem dL_law_847 : decode cL_law 847 = .ok (.iload 5, 2) := by decide +kernel
theorem dL_law_849 : decode cL_law 849 = .ok (.ifCond .ne 15, 3) := by decide +kernel
theorem dL_law_864 : decode cL_law 864 = .ok (.goto 1267, 3) := by decide +kernel
theorem glaw11_0 : GoodIn lw_tbl (va_wsS RL 141 yL_best wsPL_best) := goodIn_sub ((List.forall_mem_append.mpr ⟨(mem_p ([.methodLink RL 141 yL_best, .static yL_best, .initialized "OptimaWorksLaw"] : List Cond) [(8, 211), (8, 212), (1, 0)] (by decide +kernel)), ml_wsPL_best⟩ : ∀ w ∈ va_wsS RL 141 yL_best wsPL_best, w ∈ lw_tbl)) (by decide +kernel)
theorem glaw11_1 : GoodIn lw_tbl (wsV RL 143 RX12 yX12_best wsPX12_best) := goodIn_sub ((List.forall_mem_append.mpr ⟨(mem_p ([.methodLink RL 143 yX12_best, .instanceMethod yX12_best, .selects RX12 yX12_best yX12_best, .initialized RX12] : List Cond) [(15, 8), (15, 9), (15, 10), (1, 4)] (by decide +kernel)), ml_wsPX12_best⟩ : ∀ w ∈ wsV RL 143 RX12 yX12_best wsPX12_best, w ∈ lw_tbl)) (by decide +kernel)
theorem glaw11_2 : GoodIn lw_tbl (wsV RL 111 RX12 yX12_thrown wsPX12_thrown) := goodIn_sub ((List.forall_mem_append.mpr ⟨(mem_p ([.methodLink RL 111 yX12_thrown, .instanceMethod yX12_thrown, .selects RX12 yX12_thrown yX12_thrown, .initialized RX12] : List Cond) [(12, 139), (12, 140), (12, 141), (1, 4)] (by decide +kernel)), ml_wsPX12_thrown⟩ : ∀ w ∈ wsV RL 111 RX12 yX12_thrown wsPX12_thrown, w ∈ lw_tbl)) (by decide +kernel)
set_option maxHeartbeats 4000000 in
set_option maxRecDepth 100000 in
/-- the law's case 11: best -/
theorem lc_11 {p : Program} {e : Env} {s : State} {m : MethodId} {below : List Frame} {meth : Method} {c : Code} (l : Launch) (hst : l.stackTraces = false) {b : Nat} {xs : Nat → Int32} (C0 : lw_At p s m meth c b 6 xs) {A : Nat → Prop} (hA : ∀ q : Nat, s.heap.size ≤ q → A q) (hA2 : ∀ q : Nat, A q → s.heap.size ≤ q) (X0 : lx_ok A s) (dC : Nat → ClassId) (dI : Nat → Nat → Nat) {h1 h2 o : Nat} {a : Nat → Nat} {k : Nat → ClassId} {av : Nat → Nat} {kv : Nat → ClassId} {kO : ClassId} {H : Heap} {locs : List Loc} {ls : Array Slot} (hK : va_K (dC, dI) vwCl [(kO, .long)] s) (hP : va_P (dC, dI) vwCl [(h1, .inr (11, [.ref (a 0), .ref (a 1), .ref (a 3), .ref (a 14), .int 0, .null, .null, .null, .null, .null, .null])), ((a 3), .inr (1, [.int 0, .int 0, .int 0, .int 0, .int 0, .int 0, .ref (a 4), .ref (a 5), .ref (a 6), .ref (a 7), .int 0, .ref (a 8), .ref (a 9), .ref (a 10), .ref (a 11), .ref (a 12), .ref (a 13)])), (h2, .inr (12, fM (vM av))), (o, .inl (kO, 1, .inr (.inl (fun _ => 0))))] H) (hD : va_D A [(h1, .inr (11, [.ref (a 0), .ref (a 1), .ref (a 3), .ref (a 14), .int 0, .null, .null, .null, .null, .null, .null])), ((a 3), .inr (1, [.int 0, .int 0, .int 0, .int 0, .int 0, .int 0, .ref (a 4), .ref (a 5), .ref (a 6), .ref (a 7), .int 0, .ref (a 8), .ref (a 9), .ref (a 10), .ref (a 11), .ref (a 12), .ref (a 13)])), (h2, .inr (12, fM (vM av))), (o, .inl (kO, 1, .inr (.inl (fun _ => 0))))]) (hS : va_S A s.heap H locs) (hl : lv_has ls 7 [(4, .int 0), (3, .ref o), (2, .ref h2), (1, .ref h1), (0, .ref b)]) : W p l e room_1 s m #[Value.ref b] below meth c H locs 125 181434 (lw_Z below #[Value.ref b] s) (F0 m 811 ls []) := by
  obtain ⟨hx, hb, hr, hml, hown, hts, hX, hbl, hlocks, hgv⟩ := id C0
  have hb : c.code = cL_law := hb
  have hown : s.vm.findClass RL = some m.cls := hown
  obtain ⟨hU, hN, hnX11_343, hnX11_392, hnX11_421, hncAI, hngX11_161, hngX11_79, hngX11_95⟩ := X0
  have hbA : ¬ A b := fun h => absurd (hA2 b h) (Nat.not_le.mpr hbl)
  refine lv_aload_n hx hb dL_law_811 rfl (lv_at hl 3 rfl) ?_
  refine lv_aload_n hx hb dL_law_812 rfl (lv_at hl 4 rfl) ?_
  refine lv_iload hx hb dL_law_813 (lv_at hl 0 rfl) ?_
  refine lv_iconst (v := 1) hx hb dL_law_815 (by decide) ?_
  refine lv_iadd hx hb dL_law_816 ?_
  refine lv_topi (fun y1 hy1 => ?_)
  obtain rfl : 1 = y1 := (hy1.trans (by decide)).symm
  refine va_sld hx hb hX hbl hbA hS (show ¬ ((1 : Int32) < 0 ∨ 6 ≤ (1 : Int32).toNatClampNeg) by decide) dL_law_817 ?_
  refine lv_topi (fun y2 hy2 => ?_)
  obtain rfl : (xs 1) = y2 := (hy2.trans (rfl)).symm
  refine lv_aload_n hx hb dL_law_818 rfl (lv_at hl 1 rfl) ?_
  have hPc := hP.sub (ws' := [(h1, .inr (11, [.ref (a 0), .ref (a 1), .ref (a 3), .ref (a 14), .int 0, .null, .null, .null, .null, .null, .null])), ((a 3), .inr (1, [.int 0, .int 0, .int 0, .int 0, .int 0, .int 0, .ref (a 4), .ref (a 5), .ref (a 6), .ref (a 7), .int 0, .ref (a 8), .ref (a 9), .ref (a 10), .ref (a 11), .ref (a 12), .ref (a 13)])), (o, .inl (kO, 1, .inr (.inl (fun _ => 0))))]) [0, 1, 3] rfl
  have hDc := hD.sub (ws' := [(h1, .inr (11, [.ref (a 0), .ref (a 1), .ref (a 3), .ref (a 14), .int 0, .null, .null, .null, .null, .null, .null])), ((a 3), .inr (1, [.int 0, .int 0, .int 0, .int 0, .int 0, .int 0, .ref (a 4), .ref (a 5), .ref (a 6), .ref (a 7), .int 0, .ref (a 8), .ref (a 9), .ref (a 10), .ref (a 11), .ref (a 12), .ref (a 13)])), (o, .inl (kO, 1, .inr (.inl (fun _ => 0))))]) [0, 1, 3] (by decide) rfl
  have hKc := hK.sub (tys' := [(kO, .long)]) [0] rfl
  have hFc := va_free (wc := [(h1, .inr (11, [.ref (a 0), .ref (a 1), .ref (a 3), .ref (a 14), .int 0, .null, .null, .null, .null, .null, .null])), ((a 3), .inr (1, [.int 0, .int 0, .int 0, .int 0, .int 0, .int 0, .ref (a 4), .ref (a 5), .ref (a 6), .ref (a 7), .int 0, .ref (a 8), .ref (a 9), .ref (a 10), .ref (a 11), .ref (a 12), .ref (a 13)])), (o, .inl (kO, 1, .inr (.inl (fun _ => 0))))]) hD hS hA [0, 1, 3] rfl
  refine va_calli (vx_runSW (As := [.ref h1, .int (xs 1), .ref o]) (rest := []) ⟨hx, hb, hml, hown, hts⟩ (p_L_best l hst dC dI h1 a o kO (xs 1) H.size) (vx_cwSW 3 hts glaw11_0 rfl rfl rfl (by decide +kernel) ⟨by decide +kernel, by decide +kernel⟩) ⟨fun a U g mk q => by obtain ⟨q0, q1, qP, qK, qD, qU, qN, qngX11_161⟩ := q; exact ⟨q0, q1, qP, va_K.moved (u := U) (U := U.calling g mk a) (Vm.Alike.refl U.vm) qK, qD, vx_Zq.moved (u := U) (U := U.calling g mk a) (Vm.Alike.refl U.vm) qU, vx_Zq.moved (u := U) (U := U.calling g mk a) (Vm.Alike.refl U.vm) qN, fun w h => va_Nw.same (u := U) (U := U.calling g mk a) (ngX11_161_ot w h) rfl (qngX11_161 w h)⟩, fun U hU9 hW => ⟨rfl, by rw [hU9], by rw [hU9]; exact hPc, va_K.moved hW.alike hKc, hDc.weaken (fun _ _ _ _ => trivial), by rw [hU9]; exact ((hU.kept (fun a h1 h2 => hS.2.1 a h1 h2)).narrow hFc).moved hW.alike, by rw [hU9]; exact ((hN.kept (fun a h1 h2 => hS.2.1 a h1 h2)).narrow hFc).moved hW.alike, fun w h => cd_warm (ngX11_161_cd w h) hW (hngX11_161 w h)⟩⟩ rfl rfl hl.1 rfl (lv_room (Nat.le_of_ble_eq_true rfl)) dL_law_819 ⟨by decide +kernel, by decide +kernel⟩) hS (fun q _ h => hFc q h) hFc (fun r819 u t H1 locs ht hvm hw hB hz1 hk1 hS => ?_)
  obtain ⟨go819, hwit819⟩ : ∃ w9, w9 = u := ⟨u, rfl⟩
  subst hwit819
  obtain ⟨hP1, hK1, hD1⟩ := hB
  rw [ht] at hP1
  have hK1 := va_K.moved hvm.symm hK1
  obtain ⟨hP, hD⟩ := va_join (wr := [(h2, .inr (12, fM (vM av)))]) (w1 := [(o, .inl (kO, 1, .inr (.inl go819)))]) hP hD [0, 1, 3] [2] rfl rfl (by decide) (by decide) hk1 hFc hP1 hD1
  generalize H1 = H at hP hS ⊢
  have hP : va_P (dC, dI) vwCl [(h2, .inr (12, fM (vM av))), (o, .inl (kO, 1, .inr (.inl go819)))] H := hP
  have hD : va_D A [(h2, .inr (12, fM (vM av))), (o, .inl (kO, 1, .inr (.inl go819)))] := hD
  refine W.widen (k := 126) (n := 181440) (by decide +kernel) (by decide +kernel) ?_
  obtain rfl := hw
  refine lv_istore (lv' := [(5, .int 1), (4, .int 0), (3, .ref o), (2, .ref h2), (1, .ref h1), (0, .ref b)]) hx hb dL_law_822 hl (by decide) rfl (fun ls hl => ?_)
  refine lv_aload_n hx hb dL_law_824 rfl (lv_at hl 3 rfl) ?_
  refine lv_aload_n hx hb dL_law_825 rfl (lv_at hl 5 rfl) ?_
  refine lv_iload hx hb dL_law_826 (lv_at hl 1 rfl) ?_
  refine lv_iconst (v := 1) hx hb dL_law_828 (by decide) ?_
  refine lv_iadd hx hb dL_law_829 ?_
  refine lv_topi (fun y3 hy3 => ?_)
  obtain rfl : 1 = y3 := (hy3.trans (by decide)).symm
  refine va_sld hx hb hX hbl hbA hS (show ¬ ((1 : Int32) < 0 ∨ 6 ≤ (1 : Int32).toNatClampNeg) by decide) dL_law_830 ?_
  refine lv_topi (fun y4 hy4 => ?_)
  obtain rfl : (xs 1) = y4 := (hy4.trans (rfl)).symm
  have hPc := hP.sub (ws' := [(h2, .inr (12, fM (vM av)))]) [0] rfl
  have hDc := hD.sub (ws' := [(h2, .inr (12, fM (vM av)))]) [0] (by decide) rfl
  have hKc := hK.sub (tys' := []) [] rfl
  have hFc := va_free (wc := [(h2, .inr (12, fM (vM av)))]) hD hS hA [0] rfl
  refine va_calli (va_runV (As := [.int (xs 1)]) (rest := []) ⟨hx, hb, hml, hown, hts⟩ (p_X12_best l dC dI h2 (vM av) (rfl) (rfl) (xs 1) H.size) (cwV 1 hts glaw11_1 rfl rfl rfl (by decide +kernel) ⟨by decide +kernel, by decide +kernel⟩) ⟨fun a U g mk q => by obtain ⟨q0, q1, qP, qK, qD⟩ := q; exact ⟨q0, q1, qP, va_K.moved (u := U) (U := U.calling g mk a) (Vm.Alike.refl U.vm) qK, qD⟩, va_recv hKc hPc (ci := 12) (q0 := 0) rfl rfl, fun U hU9 hW => ⟨rfl, by rw [hU9], by rw [hU9]; exact hPc, va_K.moved hW.alike hKc, hDc.weaken (fun _ _ _ _ => trivial)⟩⟩ rfl rfl hl.1 rfl (lv_room (Nat.le_of_ble_eq_true rfl)) dL_law_831 ⟨by decide +kernel, by decide +kernel⟩) hS (fun q _ h => hFc q h) hFc (fun r831 u t H1 locs ht hvm hw hB hz1 hk1 hS => ?_)
  obtain ⟨w831, hwit831⟩ : ∃ w9, w9 = u := ⟨u, rfl⟩
  subst hwit831
  obtain ⟨hP1, hK1, hD1⟩ := hB
  rw [ht] at hP1
  have hK1 := va_K.moved hvm.symm hK1
  obtain ⟨hP, hD⟩ := va_join (wr := [(o, .inl (kO, 1, .inr (.inl go819)))]) (w1 := [(h2, .inr (12, fM w831))]) hP hD [0] [1] rfl rfl (by decide) (by decide) hk1 hFc hP1 hD1
  generalize H1 = H at hP hS ⊢
  have hP : va_P (dC, dI) vwCl [(o, .inl (kO, 1, .inr (.inl go819))), (h2, .inr (12, fM w831))] H := hP
  have hD : va_D A [(o, .inl (kO, 1, .inr (.inl go819))), (h2, .inr (12, fM w831))] := hD
  obtain ⟨rfl, f831_0⟩ := hw
  refine lv_istore (lv' := [(6, .int 0), (5, .int 1), (4, .int 0), (3, .ref o), (2, .ref h2), (1, .ref h1), (0, .ref b)]) hx hb dL_law_834 hl (by decide) rfl (fun ls hl => ?_)
  refine lv_aload_n hx hb dL_law_836 rfl (lv_at hl 4 rfl) ?_
  have hPc := hP.sub (ws' := [(h2, .inr (12, fM w831))]) [1] rfl
  have hDc := hD.sub (ws' := [(h2, .inr (12, fM w831))]) [1] (by decide) rfl
  have hKc := hK.sub (tys' := []) [] rfl
  have hFc := va_free (wc := [(h2, .inr (12, fM w831))]) hD hS hA [1] rfl
  refine va_calli (va_runV (As := []) (rest := []) ⟨hx, hb, hml, hown, hts⟩ (p_X12_thrown l dC dI h2 w831 1 (f831_0) H.size) (cwV 0 hts glaw11_2 rfl rfl rfl (by decide +kernel) ⟨by decide +kernel, by decide +kernel⟩) ⟨fun a U g mk q => by obtain ⟨q0, q1, qP, qK, qD⟩ := q; exact ⟨q0, q1, qP, va_K.moved (u := U) (U := U.calling g mk a) (Vm.Alike.refl U.vm) qK, qD⟩, va_recv hKc hPc (ci := 12) (q0 := 0) rfl rfl, fun U hU9 hW => ⟨rfl, by rw [hU9], by rw [hU9]; exact hPc, va_K.moved hW.alike hKc, hDc.weaken (fun _ _ _ _ => trivial)⟩⟩ rfl rfl hl.1 rfl (lv_room (Nat.le_of_ble_eq_true rfl)) dL_law_837 ⟨by decide +kernel, by decide +kernel⟩) hS (fun q _ h => hFc q h) hFc (fun r837 u t H1 locs ht hvm hw hB hz1 hk1 hS => ?_)
  obtain ⟨hP1, hK1, hD1⟩ := hB
  rw [ht] at hP1
  have hK1 := va_K.moved hvm.symm hK1
  obtain ⟨hP, hD⟩ := va_join (wr := [(o, .inl (kO, 1, .inr (.inl go819)))]) (w1 := []) hP hD [1] [0] rfl rfl (by decide) (by decide) hk1 hFc hP1 hD1
  generalize H1 = H at hP hS ⊢
  have hP : va_P (dC, dI) vwCl [(o, .inl (kO, 1, .inr (.inl go819)))] H := hP
  have hD : va_D A [(o, .inl (kO, 1, .inr (.inl go819)))] := hD
  obtain rfl := hw
  refine lv_iload hx hb dL_law_840 (lv_at hl 1 rfl) ?_
  refine lv_icmp_eq (tgt := 847) hx hb dL_law_842 (by decide) (fun _ => ?_) (fun c9 => absurd (by decide) c9)
  refine lv_iload hx hb dL_law_847 (lv_at hl 1 rfl) ?_
  refine lv_if_ne (tgt := 864) hx hb dL_law_849 (by decide) (fun _ => ?_) (fun c9 => absurd c9 (by decide))
  refine lv_goto (tgt := 2131) hx hb dL_law_864 (by decide) ?_
  refine lv_iinc (v := 6) (lv' := [(4, .int 6), (6, .int 0), (5, .int 1), (3, .ref o), (2, .ref h2), (1, .ref h1), (0, .ref b)]) hx hb dL_law_2131 hl (k := 2) rfl (by decide) (by decide) rfl (fun ls hl => ?_)
  refine lv_goto (tgt := 23) hx hb dL_law_2134 (by decide) ?_
  refine lv_iload hx hb dL_law_23 (lv_at hl 0 rfl) ?_
  refine lv_aload_n hx hb dL_law_25 rfl (lv_at hl 6 rfl) ?_
  refine va_slen hx hb hX hbl hbA hS dL_law_26 ?_
  refine lv_topi (fun y5 hy5 => ?_)
  obtain rfl : 6 = y5 := (hy5.trans (rfl)).symm
  refine lv_bipush (v := 6) hx hb dL_law_27 (by decide) ?_
  refine lv_isub hx hb dL_law_29 ?_
  refine lv_topi (fun y6 hy6 => ?_)
  obtain rfl : 0 = y6 := (hy6.trans (by decide)).symm
  refine lv_icmp_gt (tgt := 2137) hx hb dL_law_30 (by decide) (fun _ => ?_) (fun c9 => absurd (by decide) c9)
  refine lv_iconst (v := 1) hx hb dL_law_2137 (by decide) ?_
  refine W.widen (k := 600002) (n := 7302232) (by decide +kernel) (by decide +kernel) ?_
  refine va_forget (fun q hq => hA2 _ (hS.2.2 q hq)) ?_
  exact lw_ret hx hb hr hlocks dL_law_2138
theorem dL_law_867 : decode cL_law 867 = .ok (.aload_n 1, 1) := by decide +kernel
theorem dL_law_868 : decode cL_law 868 = .ok (.aload_n 0, 1) := by decide +kernel
theorem dL_law_869 : decode cL_law 869 = .ok (.iload 4, 2) := by decide +kernel
theorem dL_law_871 : decode cL_law 871 = .ok (.iconst 1, 1) := by decide +kernel
theorem dL_law_872 : decode cL_law 872 = .ok (.iadd, 1) := by decide +kernel
theorem dL_law_873 : decode cL_law 873 = .ok (.iaload, 1) := by decide +kernel
theorem dL_law_874 : decode cL_law 874 = .ok (.aload_n 3, 1) := by decide +kernel
theorem dL_law_875 : decode cL_law 875 = .ok (.invokestatic 144, 3) := by decide +kernel
theorem dL_law_878 : decode cL_law 878 = .ok (.istore 5, 2) := by decide +kernel
theorem dL_law_880 : decode cL_law 880 = .ok (.aload_n 2, 1) := by decide +kernel
theorem dL_law_881 : decode cL_law 881 = .ok (.aload_n 0, 1) := by decide +kernel
theorem dL_law_882 : decode cL_law 882 = .ok (.iload 4, 2) := by decide +kernel
theorem dL_law_884 : decode cL_law 884 = .ok (.iconst 1, 1) := by decide +kernel
theorem dL_law_885 : decode cL_law 885 = .ok (.iadd, 1) := by decide +kernel
theorem dL_law_886 : decode cL_law 886 = .ok (.iaload, 1) := by decide +kernel
theorem dL_law_887 : decode cL_law 887 = .ok (.invokevirtual 146, 3) := by decide +kernel
theorem dL_law_890 : decode cL_law 890 = .ok (.istore 6, 2) := by decide +kernel
theorem dL_law_892 : decode cL_law 892 = .ok (.aload_n 2, 1) := by decide +kernel
theorem dL_law_893 : decode cL_law 893 = .ok (.invokevirtual 111, 3) := by decide +kernel
theorem dL_law_896 : decode cL_law 896 = .ok (.iload 5, 2) := by decide +kernel
theorem dL_law_898 : decode cL_law 898 = .ok (.if_icmp .eq 5, 3) := by decide +kernel
theorem dL_law_903 : decode cL_law 903 = .ok (.iload 5, 2) := by decide +kernel
theorem dL_law_905 : decode cL_law 905 = .ok (.ifCond .ne 15, 3) := by decide +kernel
theorem dL_law_920 : decode cL_law 920 = .ok (.goto 1211, 3) := by decide +kernel
theorem glaw12_0 : GoodIn lw_tbl (va_wsS RL 144 yL_way wsPL_way) := goodIn_sub ((List.forall_mem_append.mpr ⟨(mem_p ([.methodLink RL 144 yL_way, .static yL_way, .initialized "OptimaWorksLaw"] : List Cond) [(8, 226), (8, 227), (1, 0)] (by decide +kernel)), ml_wsPL_way⟩ : ∀ w ∈ va_wsS RL 144 yL_way wsPL_way, w ∈ lw_tbl)) (by decide +kernel)
theorem glaw12_1 : GoodIn lw_tbl (wsV RL 146 RX12 yX12_way wsPX12_way) := goodIn_sub ((List.forall_mem_append.mpr ⟨(mem_p ([.methodLink RL 146 yX12_way, .instanceMethod yX12_way, .selects RX12 yX12_way yX12_way, .initialized RX12] : List Cond) [(15, 12), (15, 13), (15, 14), (1, 4)] (by decide +kernel)), ml_wsPX12_way⟩ : ∀ w ∈ wsV RL 146 RX12 yX12_way wsPX12_way, w ∈ lw_tbl)) (by decide +kernel)
theorem glaw12_2 : GoodIn lw_tbl (wsV RL 111 RX12 yX12_thrown wsPX12_thrown) := goodIn_sub ((List.forall_mem_append.mpr ⟨(mem_p ([.methodLink RL 111 yX12_thrown, .instanceMethod yX12_thrown, .selects RX12 yX12_thrown yX12_thrown, .initialized RX12] : List Cond) [(12, 139), (12, 140), (12, 141), (1, 4)] (by decide +kernel)), ml_wsPX12_thrown⟩ : ∀ w ∈ wsV RL 111 RX12 yX12_thrown wsPX12_thrown, w ∈ lw_tbl)) (by decide +kernel)
set_option maxHeartbeats 4000000 in
set_option maxRecDepth 100000 in
/-- the law's case 12: way -/
theorem lc_12 {p : Program} {e : Env} {s : State} {m : MethodId} {below : List Frame} {meth : Method} {c : Code} (l : Launch) (hst : l.stackTraces = false) {b : Nat} {xs : Nat → Int32} (C0 : lw_At p s m meth c b 6 xs) {A : Nat → Prop} (hA : ∀ q : Nat, s.heap.size ≤ q → A q) (hA2 : ∀ q : Nat, A q → s.heap.size ≤ q) (X0 : lx_ok A s) (dC : Nat → ClassId) (dI : Nat → Nat → Nat) {h1 h2 o : Nat} {a : Nat → Nat} {k : Nat → ClassId} {av : Nat → Nat} {kv : Nat → ClassId} {kO : ClassId} {H : Heap} {locs : List Loc} {ls : Array Slot} (hK : va_K (dC, dI) vwCl [(kO, .long)] s) (hP : va_P (dC, dI) vwCl [(h1, .inr (11, [.ref (a 0), .ref (a 1), .ref (a 3), .ref (a 14), .int 0, .null, .null, .null, .null, .null, .null])), ((a 3), .inr (1, [.int 0, .int 0, .int 0, .int 0, .int 0, .int 0, .ref (a 4), .ref (a 5), .ref (a 6), .ref (a 7), .int 0, .ref (a 8), .ref (a 9), .ref (a 10), .ref (a 11), .ref (a 12), .ref (a 13)])), (h2, .inr (12, fM (vM av))), (o, .inl (kO, 1, .inr (.inl (fun _ => 0))))] H) (hD : va_D A [(h1, .inr (11, [.ref (a 0), .ref (a 1), .ref (a 3), .ref (a 14), .int 0, .null, .null, .null, .null, .null, .null])), ((a 3), .inr (1, [.int 0, .int 0, .int 0, .int 0, .int 0, .int 0, .ref (a 4), .ref (a 5), .ref (a 6), .ref (a 7), .int 0, .ref (a 8), .ref (a 9), .ref (a 10), .ref (a 11), .ref (a 12), .ref (a 13)])), (h2, .inr (12, fM (vM av))), (o, .inl (kO, 1, .inr (.inl (fun _ => 0))))]) (hS : va_S A s.heap H locs) (hl : lv_has ls 7 [(4, .int 0), (3, .ref o), (2, .ref h2), (1, .ref h1), (0, .ref b)]) : W p l e room_1 s m #[Value.ref b] below meth c H locs 125 181434 (lw_Z below #[Value.ref b] s) (F0 m 867 ls []) := by
  obtain ⟨hx, hb, hr, hml, hown, hts, hX, hbl, hlocks, hgv⟩ := id C0
  have hb : c.code = cL_law := hb
  have hown : s.vm.findClass RL = some m.cls := hown
  obtain ⟨hU, hN, hnX11_343, hnX11_392, hnX11_421, hncAI, hngX11_161, hngX11_79, hngX11_95⟩ := X0
  have hbA : ¬ A b := fun h => absurd (hA2 b h) (Nat.not_le.mpr hbl)
  refine lv_aload_n hx hb dL_law_867 rfl (lv_at hl 3 rfl) ?_
  refine lv_aload_n hx hb dL_law_868 rfl (lv_at hl 4 rfl) ?_
  refine lv_iload hx hb dL_law_869 (lv_at hl 0 rfl) ?_
  refine lv_iconst (v := 1) hx hb dL_law_871 (by decide) ?_
  refine lv_iadd hx hb dL_law_872 ?_
  refine lv_topi (fun y1 hy1 => ?_)
  obtain rfl : 1 = y1 := (hy1.trans (by decide)).symm
  refine va_sld hx hb hX hbl hbA hS (show ¬ ((1 : Int32) < 0 ∨ 6 ≤ (1 : Int32).toNatClampNeg) by decide) dL_law_873 ?_
  refine lv_topi (fun y2 hy2 => ?_)
  obtain rfl : (xs 1) = y2 := (hy2.trans (rfl)).symm
  refine lv_aload_n hx hb dL_law_874 rfl (lv_at hl 1 rfl) ?_
  have hPc := hP.sub (ws' := [(h1, .inr (11, [.ref (a 0), .ref (a 1), .ref (a 3), .ref (a 14), .int 0, .null, .null, .null, .null, .null, .null])), ((a 3), .inr (1, [.int 0, .int 0, .int 0, .int 0, .int 0, .int 0, .ref (a 4), .ref (a 5), .ref (a 6), .ref (a 7), .int 0, .ref (a 8), .ref (a 9), .ref (a 10), .ref (a 11), .ref (a 12), .ref (a 13)])), (o, .inl (kO, 1, .inr (.inl (fun _ => 0))))]) [0, 1, 3] rfl
  have hDc := hD.sub (ws' := [(h1, .inr (11, [.ref (a 0), .ref (a 1), .ref (a 3), .ref (a 14), .int 0, .null, .null, .null, .null, .null, .null])), ((a 3), .inr (1, [.int 0, .int 0, .int 0, .int 0, .int 0, .int 0, .ref (a 4), .ref (a 5), .ref (a 6), .ref (a 7), .int 0, .ref (a 8), .ref (a 9), .ref (a 10), .ref (a 11), .ref (a 12), .ref (a 13)])), (o, .inl (kO, 1, .inr (.inl (fun _ => 0))))]) [0, 1, 3] (by decide) rfl
  have hKc := hK.sub (tys' := [(kO, .long)]) [0] rfl
  have hFc := va_free (wc := [(h1, .inr (11, [.ref (a 0), .ref (a 1), .ref (a 3), .ref (a 14), .int 0, .null, .null, .null, .null, .null, .null])), ((a 3), .inr (1, [.int 0, .int 0, .int 0, .int 0, .int 0, .int 0, .ref (a 4), .ref (a 5), .ref (a 6), .ref (a 7), .int 0, .ref (a 8), .ref (a 9), .ref (a 10), .ref (a 11), .ref (a 12), .ref (a 13)])), (o, .inl (kO, 1, .inr (.inl (fun _ => 0))))]) hD hS hA [0, 1, 3] rfl
  refine va_calli (vx_runSW (As := [.ref h1, .int (xs 1), .ref o]) (rest := []) ⟨hx, hb, hml, hown, hts⟩ (p_L_way l hst dC dI h1 a o kO (xs 1) H.size) (vx_cwSW 3 hts glaw12_0 rfl rfl rfl (by decide +kernel) ⟨by decide +kernel, by decide +kernel⟩) ⟨fun a U g mk q => by obtain ⟨q0, q1, qP, qK, qD, qU, qN, qngX11_161⟩ := q; exact ⟨q0, q1, qP, va_K.moved (u := U) (U := U.calling g mk a) (Vm.Alike.refl U.vm) qK, qD, vx_Zq.moved (u := U) (U := U.calling g mk a) (Vm.Alike.refl U.vm) qU, vx_Zq.moved (u := U) (U := U.calling g mk a) (Vm.Alike.refl U.vm) qN, fun w h => va_Nw.same (u := U) (U := U.calling g mk a) (ngX11_161_ot w h) rfl (qngX11_161 w h)⟩, fun U hU9 hW => ⟨rfl, by rw [hU9], by rw [hU9]; exact hPc, va_K.moved hW.alike hKc, hDc.weaken (fun _ _ _ _ => trivial), by rw [hU9]; exact ((hU.kept (fun a h1 h2 => hS.2.1 a h1 h2)).narrow hFc).moved hW.alike, by rw [hU9]; exact ((hN.kept (fun a h1 h2 => hS.2.1 a h1 h2)).narrow hFc).moved hW.alike, fun w h => cd_warm (ngX11_161_cd w h) hW (hngX11_161 w h)⟩⟩ rfl rfl hl.1 rfl (lv_room (Nat.le_of_ble_eq_true rfl)) dL_law_875 ⟨by decide +kernel, by decide +kernel⟩) hS (fun q _ h => hFc q h) hFc (fun r875 u t H1 locs ht hvm hw hB hz1 hk1 hS => ?_)
  obtain ⟨go875, hwit875⟩ : ∃ w9, w9 = u := ⟨u, rfl⟩
  subst hwit875
  obtain ⟨hP1, hK1, hD1⟩ := hB
  rw [ht] at hP1
  have hK1 := va_K.moved hvm.symm hK1
  obtain ⟨hP, hD⟩ := va_join (wr := [(h2, .inr (12, fM (vM av)))]) (w1 := [(o, .inl (kO, 1, .inr (.inl go875)))]) hP hD [0, 1, 3] [2] rfl rfl (by decide) (by decide) hk1 hFc hP1 hD1
  generalize H1 = H at hP hS ⊢
  have hP : va_P (dC, dI) vwCl [(h2, .inr (12, fM (vM av))), (o, .inl (kO, 1, .inr (.inl go875)))] H := hP
  have hD : va_D A [(h2, .inr (12, fM (vM av))), (o, .inl (kO, 1, .inr (.inl go875)))] := hD
  refine W.widen (k := 126) (n := 181440) (by decide +kernel) (by decide +kernel) ?_
  obtain rfl := hw
  refine lv_istore (lv' := [(5, .int 1), (4, .int 0), (3, .ref o), (2, .ref h2), (1, .ref h1), (0, .ref b)]) hx hb dL_law_878 hl (by decide) rfl (fun ls hl => ?_)
  refine lv_aload_n hx hb dL_law_880 rfl (lv_at hl 3 rfl) ?_
  refine lv_aload_n hx hb dL_law_881 rfl (lv_at hl 5 rfl) ?_
  refine lv_iload hx hb dL_law_882 (lv_at hl 1 rfl) ?_
  refine lv_iconst (v := 1) hx hb dL_law_884 (by decide) ?_
  refine lv_iadd hx hb dL_law_885 ?_
  refine lv_topi (fun y3 hy3 => ?_)
  obtain rfl : 1 = y3 := (hy3.trans (by decide)).symm
  refine va_sld hx hb hX hbl hbA hS (show ¬ ((1 : Int32) < 0 ∨ 6 ≤ (1 : Int32).toNatClampNeg) by decide) dL_law_886 ?_
  refine lv_topi (fun y4 hy4 => ?_)
  obtain rfl : (xs 1) = y4 := (hy4.trans (rfl)).symm
  have hPc := hP.sub (ws' := [(h2, .inr (12, fM (vM av)))]) [0] rfl
  have hDc := hD.sub (ws' := [(h2, .inr (12, fM (vM av)))]) [0] (by decide) rfl
  have hKc := hK.sub (tys' := []) [] rfl
  have hFc := va_free (wc := [(h2, .inr (12, fM (vM av)))]) hD hS hA [0] rfl
  refine va_calli (va_runV (As := [.int (xs 1)]) (rest := []) ⟨hx, hb, hml, hown, hts⟩ (p_X12_way l dC dI h2 (vM av) (rfl) (rfl) (xs 1) H.size) (cwV 1 hts glaw12_1 rfl rfl rfl (by decide +kernel) ⟨by decide +kernel, by decide +kernel⟩) ⟨fun a U g mk q => by obtain ⟨q0, q1, qP, qK, qD⟩ := q; exact ⟨q0, q1, qP, va_K.moved (u := U) (U := U.calling g mk a) (Vm.Alike.refl U.vm) qK, qD⟩, va_recv hKc hPc (ci := 12) (q0 := 0) rfl rfl, fun U hU9 hW => ⟨rfl, by rw [hU9], by rw [hU9]; exact hPc, va_K.moved hW.alike hKc, hDc.weaken (fun _ _ _ _ => trivial)⟩⟩ rfl rfl hl.1 rfl (lv_room (Nat.le_of_ble_eq_true rfl)) dL_law_887 ⟨by decide +kernel, by decide +kernel⟩) hS (fun q _ h => hFc q h) hFc (fun r887 u t H1 locs ht hvm hw hB hz1 hk1 hS => ?_)
  obtain ⟨w887, hwit887⟩ : ∃ w9, w9 = u := ⟨u, rfl⟩
  subst hwit887
  obtain ⟨hP1, hK1, hD1⟩ := hB
  rw [ht] at hP1
  have hK1 := va_K.moved hvm.symm hK1
  obtain ⟨hP, hD⟩ := va_join (wr := [(o, .inl (kO, 1, .inr (.inl go875)))]) (w1 := [(h2, .inr (12, fM w887))]) hP hD [0] [1] rfl rfl (by decide) (by decide) hk1 hFc hP1 hD1
  generalize H1 = H at hP hS ⊢
  have hP : va_P (dC, dI) vwCl [(o, .inl (kO, 1, .inr (.inl go875))), (h2, .inr (12, fM w887))] H := hP
  have hD : va_D A [(o, .inl (kO, 1, .inr (.inl go875))), (h2, .inr (12, fM w887))] := hD
  obtain ⟨rfl, f887_0⟩ := hw
  refine lv_istore (lv' := [(6, .int 0), (5, .int 1), (4, .int 0), (3, .ref o), (2, .ref h2), (1, .ref h1), (0, .ref b)]) hx hb dL_law_890 hl (by decide) rfl (fun ls hl => ?_)
  refine lv_aload_n hx hb dL_law_892 rfl (lv_at hl 4 rfl) ?_
  have hPc := hP.sub (ws' := [(h2, .inr (12, fM w887))]) [1] rfl
  have hDc := hD.sub (ws' := [(h2, .inr (12, fM w887))]) [1] (by decide) rfl
  have hKc := hK.sub (tys' := []) [] rfl
  have hFc := va_free (wc := [(h2, .inr (12, fM w887))]) hD hS hA [1] rfl
  refine va_calli (va_runV (As := []) (rest := []) ⟨hx, hb, hml, hown, hts⟩ (p_X12_thrown l dC dI h2 w887 1 (f887_0) H.size) (cwV 0 hts glaw12_2 rfl rfl rfl (by decide +kernel) ⟨by decide +kernel, by decide +kernel⟩) ⟨fun a U g mk q => by obtain ⟨q0, q1, qP, qK, qD⟩ := q; exact ⟨q0, q1, qP, va_K.moved (u := U) (U := U.calling g mk a) (Vm.Alike.refl U.vm) qK, qD⟩, va_recv hKc hPc (ci := 12) (q0 := 0) rfl rfl, fun U hU9 hW => ⟨rfl, by rw [hU9], by rw [hU9]; exact hPc, va_K.moved hW.alike hKc, hDc.weaken (fun _ _ _ _ => trivial)⟩⟩ rfl rfl hl.1 rfl (lv_room (Nat.le_of_ble_eq_true rfl)) dL_law_893 ⟨by decide +kernel, by decide +kernel⟩) hS (fun q _ h => hFc q h) hFc (fun r893 u t H1 locs ht hvm hw hB hz1 hk1 hS => ?_)
  obtain ⟨hP1, hK1, hD1⟩ := hB
  rw [ht] at hP1
  have hK1 := va_K.moved hvm.symm hK1
  obtain ⟨hP, hD⟩ := va_join (wr := [(o, .inl (kO, 1, .inr (.inl go875)))]) (w1 := []) hP hD [1] [0] rfl rfl (by decide) (by decide) hk1 hFc hP1 hD1
  generalize H1 = H at hP hS ⊢
  have hP : va_P (dC, dI) vwCl [(o, .inl (kO, 1, .inr (.inl go875)))] H := hP
  have hD : va_D A [(o, .inl (kO, 1, .inr (.inl go875)))] := hD
  obtain rfl := hw
  refine lv_iload hx hb dL_law_896 (lv_at hl 1 rfl) ?_
  refine lv_icmp_eq (tgt := 903) hx hb dL_law_898 (by decide) (fun _ => ?_) (fun c9 => absurd (by decide) c9)
  refine lv_iload hx hb dL_law_903 (lv_at hl 1 rfl) ?_
  refine lv_if_ne (tgt := 920) hx hb dL_law_905 (by decide) (fun _ => ?_) (fun c9 => absurd c9 (by decide))
  refine lv_goto (tgt := 2131) hx hb dL_law_920 (by decide) ?_
  refine lv_iinc (v := 6) (lv' := [(4, .int 6), (6, .int 0), (5, .int 1), (3, .ref o), (2, .ref h2), (1, .ref h1), (0, .ref b)]) hx hb dL_law_2131 hl (k := 2) rfl (by decide) (by decide) rfl (fun ls hl => ?_)
  refine lv_goto (tgt := 23) hx hb dL_law_2134 (by decide) ?_
  refine lv_iload hx hb dL_law_23 (lv_at hl 0 rfl) ?_
  refine lv_aload_n hx hb dL_law_25 rfl (lv_at hl 6 rfl) ?_
  refine va_slen hx hb hX hbl hbA hS dL_law_26 ?_
  refine lv_topi (fun y5 hy5 => ?_)
  obtain rfl : 6 = y5 := (hy5.trans (rfl)).symm
  refine lv_bipush (v := 6) hx hb dL_law_27 (by decide) ?_
  refine lv_isub hx hb dL_law_29 ?_
  refine lv_topi (fun y6 hy6 => ?_)
  obtain rfl : 0 = y6 := (hy6.trans (by decide)).symm
  refine lv_icmp_gt (tgt := 2137) hx hb dL_law_30 (by decide) (fun _ => ?_) (fun c9 => absurd (by decide) c9)
  refine lv_iconst (v := 1) hx hb dL_law_2137 (by decide) ?_
  refine W.widen (k := 600002) (n := 7302232) (by decide +kernel) (by decide +kernel) ?_
  refine va_forget (fun q hq => hA2 _ (hS.2.2 q hq)) ?_
  exact lw_ret hx hb hr hlocks dL_law_2138
theorem dL_law_923 : decode cL_law 923 = .ok (.aload_n 1, 1) := by decide +kernel
theorem dL_law_924 : decode cL_law 924 = .ok (.aload_n 3, 1) := by decide +kernel
theorem dL_law_925 : decode cL_law 925 = .ok (.invokestatic 147, 3) := by decide +kernel
theorem dL_law_928 : decode cL_law 928 = .ok (.istore 5, 2) := by decide +kernel
theorem dL_law_930 : decode cL_law 930 = .ok (.aload_n 2, 1) := by decide +kernel
theorem dL_law_931 : decode cL_law 931 = .ok (.invokevirtual 149, 3) := by decide +kernel
theorem dL_law_934 : decode cL_law 934 = .ok (.istore 6, 2) := by decide +kernel
theorem dL_law_936 : decode cL_law 936 = .ok (.aload_n 2, 1) := by decide +kernel
theorem dL_law_937 : decode cL_law 937 = .ok (.invokevirtual 111, 3) := by decide +kernel
theorem dL_law_940 : decode cL_law 940 = .ok (.iload 5, 2) := by decide +kernel
theorem dL_law_942 : decode cL_law 942 = .ok (.if_icmp .eq 5, 3) := by decide +kernel
theorem dL_law_947 : decode cL_law 947 = .ok (.iload 5, 2) := by decide +kernel
theorem dL_law_949 : decode cL_law 949 = .ok (.ifCond .ne 15, 3) := by decide +kernel
theorem dL_law_964 : decode cL_law 964 = .ok (.goto 1167, 3) := by decide +kernel
theorem glaw13_0 : GoodIn lw_tbl (va_wsS RL 147 yL_count wsPL_count) := goodIn_sub ((List.forall_mem_append.mpr ⟨(mem_p ([.methodLink RL 147 yL_count, .static yL_count, .initialized "OptimaWorksLaw"] : List Cond) [(8, 237), (8, 238), (1, 0)] (by decide +kernel)), ml_wsPL_count⟩ : ∀ w ∈ va_wsS RL 147 yL_count wsPL_count, w ∈ lw_tbl)) (by decide +kernel)
theorem glaw13_1 : GoodIn lw_tbl (wsV RL 149 RX12 yX12_count wsPX12_count) := goodIn_sub ((List.forall_mem_append.mpr ⟨(mem_p ([.methodLink RL 149 yX12_count, .instanceMethod yX12_count, .selects RX12 yX12_count yX12_count, .initialized RX12] : List Cond) [(14, 163), (14, 164), (14, 165), (1, 4)] (by decide +kernel)), ml_wsPX12_count⟩ : ∀ w ∈ wsV RL 149 RX12 yX12_count wsPX12_count, w ∈ lw_tbl)) (by decide +kernel)
theorem glaw13_2 : GoodIn lw_tbl (wsV RL 111 RX12 yX12_thrown wsPX12_thrown) := goodIn_sub ((List.forall_mem_append.mpr ⟨(mem_p ([.methodLink RL 111 yX12_thrown, .instanceMethod yX12_thrown, .selects RX12 yX12_thrown yX12_thrown, .initialized RX12] : List Cond) [(12, 139), (12, 140), (12, 141), (1, 4)] (by decide +kernel)), ml_wsPX12_thrown⟩ : ∀ w ∈ wsV RL 111 RX12 yX12_thrown wsPX12_thrown, w ∈ lw_tbl)) (by decide +kernel)
set_option maxHeartbeats 4000000 in
set_option maxRecDepth 100000 in
/-- the law's case 13: count -/
theorem lc_13 {p : Program} {e : Env} {s : State} {m : MethodId} {below : List Frame} {meth : Method} {c : Code} (l : Launch) (hst : l.stackTraces = false) {b : Nat} {xs : Nat → Int32} (C0 : lw_At p s m meth c b 6 xs) {A : Nat → Prop} (hA : ∀ q : Nat, s.heap.size ≤ q → A q) (hA2 : ∀ q : Nat, A q → s.heap.size ≤ q) (X0 : lx_ok A s) (dC : Nat → ClassId) (dI : Nat → Nat → Nat) {h1 h2 o : Nat} {a : Nat → Nat} {k : Nat → ClassId} {av : Nat → Nat} {kv : Nat → ClassId} {kO : ClassId} {H : Heap} {locs : List Loc} {ls : Array Slot} (hK : va_K (dC, dI) vwCl [(kO, .long)] s) (hP : va_P (dC, dI) vwCl [(h1, .inr (11, [.ref (a 0), .ref (a 1), .ref (a 3), .ref (a 14), .int 0, .null, .null, .null, .null, .null, .null])), ((a 3), .inr (1, [.int 0, .int 0, .int 0, .int 0, .int 0, .int 0, .ref (a 4), .ref (a 5), .ref (a 6), .ref (a 7), .int 0, .ref (a 8), .ref (a 9), .ref (a 10), .ref (a 11), .ref (a 12), .ref (a 13)])), (h2, .inr (12, fM (vM av))), (o, .inl (kO, 1, .inr (.inl (fun _ => 0))))] H) (hD : va_D A [(h1, .inr (11, [.ref (a 0), .ref (a 1), .ref (a 3), .ref (a 14), .int 0, .null, .null, .null, .null, .null, .null])), ((a 3), .inr (1, [.int 0, .int 0, .int 0, .int 0, .int 0, .int 0, .ref (a 4), .ref (a 5), .ref (a 6), .ref (a 7), .int 0, .ref (a 8), .ref (a 9), .ref (a 10), .ref (a 11), .ref (a 12), .ref (a 13)])), (h2, .inr (12, fM (vM av))), (o, .inl (kO, 1, .inr (.inl (fun _ => 0))))]) (hS : va_S A s.heap H locs) (hl : lv_has ls 7 [(4, .int 0), (3, .ref o), (2, .ref h2), (1, .ref h1), (0, .ref b)]) : W p l e room_1 s m #[Value.ref b] below meth c H locs 125 181434 (lw_Z below #[Value.ref b] s) (F0 m 923 ls []) := by
  obtain ⟨hx, hb, hr, hml, hown, hts, hX, hbl, hlocks, hgv⟩ := id C0
  have hb : c.code = cL_law := hb
  have hown : s.vm.findClass RL = some m.cls := hown
  obtain ⟨hU, hN, hnX11_343, hnX11_392, hnX11_421, hncAI, hngX11_161, hngX11_79, hngX11_95⟩ := X0
  have hbA : ¬ A b := fun h => absurd (hA2 b h) (Nat.not_le.mpr hbl)
  refine lv_aload_n hx hb dL_law_923 rfl (lv_at hl 3 rfl) ?_
  refine lv_aload_n hx hb dL_law_924 rfl (lv_at hl 1 rfl) ?_
  have hPc := hP.sub (ws' := [(h1, .inr (11, [.ref (a 0), .ref (a 1), .ref (a 3), .ref (a 14), .int 0, .null, .null, .null, .null, .null, .null])), ((a 3), .inr (1, [.int 0, .int 0, .int 0, .int 0, .int 0, .int 0, .ref (a 4), .ref (a 5), .ref (a 6), .ref (a 7), .int 0, .ref (a 8), .ref (a 9), .ref (a 10), .ref (a 11), .ref (a 12), .ref (a 13)])), (o, .inl (kO, 1, .inr (.inl (fun _ => 0))))]) [0, 1, 3] rfl
  have hDc := hD.sub (ws' := [(h1, .inr (11, [.ref (a 0), .ref (a 1), .ref (a 3), .ref (a 14), .int 0, .null, .null, .null, .null, .null, .null])), ((a 3), .inr (1, [.int 0, .int 0, .int 0, .int 0, .int 0, .int 0, .ref (a 4), .ref (a 5), .ref (a 6), .ref (a 7), .int 0, .ref (a 8), .ref (a 9), .ref (a 10), .ref (a 11), .ref (a 12), .ref (a 13)])), (o, .inl (kO, 1, .inr (.inl (fun _ => 0))))]) [0, 1, 3] (by decide) rfl
  have hKc := hK.sub (tys' := [(kO, .long)]) [0] rfl
  have hFc := va_free (wc := [(h1, .inr (11, [.ref (a 0), .ref (a 1), .ref (a 3), .ref (a 14), .int 0, .null, .null, .null, .null, .null, .null])), ((a 3), .inr (1, [.int 0, .int 0, .int 0, .int 0, .int 0, .int 0, .ref (a 4), .ref (a 5), .ref (a 6), .ref (a 7), .int 0, .ref (a 8), .ref (a 9), .ref (a 10), .ref (a 11), .ref (a 12), .ref (a 13)])), (o, .inl (kO, 1, .inr (.inl (fun _ => 0))))]) hD hS hA [0, 1, 3] rfl
  refine va_calli (vx_runSW (As := [.ref h1, .ref o]) (rest := []) ⟨hx, hb, hml, hown, hts⟩ (p_L_count l hst dC dI h1 a o kO H.size) (vx_cwSW 2 hts glaw13_0 rfl rfl rfl (by decide +kernel) ⟨by decide +kernel, by decide +kernel⟩) ⟨fun a U g mk q => by obtain ⟨q0, q1, qP, qK, qD, qU, qN, qngX11_161⟩ := q; exact ⟨q0, q1, qP, va_K.moved (u := U) (U := U.calling g mk a) (Vm.Alike.refl U.vm) qK, qD, vx_Zq.moved (u := U) (U := U.calling g mk a) (Vm.Alike.refl U.vm) qU, vx_Zq.moved (u := U) (U := U.calling g mk a) (Vm.Alike.refl U.vm) qN, fun w h => va_Nw.same (u := U) (U := U.calling g mk a) (ngX11_161_ot w h) rfl (qngX11_161 w h)⟩, fun U hU9 hW => ⟨rfl, by rw [hU9], by rw [hU9]; exact hPc, va_K.moved hW.alike hKc, hDc.weaken (fun _ _ _ _ => trivial), by rw [hU9]; exact ((hU.kept (fun a h1 h2 => hS.2.1 a h1 h2)).narrow hFc).moved hW.alike, by rw [hU9]; exact ((hN.kept (fun a h1 h2 => hS.2.1 a h1 h2)).narrow hFc).moved hW.alike, fun w h => cd_warm (ngX11_161_cd w h) hW (hngX11_161 w h)⟩⟩ rfl rfl hl.1 rfl (lv_room (Nat.le_of_ble_eq_true rfl)) dL_law_925 ⟨by decide +kernel, by decide +kernel⟩) hS (fun q _ h => hFc q h) hFc (fun r925 u t H1 locs ht hvm hw hB hz1 hk1 hS => ?_)
  obtain ⟨go925, hwit925⟩ : ∃ w9, w9 = u := ⟨u, rfl⟩
  subst hwit925
  obtain ⟨hP1, hK1, hD1⟩ := hB
  rw [ht] at hP1
  have hK1 := va_K.moved hvm.symm hK1
  obtain ⟨hP, hD⟩ := va_join (wr := [(h2, .inr (12, fM (vM av)))]) (w1 := [(o, .inl (kO, 1, .inr (.inl go925)))]) hP hD [0, 1, 3] [2] rfl rfl (by decide) (by decide) hk1 hFc hP1 hD1
  generalize H1 = H at hP hS ⊢
  have hP : va_P (dC, dI) vwCl [(h2, .inr (12, fM (vM av))), (o, .inl (kO, 1, .inr (.inl go925)))] H := hP
  have hD : va_D A [(h2, .inr (12, fM (vM av))), (o, .inl (kO, 1, .inr (.inl go925)))] := hD
  refine W.widen (k := 126) (n := 181440) (by decide +kernel) (by decide +kernel) ?_
  obtain rfl := hw
  refine lv_istore (lv' := [(5, .int 1), (4, .int 0), (3, .ref o), (2, .ref h2), (1, .ref h1), (0, .ref b)]) hx hb dL_law_928 hl (by decide) rfl (fun ls hl => ?_)
  refine lv_aload_n hx hb dL_law_930 rfl (lv_at hl 3 rfl) ?_
  have hPc := hP.sub (ws' := [(h2, .inr (12, fM (vM av)))]) [0] rfl
  have hDc := hD.sub (ws' := [(h2, .inr (12, fM (vM av)))]) [0] (by decide) rfl
  have hKc := hK.sub (tys' := []) [] rfl
  have hFc := va_free (wc := [(h2, .inr (12, fM (vM av)))]) hD hS hA [0] rfl
  refine va_calli (va_runV (As := []) (rest := []) ⟨hx, hb, hml, hown, hts⟩ (p_X12_count l dC dI h2 (vM av) (rfl) H.size) (cwV 0 hts glaw13_1 rfl rfl rfl (by decide +kernel) ⟨by decide +kernel, by decide +kernel⟩) ⟨fun a U g mk q => by obtain ⟨q0, q1, qP, qK, qD⟩ := q; exact ⟨q0, q1, qP, va_K.moved (u := U) (U := U.calling g mk a) (Vm.Alike.refl U.vm) qK, qD⟩, va_recv hKc hPc (ci := 12) (q0 := 0) rfl rfl, fun U hU9 hW => ⟨rfl, by rw [hU9], by rw [hU9]; exact hPc, va_K.moved hW.alike hKc, hDc.weaken (fun _ _ _ _ => trivial)⟩⟩ rfl rfl hl.1 rfl (lv_room (Nat.le_of_ble_eq_true rfl)) dL_law_931 ⟨by decide +kernel, by decide +kernel⟩) hS (fun q _ h => hFc q h) hFc (fun r931 u t H1 locs ht hvm hw hB hz1 hk1 hS => ?_)
  obtain ⟨w931, hwit931⟩ : ∃ w9, w9 = u := ⟨u, rfl⟩
  subst hwit931
  obtain ⟨hP1, hK1, hD1⟩ := hB
  rw [ht] at hP1
  have hK1 := va_K.moved hvm.symm hK1
  obtain ⟨hP, hD⟩ := va_join (wr := [(o, .inl (kO, 1, .inr (.inl go925)))]) (w1 := [(h2, .inr (12, fM w931))]) hP hD [0] [1] rfl rfl (by decide) (by decide) hk1 hFc hP1 hD1
  generalize H1 = H at hP hS ⊢
  have hP : va_P (dC, dI) vwCl [(o, .inl (kO, 1, .inr (.inl go925))), (h2, .inr (12, fM w931))] H := hP
  have hD : va_D A [(o, .inl (kO, 1, .inr (.inl go925))), (h2, .inr (12, fM w931))] := hD
  obtain ⟨rfl, f931_0⟩ := hw
  refine lv_istore (lv' := [(6, .int 0), (5, .int 1), (4, .int 0), (3, .ref o), (2, .ref h2), (1, .ref h1), (0, .ref b)]) hx hb dL_law_934 hl (by decide) rfl (fun ls hl => ?_)
  refine lv_aload_n hx hb dL_law_936 rfl (lv_at hl 4 rfl) ?_
  have hPc := hP.sub (ws' := [(h2, .inr (12, fM w931))]) [1] rfl
  have hDc := hD.sub (ws' := [(h2, .inr (12, fM w931))]) [1] (by decide) rfl
  have hKc := hK.sub (tys' := []) [] rfl
  have hFc := va_free (wc := [(h2, .inr (12, fM w931))]) hD hS hA [1] rfl
  refine va_calli (va_runV (As := []) (rest := []) ⟨hx, hb, hml, hown, hts⟩ (p_X12_thrown l dC dI h2 w931 1 (f931_0) H.size) (cwV 0 hts glaw13_2 rfl rfl rfl (by decide +kernel) ⟨by decide +kernel, by decide +kernel⟩) ⟨fun a U g mk q => by obtain ⟨q0, q1, qP, qK, qD⟩ := q; exact ⟨q0, q1, qP, va_K.moved (u := U) (U := U.calling g mk a) (Vm.Alike.refl U.vm) qK, qD⟩, va_recv hKc hPc (ci := 12) (q0 := 0) rfl rfl, fun U hU9 hW => ⟨rfl, by rw [hU9], by rw [hU9]; exact hPc, va_K.moved hW.alike hKc, hDc.weaken (fun _ _ _ _ => trivial)⟩⟩ rfl rfl hl.1 rfl (lv_room (Nat.le_of_ble_eq_true rfl)) dL_law_937 ⟨by decide +kernel, by decide +kernel⟩) hS (fun q _ h => hFc q h) hFc (fun r937 u t H1 locs ht hvm hw hB hz1 hk1 hS => ?_)
  obtain ⟨hP1, hK1, hD1⟩ := hB
  rw [ht] at hP1
  have hK1 := va_K.moved hvm.symm hK1
  obtain ⟨hP, hD⟩ := va_join (wr := [(o, .inl (kO, 1, .inr (.inl go925)))]) (w1 := []) hP hD [1] [0] rfl rfl (by decide) (by decide) hk1 hFc hP1 hD1
  generalize H1 = H at hP hS ⊢
  have hP : va_P (dC, dI) vwCl [(o, .inl (kO, 1, .inr (.inl go925)))] H := hP
  have hD : va_D A [(o, .inl (kO, 1, .inr (.inl go925)))] := hD
  obtain rfl := hw
  refine lv_iload hx hb dL_law_940 (lv_at hl 1 rfl) ?_
  refine lv_icmp_eq (tgt := 947) hx hb dL_law_942 (by decide) (fun _ => ?_) (fun c9 => absurd (by decide) c9)
  refine lv_iload hx hb dL_law_947 (lv_at hl 1 rfl) ?_
  refine lv_if_ne (tgt := 964) hx hb dL_law_949 (by decide) (fun _ => ?_) (fun c9 => absurd c9 (by decide))
  refine lv_goto (tgt := 2131) hx hb dL_law_964 (by decide) ?_
  refine lv_iinc (v := 6) (lv' := [(4, .int 6), (6, .int 0), (5, .int 1), (3, .ref o), (2, .ref h2), (1, .ref h1), (0, .ref b)]) hx hb dL_law_2131 hl (k := 2) rfl (by decide) (by decide) rfl (fun ls hl => ?_)
  refine lv_goto (tgt := 23) hx hb dL_law_2134 (by decide) ?_
  refine lv_iload hx hb dL_law_23 (lv_at hl 0 rfl) ?_
  refine lv_aload_n hx hb dL_law_25 rfl (lv_at hl 6 rfl) ?_
  refine va_slen hx hb hX hbl hbA hS dL_law_26 ?_
  refine lv_topi (fun y1 hy1 => ?_)
  obtain rfl : 6 = y1 := (hy1.trans (rfl)).symm
  refine lv_bipush (v := 6) hx hb dL_law_27 (by decide) ?_
  refine lv_isub hx hb dL_law_29 ?_
  refine lv_topi (fun y2 hy2 => ?_)
  obtain rfl : 0 = y2 := (hy2.trans (by decide)).symm
  refine lv_icmp_gt (tgt := 2137) hx hb dL_law_30 (by decide) (fun _ => ?_) (fun c9 => absurd (by decide) c9)
  refine lv_iconst (v := 1) hx hb dL_law_2137 (by decide) ?_
  refine W.widen (k := 600002) (n := 7302232) (by decide +kernel) (by decide +kernel) ?_
  refine va_forget (fun q hq => hA2 _ (hS.2.2 q hq)) ?_
  exact lw_ret hx hb hr hlocks dL_law_2138
theorem dL_law_967 : decode cL_law 967 = .ok (.aload_n 1, 1) := by decide +kernel
theorem dL_law_968 : decode cL_law 968 = .ok (.aload_n 0, 1) := by decide +kernel
theorem dL_law_969 : decode cL_law 969 = .ok (.iload 4, 2) := by decide +kernel
theorem dL_law_971 : decode cL_law 971 = .ok (.iconst 1, 1) := by decide +kernel
theorem dL_law_972 : decode cL_law 972 = .ok (.iadd, 1) := by decide +kernel
theorem dL_law_973 : decode cL_law 973 = .ok (.iaload, 1) := by decide +kernel
theorem dL_law_974 : decode cL_law 974 = .ok (.aload_n 0, 1) := by decide +kernel
theorem dL_law_975 : decode cL_law 975 = .ok (.iload 4, 2) := by decide +kernel
theorem dL_law_977 : decode cL_law 977 = .ok (.iconst 2, 1) := by decide +kernel
theorem dL_law_978 : decode cL_law 978 = .ok (.iadd, 1) := by decide +kernel
theorem dL_law_979 : decode cL_law 979 = .ok (.iaload, 1) := by decide +kernel
theorem dL_law_980 : decode cL_law 980 = .ok (.aload_n 3, 1) := by decide +kernel
theorem dL_law_981 : decode cL_law 981 = .ok (.invokestatic 150, 3) := by decide +kernel
theorem dL_law_984 : decode cL_law 984 = .ok (.istore 5, 2) := by decide +kernel
theorem dL_law_986 : decode cL_law 986 = .ok (.aload_n 2, 1) := by decide +kernel
theorem dL_law_987 : decode cL_law 987 = .ok (.aload_n 0, 1) := by decide +kernel
theorem dL_law_988 : decode cL_law 988 = .ok (.iload 4, 2) := by decide +kernel
theorem dL_law_990 : decode cL_law 990 = .ok (.iconst 1, 1) := by decide +kernel
theorem dL_law_991 : decode cL_law 991 = .ok (.iadd, 1) := by decide +kernel
theorem dL_law_992 : decode cL_law 992 = .ok (.iaload, 1) := by decide +kernel
theorem dL_law_993 : decode cL_law 993 = .ok (.aload_n 0, 1) := by decide +kernel
theorem dL_law_994 : decode cL_law 994 = .ok (.iload 4, 2) := by decide +kernel
theorem dL_law_996 : decode cL_law 996 = .ok (.iconst 2, 1) := by decide +kernel
theorem dL_law_997 : decode cL_law 997 = .ok (.iadd, 1) := by decide +kernel
theorem dL_law_998 : decode cL_law 998 = .ok (.iaload, 1) := by decide +kernel
theorem dL_law_999 : decode cL_law 999 = .ok (.invokevirtual 152, 3) := by decide +kernel
theorem dL_law_1002 : decode cL_law 1002 = .ok (.istore 6, 2) := by decide +kernel
theorem dL_law_1004 : decode cL_law 1004 = .ok (.aload_n 2, 1) := by decide +kernel
theorem dL_law_1005 : decode cL_law 1005 = .ok (.invokevirtual 111, 3) := by decide +kernel
theorem dL_law_1008 : decode cL_law 1008 = .ok (.iload 5, 2) := by decide +kernel
theorem dL_law_1010 : decode cL_law 1010 = .ok (.if_icmp .eq 5, 3) := by decide +kernel
theorem dL_law_1015 : decode cL_law 1015 = .ok (.iload 5, 2) := by decide +kernel
theorem dL_law_1017 : decode cL_law 1017 = .ok (.ifCond .ne 15, 3) := by decide +kernel
theorem dL_law_1032 : decode cL_law 1032 = .ok (.goto 1099, 3) := by decide +kernel
theorem glaw14_0 : GoodIn lw_tbl (va_wsS RL 150 yL_counted wsPL_counted) := goodIn_sub ((List.forall_mem_append.mpr ⟨(mem_p ([.methodLink RL 150 yL_counted, .static yL_counted, .initialized "OptimaWorksLaw"] : List Cond) [(9, 8), (9, 9), (1, 0)] (by decide +kernel)), ml_wsPL_counted⟩ : ∀ w ∈ va_wsS RL 150 yL_counted wsPL_counted, w ∈ lw_tbl)) (by decide +kernel)
theorem glaw14_1 : GoodIn lw_tbl (wsV RL 152 RX12 yX12_counted wsPX12_counted) := goodIn_sub ((List.forall_mem_append.mpr ⟨(mem_p ([.methodLink RL 152 yX12_counted, .instanceMethod yX12_counted, .selects RX12 yX12_counted yX12_counted, .initialized RX12] : List Cond) [(14, 171), (14, 172), (14, 173), (1, 4)] (by decide +kernel)), ml_wsPX12_counted⟩ : ∀ w ∈ wsV RL 152 RX12 yX12_counted wsPX12_counted, w ∈ lw_tbl)) (by decide +kernel)
theorem glaw14_2 : GoodIn lw_tbl (wsV RL 111 RX12 yX12_thrown wsPX12_thrown) := goodIn_sub ((List.forall_mem_append.mpr ⟨(mem_p ([.methodLink RL 111 yX12_thrown, .instanceMethod yX12_thrown, .selects RX12 yX12_thrown yX12_thrown, .initialized RX12] : List Cond) [(12, 139), (12, 140), (12, 141), (1, 4)] (by decide +kernel)), ml_wsPX12_thrown⟩ : ∀ w ∈ wsV RL 111 RX12 yX12_thrown wsPX12_thrown, w ∈ lw_tbl)) (by decide +kernel)
set_option maxHeartbeats 4000000 in
set_option maxRecDepth 100000 in
/-- the law's case 14: counted -/
theorem lc_14 {p : Program} {e : Env} {s : State} {m : MethodId} {below : List Frame} {meth : Method} {c : Code} (l : Launch) (hst : l.stackTraces = false) {b : Nat} {xs : Nat → Int32} (C0 : lw_At p s m meth c b 6 xs) {A : Nat → Prop} (hA : ∀ q : Nat, s.heap.size ≤ q → A q) (hA2 : ∀ q : Nat, A q → s.heap.size ≤ q) (X0 : lx_ok A s) (dC : Nat → ClassId) (dI : Nat → Nat → Nat) {h1 h2 o : Nat} {a : Nat → Nat} {k : Nat → ClassId} {av : Nat → Nat} {kv : Nat → ClassId} {kO : ClassId} {H : Heap} {locs : List Loc} {ls : Array Slot} (hK : va_K (dC, dI) vwCl [(kO, .long)] s) (hP : va_P (dC, dI) vwCl [(h1, .inr (11, [.ref (a 0), .ref (a 1), .ref (a 3), .ref (a 14), .int 0, .null, .null, .null, .null, .null, .null])), ((a 3), .inr (1, [.int 0, .int 0, .int 0, .int 0, .int 0, .int 0, .ref (a 4), .ref (a 5), .ref (a 6), .ref (a 7), .int 0, .ref (a 8), .ref (a 9), .ref (a 10), .ref (a 11), .ref (a 12), .ref (a 13)])), (h2, .inr (12, fM (vM av))), (o, .inl (kO, 1, .inr (.inl (fun _ => 0))))] H) (hD : va_D A [(h1, .inr (11, [.ref (a 0), .ref (a 1), .ref (a 3), .ref (a 14), .int 0, .null, .null, .null, .null, .null, .null])), ((a 3), .inr (1, [.int 0, .int 0, .int 0, .int 0, .int 0, .int 0, .ref (a 4), .ref (a 5), .ref (a 6), .ref (a 7), .int 0, .ref (a 8), .ref (a 9), .ref (a 10), .ref (a 11), .ref (a 12), .ref (a 13)])), (h2, .inr (12, fM (vM av))), (o, .inl (kO, 1, .inr (.inl (fun _ => 0))))]) (hS : va_S A s.heap H locs) (hl : lv_has ls 7 [(4, .int 0), (3, .ref o), (2, .ref h2), (1, .ref h1), (0, .ref b)]) : W p l e room_1 s m #[Value.ref b] below meth c H locs 125 181434 (lw_Z below #[Value.ref b] s) (F0 m 967 ls []) := by
  obtain ⟨hx, hb, hr, hml, hown, hts, hX, hbl, hlocks, hgv⟩ := id C0
  have hb : c.code = cL_law := hb
  have hown : s.vm.findClass RL = some m.cls := hown
  obtain ⟨hU, hN, hnX11_343, hnX11_392, hnX11_421, hncAI, hngX11_161, hngX11_79, hngX11_95⟩ := X0
  have hbA : ¬ A b := fun h => absurd (hA2 b h) (Nat.not_le.mpr hbl)
  refine lv_aload_n hx hb dL_law_967 rfl (lv_at hl 3 rfl) ?_
  refine lv_aload_n hx hb dL_law_968 rfl (lv_at hl 4 rfl) ?_
  refine lv_iload hx hb dL_law_969 (lv_at hl 0 rfl) ?_
  refine lv_iconst (v := 1) hx hb dL_law_971 (by decide) ?_
  refine lv_iadd hx hb dL_law_972 ?_
  refine lv_topi (fun y1 hy1 => ?_)
  obtain rfl : 1 = y1 := (hy1.trans (by decide)).symm
  refine va_sld hx hb hX hbl hbA hS (show ¬ ((1 : Int32) < 0 ∨ 6 ≤ (1 : Int32).toNatClampNeg) by decide) dL_law_973 ?_
  refine lv_topi (fun y2 hy2 => ?_)
  obtain rfl : (xs 1) = y2 := (hy2.trans (rfl)).symm
  refine lv_aload_n hx hb dL_law_974 rfl (lv_at hl 4 rfl) ?_
  refine lv_iload hx hb dL_law_975 (lv_at hl 0 rfl) ?_
  refine lv_iconst (v := 2) hx hb dL_law_977 (by decide) ?_
  refine lv_iadd hx hb dL_law_978 ?_
  refine lv_topi (fun y3 hy3 => ?_)
  obtain rfl : 2 = y3 := (hy3.trans (by decide)).symm
  refine va_sld hx hb hX hbl hbA hS (show ¬ ((2 : Int32) < 0 ∨ 6 ≤ (2 : Int32).toNatClampNeg) by decide) dL_law_979 ?_
  refine lv_topi (fun y4 hy4 => ?_)
  obtain rfl : (xs 2) = y4 := (hy4.trans (rfl)).symm
  refine lv_aload_n hx hb dL_law_980 rfl (lv_at hl 1 rfl) ?_
  have hPc := hP.sub (ws' := [(h1, .inr (11, [.ref (a 0), .ref (a 1), .ref (a 3), .ref (a 14), .int 0, .null, .null, .null, .null, .null, .null])), ((a 3), .inr (1, [.int 0, .int 0, .int 0, .int 0, .int 0, .int 0, .ref (a 4), .ref (a 5), .ref (a 6), .ref (a 7), .int 0, .ref (a 8), .ref (a 9), .ref (a 10), .ref (a 11), .ref (a 12), .ref (a 13)])), (o, .inl (kO, 1, .inr (.inl (fun _ => 0))))]) [0, 1, 3] rfl
  have hDc := hD.sub (ws' := [(h1, .inr (11, [.ref (a 0), .ref (a 1), .ref (a 3), .ref (a 14), .int 0, .null, .null, .null, .null, .null, .null])), ((a 3), .inr (1, [.int 0, .int 0, .int 0, .int 0, .int 0, .int 0, .ref (a 4), .ref (a 5), .ref (a 6), .ref (a 7), .int 0, .ref (a 8), .ref (a 9), .ref (a 10), .ref (a 11), .ref (a 12), .ref (a 13)])), (o, .inl (kO, 1, .inr (.inl (fun _ => 0))))]) [0, 1, 3] (by decide) rfl
  have hKc := hK.sub (tys' := [(kO, .long)]) [0] rfl
  have hFc := va_free (wc := [(h1, .inr (11, [.ref (a 0), .ref (a 1), .ref (a 3), .ref (a 14), .int 0, .null, .null, .null, .null, .null, .null])), ((a 3), .inr (1, [.int 0, .int 0, .int 0, .int 0, .int 0, .int 0, .ref (a 4), .ref (a 5), .ref (a 6), .ref (a 7), .int 0, .ref (a 8), .ref (a 9), .ref (a 10), .ref (a 11), .ref (a 12), .ref (a 13)])), (o, .inl (kO, 1, .inr (.inl (fun _ => 0))))]) hD hS hA [0, 1, 3] rfl
  refine va_calli (vx_runSW (As := [.ref h1, .int (xs 1), .int (xs 2), .ref o]) (rest := []) ⟨hx, hb, hml, hown, hts⟩ (p_L_counted l hst dC dI h1 a o kO (xs 1) (xs 2) H.size) (vx_cwSW 4 hts glaw14_0 rfl rfl rfl (by decide +kernel) ⟨by decide +kernel, by decide +kernel⟩) ⟨fun a U g mk q => by obtain ⟨q0, q1, qP, qK, qD, qU, qN, qngX11_161⟩ := q; exact ⟨q0, q1, qP, va_K.moved (u := U) (U := U.calling g mk a) (Vm.Alike.refl U.vm) qK, qD, vx_Zq.moved (u := U) (U := U.calling g mk a) (Vm.Alike.refl U.vm) qU, vx_Zq.moved (u := U) (U := U.calling g mk a) (Vm.Alike.refl U.vm) qN, fun w h => va_Nw.same (u := U) (U := U.calling g mk a) (ngX11_161_ot w h) rfl (qngX11_161 w h)⟩, fun U hU9 hW => ⟨rfl, by rw [hU9], by rw [hU9]; exact hPc, va_K.moved hW.alike hKc, hDc.weaken (fun _ _ _ _ => trivial), by rw [hU9]; exact ((hU.kept (fun a h1 h2 => hS.2.1 a h1 h2)).narrow hFc).moved hW.alike, by rw [hU9]; exact ((hN.kept (fun a h1 h2 => hS.2.1 a h1 h2)).narrow hFc).moved hW.alike, fun w h => cd_warm (ngX11_161_cd w h) hW (hngX11_161 w h)⟩⟩ rfl rfl hl.1 rfl (lv_room (Nat.le_of_ble_eq_true rfl)) dL_law_981 ⟨by decide +kernel, by decide +kernel⟩) hS (fun q _ h => hFc q h) hFc (fun r981 u t H1 locs ht hvm hw hB hz1 hk1 hS => ?_)
  obtain ⟨go981, hwit981⟩ : ∃ w9, w9 = u := ⟨u, rfl⟩
  subst hwit981
  obtain ⟨hP1, hK1, hD1⟩ := hB
  rw [ht] at hP1
  have hK1 := va_K.moved hvm.symm hK1
  obtain ⟨hP, hD⟩ := va_join (wr := [(h2, .inr (12, fM (vM av)))]) (w1 := [(o, .inl (kO, 1, .inr (.inl go981)))]) hP hD [0, 1, 3] [2] rfl rfl (by decide) (by decide) hk1 hFc hP1 hD1
  generalize H1 = H at hP hS ⊢
  have hP : va_P (dC, dI) vwCl [(h2, .inr (12, fM (vM av))), (o, .inl (kO, 1, .inr (.inl go981)))] H := hP
  have hD : va_D A [(h2, .inr (12, fM (vM av))), (o, .inl (kO, 1, .inr (.inl go981)))] := hD
  refine W.widen (k := 126) (n := 181440) (by decide +kernel) (by decide +kernel) ?_
  obtain rfl := hw
  refine lv_istore (lv' := [(5, .int 1), (4, .int 0), (3, .ref o), (2, .ref h2), (1, .ref h1), (0, .ref b)]) hx hb dL_law_984 hl (by decide) rfl (fun ls hl => ?_)
  refine lv_aload_n hx hb dL_law_986 rfl (lv_at hl 3 rfl) ?_
  refine lv_aload_n hx hb dL_law_987 rfl (lv_at hl 5 rfl) ?_
  refine lv_iload hx hb dL_law_988 (lv_at hl 1 rfl) ?_
  refine lv_iconst (v := 1) hx hb dL_law_990 (by decide) ?_
  refine lv_iadd hx hb dL_law_991 ?_
  refine lv_topi (fun y5 hy5 => ?_)
  obtain rfl : 1 = y5 := (hy5.trans (by decide)).symm
  refine va_sld hx hb hX hbl hbA hS (show ¬ ((1 : Int32) < 0 ∨ 6 ≤ (1 : Int32).toNatClampNeg) by decide) dL_law_992 ?_
  refine lv_topi (fun y6 hy6 => ?_)
  obtain rfl : (xs 1) = y6 := (hy6.trans (rfl)).symm
  refine lv_aload_n hx hb dL_law_993 rfl (lv_at hl 5 rfl) ?_
  refine lv_iload hx hb dL_law_994 (lv_at hl 1 rfl) ?_
  refine lv_iconst (v := 2) hx hb dL_law_996 (by decide) ?_
  refine lv_iadd hx hb dL_law_997 ?_
  refine lv_topi (fun y7 hy7 => ?_)
  obtain rfl : 2 = y7 := (hy7.trans (by decide)).symm
  refine va_sld hx hb hX hbl hbA hS (show ¬ ((2 : Int32) < 0 ∨ 6 ≤ (2 : Int32).toNatClampNeg) by decide) dL_law_998 ?_
  refine lv_topi (fun y8 hy8 => ?_)
  obtain rfl : (xs 2) = y8 := (hy8.trans (rfl)).symm
  have hPc := hP.sub (ws' := [(h2, .inr (12, fM (vM av)))]) [0] rfl
  have hDc := hD.sub (ws' := [(h2, .inr (12, fM (vM av)))]) [0] (by decide) rfl
  have hKc := hK.sub (tys' := []) [] rfl
  have hFc := va_free (wc := [(h2, .inr (12, fM (vM av)))]) hD hS hA [0] rfl
  refine va_calli (va_runV (As := [.int (xs 1), .int (xs 2)]) (rest := []) ⟨hx, hb, hml, hown, hts⟩ (p_X12_counted l dC dI h2 (vM av) (rfl) (xs 1) (xs 2) H.size) (cwV 2 hts glaw14_1 rfl rfl rfl (by decide +kernel) ⟨by decide +kernel, by decide +kernel⟩) ⟨fun a U g mk q => by obtain ⟨q0, q1, qP, qK, qD⟩ := q; exact ⟨q0, q1, qP, va_K.moved (u := U) (U := U.calling g mk a) (Vm.Alike.refl U.vm) qK, qD⟩, va_recv hKc hPc (ci := 12) (q0 := 0) rfl rfl, fun U hU9 hW => ⟨rfl, by rw [hU9], by rw [hU9]; exact hPc, va_K.moved hW.alike hKc, hDc.weaken (fun _ _ _ _ => trivial)⟩⟩ rfl rfl hl.1 rfl (lv_room (Nat.le_of_ble_eq_true rfl)) dL_law_999 ⟨by decide +kernel, by decide +kernel⟩) hS (fun q _ h => hFc q h) hFc (fun r999 u t H1 locs ht hvm hw hB hz1 hk1 hS => ?_)
  obtain ⟨w999, hwit999⟩ : ∃ w9, w9 = u := ⟨u, rfl⟩
  subst hwit999
  obtain ⟨hP1, hK1, hD1⟩ := hB
  rw [ht] at hP1
  have hK1 := va_K.moved hvm.symm hK1
  obtain ⟨hP, hD⟩ := va_join (wr := [(o, .inl (kO, 1, .inr (.inl go981)))]) (w1 := [(h2, .inr (12, fM w999))]) hP hD [0] [1] rfl rfl (by decide) (by decide) hk1 hFc hP1 hD1
  generalize H1 = H at hP hS ⊢
  have hP : va_P (dC, dI) vwCl [(o, .inl (kO, 1, .inr (.inl go981))), (h2, .inr (12, fM w999))] H := hP
  have hD : va_D A [(o, .inl (kO, 1, .inr (.inl go981))), (h2, .inr (12, fM w999))] := hD
  obtain ⟨rfl, f999_0⟩ := hw
  refine lv_istore (lv' := [(6, .int 0), (5, .int 1), (4, .int 0), (3, .ref o), (2, .ref h2), (1, .ref h1), (0, .ref b)]) hx hb dL_law_1002 hl (by decide) rfl (fun ls hl => ?_)
  refine lv_aload_n hx hb dL_law_1004 rfl (lv_at hl 4 rfl) ?_
  have hPc := hP.sub (ws' := [(h2, .inr (12, fM w999))]) [1] rfl
  have hDc := hD.sub (ws' := [(h2, .inr (12, fM w999))]) [1] (by decide) rfl
  have hKc := hK.sub (tys' := []) [] rfl
  have hFc := va_free (wc := [(h2, .inr (12, fM w999))]) hD hS hA [1] rfl
  refine va_calli (va_runV (As := []) (rest := []) ⟨hx, hb, hml, hown, hts⟩ (p_X12_thrown l dC dI h2 w999 1 (f999_0) H.size) (cwV 0 hts glaw14_2 rfl rfl rfl (by decide +kernel) ⟨by decide +kernel, by decide +kernel⟩) ⟨fun a U g mk q => by obtain ⟨q0, q1, qP, qK, qD⟩ := q; exact ⟨q0, q1, qP, va_K.moved (u := U) (U := U.calling g mk a) (Vm.Alike.refl U.vm) qK, qD⟩, va_recv hKc hPc (ci := 12) (q0 := 0) rfl rfl, fun U hU9 hW => ⟨rfl, by rw [hU9], by rw [hU9]; exact hPc, va_K.moved hW.alike hKc, hDc.weaken (fun _ _ _ _ => trivial)⟩⟩ rfl rfl hl.1 rfl (lv_room (Nat.le_of_ble_eq_true rfl)) dL_law_1005 ⟨by decide +kernel, by decide +kernel⟩) hS (fun q _ h => hFc q h) hFc (fun r1005 u t H1 locs ht hvm hw hB hz1 hk1 hS => ?_)
  obtain ⟨hP1, hK1, hD1⟩ := hB
  rw [ht] at hP1
  have hK1 := va_K.moved hvm.symm hK1
  obtain ⟨hP, hD⟩ := va_join (wr := [(o, .inl (kO, 1, .inr (.inl go981)))]) (w1 := []) hP hD [1] [0] rfl rfl (by decide) (by decide) hk1 hFc hP1 hD1
  generalize H1 = H at hP hS ⊢
  have hP : va_P (dC, dI) vwCl [(o, .inl (kO, 1, .inr (.inl go981)))] H := hP
  have hD : va_D A [(o, .inl (kO, 1, .inr (.inl go981)))] := hD
  obtain rfl := hw
  refine lv_iload hx hb dL_law_1008 (lv_at hl 1 rfl) ?_
  refine lv_icmp_eq (tgt := 1015) hx hb dL_law_1010 (by decide) (fun _ => ?_) (fun c9 => absurd (by decide) c9)
  refine lv_iload hx hb dL_law_1015 (lv_at hl 1 rfl) ?_
  refine lv_if_ne (tgt := 1032) hx hb dL_law_1017 (by decide) (fun _ => ?_) (fun c9 => absurd c9 (by decide))
  refine lv_goto (tgt := 2131) hx hb dL_law_1032 (by decide) ?_
  refine lv_iinc (v := 6) (lv' := [(4, .int 6), (6, .int 0), (5, .int 1), (3, .ref o), (2, .ref h2), (1, .ref h1), (0, .ref b)]) hx hb dL_law_2131 hl (k := 2) rfl (by decide) (by decide) rfl (fun ls hl => ?_)
  refine lv_goto (tgt := 23) hx hb dL_law_2134 (by decide) ?_
  refine lv_iload hx hb dL_law_23 (lv_at hl 0 rfl) ?_
  refine lv_aload_n hx hb dL_law_25 rfl (lv_at hl 6 rfl) ?_
  refine va_slen hx hb hX hbl hbA hS dL_law_26 ?_
  refine lv_topi (fun y9 hy9 => ?_)
  obtain rfl : 6 = y9 := (hy9.trans (rfl)).symm
  refine lv_bipush (v := 6) hx hb dL_law_27 (by decide) ?_
  refine lv_isub hx hb dL_law_29 ?_
  refine lv_topi (fun y10 hy10 => ?_)
  obtain rfl : 0 = y10 := (hy10.trans (by decide)).symm
  refine lv_icmp_gt (tgt := 2137) hx hb dL_law_30 (by decide) (fun _ => ?_) (fun c9 => absurd (by decide) c9)
  refine lv_iconst (v := 1) hx hb dL_law_2137 (by decide) ?_
  refine W.widen (k := 600002) (n := 7302232) (by decide +kernel) (by decide +kernel) ?_
  refine va_forget (fun q hq => hA2 _ (hS.2.2 q hq)) ?_
  exact lw_ret hx hb hr hlocks dL_law_2138
theorem dL_law_1035 : decode cL_law 1035 = .ok (.aload_n 1, 1) := by decide +kernel
theorem dL_law_1036 : decode cL_law 1036 = .ok (.aload_n 3, 1) := by decide +kernel
theorem dL_law_1037 : decode cL_law 1037 = .ok (.invokestatic 153, 3) := by decide +kernel
theorem dL_law_1040 : decode cL_law 1040 = .ok (.istore 5, 2) := by decide +kernel
theorem dL_law_1042 : decode cL_law 1042 = .ok (.aload_n 2, 1) := by decide +kernel
theorem dL_law_1043 : decode cL_law 1043 = .ok (.invokevirtual 155, 3) := by decide +kernel
theorem dL_law_1046 : decode cL_law 1046 = .ok (.istore 6, 2) := by decide +kernel
theorem dL_law_1048 : decode cL_law 1048 = .ok (.aload_n 2, 1) := by decide +kernel
theorem dL_law_1049 : decode cL_law 1049 = .ok (.invokevirtual 111, 3) := by decide +kernel
theorem dL_law_1052 : decode cL_law 1052 = .ok (.iload 5, 2) := by decide +kernel
theorem dL_law_1054 : decode cL_law 1054 = .ok (.if_icmp .eq 5, 3) := by decide +kernel
theorem dL_law_1059 : decode cL_law 1059 = .ok (.iload 5, 2) := by decide +kernel
theorem dL_law_1061 : decode cL_law 1061 = .ok (.ifCond .ne 15, 3) := by decide +kernel
theorem dL_law_1076 : decode cL_law 1076 = .ok (.goto 1055, 3) := by decide +kernel
theorem glaw15_0 : GoodIn lw_tbl (va_wsS RL 153 yL_prove wsPL_prove) := goodIn_sub ((List.forall_mem_append.mpr ⟨(mem_p ([.methodLink RL 153 yL_prove, .static yL_prove, .initialized "OptimaWorksLaw"] : List Cond) [(9, 19), (9, 20), (1, 0)] (by decide +kernel)), ml_wsPL_prove⟩ : ∀ w ∈ va_wsS RL 153 yL_prove wsPL_prove, w ∈ lw_tbl)) (by decide +kernel)
theorem glaw15_1 : GoodIn lw_tbl (wsV RL 155 RX12 yX12_prove wsPX12_prove) := goodIn_sub ((List.forall_mem_append.mpr ⟨(mem_p ([.methodLink RL 155 yX12_prove, .instanceMethod yX12_prove, .selects RX12 yX12_prove yX12_prove, .initialized RX12] : List Cond) [(14, 175), (14, 176), (14, 177), (1, 4)] (by decide +kernel)), ml_wsPX12_prove⟩ : ∀ w ∈ wsV RL 155 RX12 yX12_prove wsPX12_prove, w ∈ lw_tbl)) (by decide +kernel)
theorem glaw15_2 : GoodIn lw_tbl (wsV RL 111 RX12 yX12_thrown wsPX12_thrown) := goodIn_sub ((List.forall_mem_append.mpr ⟨(mem_p ([.methodLink RL 111 yX12_thrown, .instanceMethod yX12_thrown, .selects RX12 yX12_thrown yX12_thrown, .initialized RX12] : List Cond) [(12, 139), (12, 140), (12, 141), (1, 4)] (by decide +kernel)), ml_wsPX12_thrown⟩ : ∀ w ∈ wsV RL 111 RX12 yX12_thrown wsPX12_thrown, w ∈ lw_tbl)) (by decide +kernel)
set_option maxHeartbeats 4000000 in
set_option maxRecDepth 100000 in
/-- the law's case 15: prove -/
theorem lc_15 {p : Program} {e : Env} {s : State} {m : MethodId} {below : List Frame} {meth : Method} {c : Code} (l : Launch) (hst : l.stackTraces = false) {b : Nat} {xs : Nat → Int32} (C0 : lw_At p s m meth c b 6 xs) {A : Nat → Prop} (hA : ∀ q : Nat, s.heap.size ≤ q → A q) (hA2 : ∀ q : Nat, A q → s.heap.size ≤ q) (X0 : lx_ok A s) (dC : Nat → ClassId) (dI : Nat → Nat → Nat) {h1 h2 o : Nat} {a : Nat → Nat} {k : Nat → ClassId} {av : Nat → Nat} {kv : Nat → ClassId} {kO : ClassId} {H : Heap} {locs : List Loc} {ls : Array Slot} (hK : va_K (dC, dI) vwCl [(kO, .long)] s) (hP : va_P (dC, dI) vwCl [(h1, .inr (11, [.ref (a 0), .ref (a 1), .ref (a 3), .ref (a 14), .int 0, .null, .null, .null, .null, .null, .null])), ((a 3), .inr (1, [.int 0, .int 0, .int 0, .int 0, .int 0, .int 0, .ref (a 4), .ref (a 5), .ref (a 6), .ref (a 7), .int 0, .ref (a 8), .ref (a 9), .ref (a 10), .ref (a 11), .ref (a 12), .ref (a 13)])), (h2, .inr (12, fM (vM av))), (o, .inl (kO, 1, .inr (.inl (fun _ => 0))))] H) (hD : va_D A [(h1, .inr (11, [.ref (a 0), .ref (a 1), .ref (a 3), .ref (a 14), .int 0, .null, .null, .null, .null, .null, .null])), ((a 3), .inr (1, [.int 0, .int 0, .int 0, .int 0, .int 0, .int 0, .ref (a 4), .ref (a 5), .ref (a 6), .ref (a 7), .int 0, .ref (a 8), .ref (a 9), .ref (a 10), .ref (a 11), .ref (a 12), .ref (a 13)])), (h2, .inr (12, fM (vM av))), (o, .inl (kO, 1, .inr (.inl (fun _ => 0))))]) (hS : va_S A s.heap H locs) (hl : lv_has ls 7 [(4, .int 0), (3, .ref o), (2, .ref h2), (1, .ref h1), (0, .ref b)]) : W p l e room_1 s m #[Value.ref b] below meth c H locs 125 181434 (lw_Z below #[Value.ref b] s) (F0 m 1035 ls []) := by
  obtain ⟨hx, hb, hr, hml, hown, hts, hX, hbl, hlocks, hgv⟩ := id C0
  have hb : c.code = cL_law := hb
  have hown : s.vm.findClass RL = some m.cls := hown
  obtain ⟨hU, hN, hnX11_343, hnX11_392, hnX11_421, hncAI, hngX11_161, hngX11_79, hngX11_95⟩ := X0
  have hbA : ¬ A b := fun h => absurd (hA2 b h) (Nat.not_le.mpr hbl)
  refine lv_aload_n hx hb dL_law_1035 rfl (lv_at hl 3 rfl) ?_
  refine lv_aload_n hx hb dL_law_1036 rfl (lv_at hl 1 rfl) ?_
  have hPc := hP.sub (ws' := [(h1, .inr (11, [.ref (a 0), .ref (a 1), .ref (a 3), .ref (a 14), .int 0, .null, .null, .null, .null, .null, .null])), ((a 3), .inr (1, [.int 0, .int 0, .int 0, .int 0, .int 0, .int 0, .ref (a 4), .ref (a 5), .ref (a 6), .ref (a 7), .int 0, .ref (a 8), .ref (a 9), .ref (a 10), .ref (a 11), .ref (a 12), .ref (a 13)])), (o, .inl (kO, 1, .inr (.inl (fun _ => 0))))]) [0, 1, 3] rfl
  have hDc := hD.sub (ws' := [(h1, .inr (11, [.ref (a 0), .ref (a 1), .ref (a 3), .ref (a 14), .int 0, .null, .null, .null, .null, .null, .null])), ((a 3), .inr (1, [.int 0, .int 0, .int 0, .int 0, .int 0, .int 0, .ref (a 4), .ref (a 5), .ref (a 6), .ref (a 7), .int 0, .ref (a 8), .ref (a 9), .ref (a 10), .ref (a 11), .ref (a 12), .ref (a 13)])), (o, .inl (kO, 1, .inr (.inl (fun _ => 0))))]) [0, 1, 3] (by decide) rfl
  have hKc := hK.sub (tys' := [(kO, .long)]) [0] rfl
  have hFc := va_free (wc := [(h1, .inr (11, [.ref (a 0), .ref (a 1), .ref (a 3), .ref (a 14), .int 0, .null, .null, .null, .null, .null, .null])), ((a 3), .inr (1, [.int 0, .int 0, .int 0, .int 0, .int 0, .int 0, .ref (a 4), .ref (a 5), .ref (a 6), .ref (a 7), .int 0, .ref (a 8), .ref (a 9), .ref (a 10), .ref (a 11), .ref (a 12), .ref (a 13)])), (o, .inl (kO, 1, .inr (.inl (fun _ => 0))))]) hD hS hA [0, 1, 3] rfl
  refine va_calli (vx_runSW (As := [.ref h1, .ref o]) (rest := []) ⟨hx, hb, hml, hown, hts⟩ (p_L_prove l hst dC dI h1 a o kO H.size) (vx_cwSW 2 hts glaw15_0 rfl rfl rfl (by decide +kernel) ⟨by decide +kernel, by decide +kernel⟩) ⟨fun a U g mk q => by obtain ⟨q0, q1, qP, qK, qD, qU, qN, qngX11_161⟩ := q; exact ⟨q0, q1, qP, va_K.moved (u := U) (U := U.calling g mk a) (Vm.Alike.refl U.vm) qK, qD, vx_Zq.moved (u := U) (U := U.calling g mk a) (Vm.Alike.refl U.vm) qU, vx_Zq.moved (u := U) (U := U.calling g mk a) (Vm.Alike.refl U.vm) qN, fun w h => va_Nw.same (u := U) (U := U.calling g mk a) (ngX11_161_ot w h) rfl (qngX11_161 w h)⟩, fun U hU9 hW => ⟨rfl, by rw [hU9], by rw [hU9]; exact hPc, va_K.moved hW.alike hKc, hDc.weaken (fun _ _ _ _ => trivial), by rw [hU9]; exact ((hU.kept (fun a h1 h2 => hS.2.1 a h1 h2)).narrow hFc).moved hW.alike, by rw [hU9]; exact ((hN.kept (fun a h1 h2 => hS.2.1 a h1 h2)).narrow hFc).moved hW.alike, fun w h => cd_warm (ngX11_161_cd w h) hW (hngX11_161 w h)⟩⟩ rfl rfl hl.1 rfl (lv_room (Nat.le_of_ble_eq_true rfl)) dL_law_1037 ⟨by decide +kernel, by decide +kernel⟩) hS (fun q _ h => hFc q h) hFc (fun r1037 u t H1 locs ht hvm hw hB hz1 hk1 hS => ?_)
  obtain ⟨go1037, hwit1037⟩ : ∃ w9, w9 = u := ⟨u, rfl⟩
  subst hwit1037
  obtain ⟨hP1, hK1, hD1⟩ := hB
  rw [ht] at hP1
  have hK1 := va_K.moved hvm.symm hK1
  obtain ⟨hP, hD⟩ := va_join (wr := [(h2, .inr (12, fM (vM av)))]) (w1 := [(o, .inl (kO, 1, .inr (.inl go1037)))]) hP hD [0, 1, 3] [2] rfl rfl (by decide) (by decide) hk1 hFc hP1 hD1
  generalize H1 = H at hP hS ⊢
  have hP : va_P (dC, dI) vwCl [(h2, .inr (12, fM (vM av))), (o, .inl (kO, 1, .inr (.inl go1037)))] H := hP
  have hD : va_D A [(h2, .inr (12, fM (vM av))), (o, .inl (kO, 1, .inr (.inl go1037)))] := hD
  refine W.widen (k := 126) (n := 181440) (by decide +kernel) (by decide +kernel) ?_
  obtain rfl := hw
  refine lv_istore (lv' := [(5, .int 1), (4, .int 0), (3, .ref o), (2, .ref h2), (1, .ref h1), (0, .ref b)]) hx hb dL_law_1040 hl (by decide) rfl (fun ls hl => ?_)
  refine lv_aload_n hx hb dL_law_1042 rfl (lv_at hl 3 rfl) ?_
  have hPc := hP.sub (ws' := [(h2, .inr (12, fM (vM av)))]) [0] rfl
  have hDc := hD.sub (ws' := [(h2, .inr (12, fM (vM av)))]) [0] (by decide) rfl
  have hKc := hK.sub (tys' := []) [] rfl
  have hFc := va_free (wc := [(h2, .inr (12, fM (vM av)))]) hD hS hA [0] rfl
  refine va_calli (va_runV (As := []) (rest := []) ⟨hx, hb, hml, hown, hts⟩ (p_X12_prove l dC dI h2 (vM av) (rfl) H.size) (cwV 0 hts glaw15_1 rfl rfl rfl (by decide +kernel) ⟨by decide +kernel, by decide +kernel⟩) ⟨fun a U g mk q => by obtain ⟨q0, q1, qP, qK, qD⟩ := q; exact ⟨q0, q1, qP, va_K.moved (u := U) (U := U.calling g mk a) (Vm.Alike.refl U.vm) qK, qD⟩, va_recv hKc hPc (ci := 12) (q0 := 0) rfl rfl, fun U hU9 hW => ⟨rfl, by rw [hU9], by rw [hU9]; exact hPc, va_K.moved hW.alike hKc, hDc.weaken (fun _ _ _ _ => trivial)⟩⟩ rfl rfl hl.1 rfl (lv_room (Nat.le_of_ble_eq_true rfl)) dL_law_1043 ⟨by decide +kernel, by decide +kernel⟩) hS (fun q _ h => hFc q h) hFc (fun r1043 u t H1 locs ht hvm hw hB hz1 hk1 hS => ?_)
  obtain ⟨w1043, hwit1043⟩ : ∃ w9, w9 = u := ⟨u, rfl⟩
  subst hwit1043
  obtain ⟨hP1, hK1, hD1⟩ := hB
  rw [ht] at hP1
  have hK1 := va_K.moved hvm.symm hK1
  obtain ⟨hP, hD⟩ := va_join (wr := [(o, .inl (kO, 1, .inr (.inl go1037)))]) (w1 := [(h2, .inr (12, fM w1043))]) hP hD [0] [1] rfl rfl (by decide) (by decide) hk1 hFc hP1 hD1
  generalize H1 = H at hP hS ⊢
  have hP : va_P (dC, dI) vwCl [(o, .inl (kO, 1, .inr (.inl go1037))), (h2, .inr (12, fM w1043))] H := hP
  have hD : va_D A [(o, .inl (kO, 1, .inr (.inl go1037))), (h2, .inr (12, fM w1043))] := hD
  obtain ⟨rfl, f1043_0⟩ := hw
  refine lv_istore (lv' := [(6, .int 0), (5, .int 1), (4, .int 0), (3, .ref o), (2, .ref h2), (1, .ref h1), (0, .ref b)]) hx hb dL_law_1046 hl (by decide) rfl (fun ls hl => ?_)
  refine lv_aload_n hx hb dL_law_1048 rfl (lv_at hl 4 rfl) ?_
  have hPc := hP.sub (ws' := [(h2, .inr (12, fM w1043))]) [1] rfl
  have hDc := hD.sub (ws' := [(h2, .inr (12, fM w1043))]) [1] (by decide) rfl
  have hKc := hK.sub (tys' := []) [] rfl
  have hFc := va_free (wc := [(h2, .inr (12, fM w1043))]) hD hS hA [1] rfl
  refine va_calli (va_runV (As := []) (rest := []) ⟨hx, hb, hml, hown, hts⟩ (p_X12_thrown l dC dI h2 w1043 1 (f1043_0) H.size) (cwV 0 hts glaw15_2 rfl rfl rfl (by decide +kernel) ⟨by decide +kernel, by decide +kernel⟩) ⟨fun a U g mk q => by obtain ⟨q0, q1, qP, qK, qD⟩ := q; exact ⟨q0, q1, qP, va_K.moved (u := U) (U := U.calling g mk a) (Vm.Alike.refl U.vm) qK, qD⟩, va_recv hKc hPc (ci := 12) (q0 := 0) rfl rfl, fun U hU9 hW => ⟨rfl, by rw [hU9], by rw [hU9]; exact hPc, va_K.moved hW.alike hKc, hDc.weaken (fun _ _ _ _ => trivial)⟩⟩ rfl rfl hl.1 rfl (lv_room (Nat.le_of_ble_eq_true rfl)) dL_law_1049 ⟨by decide +kernel, by decide +kernel⟩) hS (fun q _ h => hFc q h) hFc (fun r1049 u t H1 locs ht hvm hw hB hz1 hk1 hS => ?_)
  obtain ⟨hP1, hK1, hD1⟩ := hB
  rw [ht] at hP1
  have hK1 := va_K.moved hvm.symm hK1
  obtain ⟨hP, hD⟩ := va_join (wr := [(o, .inl (kO, 1, .inr (.inl go1037)))]) (w1 := []) hP hD [1] [0] rfl rfl (by decide) (by decide) hk1 hFc hP1 hD1
  generalize H1 = H at hP hS ⊢
  have hP : va_P (dC, dI) vwCl [(o, .inl (kO, 1, .inr (.inl go1037)))] H := hP
  have hD : va_D A [(o, .inl (kO, 1, .inr (.inl go1037)))] := hD
  obtain rfl := hw
  refine lv_iload hx hb dL_law_1052 (lv_at hl 1 rfl) ?_
  refine lv_icmp_eq (tgt := 1059) hx hb dL_law_1054 (by decide) (fun _ => ?_) (fun c9 => absurd (by decide) c9)
  refine lv_iload hx hb dL_law_1059 (lv_at hl 1 rfl) ?_
  refine lv_if_ne (tgt := 1076) hx hb dL_law_1061 (by decide) (fun _ => ?_) (fun c9 => absurd c9 (by decide))
  refine lv_goto (tgt := 2131) hx hb dL_law_1076 (by decide) ?_
  refine lv_iinc (v := 6) (lv' := [(4, .int 6), (6, .int 0), (5, .int 1), (3, .ref o), (2, .ref h2), (1, .ref h1), (0, .ref b)]) hx hb dL_law_2131 hl (k := 2) rfl (by decide) (by decide) rfl (fun ls hl => ?_)
  refine lv_goto (tgt := 23) hx hb dL_law_2134 (by decide) ?_
  refine lv_iload hx hb dL_law_23 (lv_at hl 0 rfl) ?_
  refine lv_aload_n hx hb dL_law_25 rfl (lv_at hl 6 rfl) ?_
  refine va_slen hx hb hX hbl hbA hS dL_law_26 ?_
  refine lv_topi (fun y1 hy1 => ?_)
  obtain rfl : 6 = y1 := (hy1.trans (rfl)).symm
  refine lv_bipush (v := 6) hx hb dL_law_27 (by decide) ?_
  refine lv_isub hx hb dL_law_29 ?_
  refine lv_topi (fun y2 hy2 => ?_)
  obtain rfl : 0 = y2 := (hy2.trans (by decide)).symm
  refine lv_icmp_gt (tgt := 2137) hx hb dL_law_30 (by decide) (fun _ => ?_) (fun c9 => absurd (by decide) c9)
  refine lv_iconst (v := 1) hx hb dL_law_2137 (by decide) ?_
  refine W.widen (k := 600002) (n := 7302232) (by decide +kernel) (by decide +kernel) ?_
  refine va_forget (fun q hq => hA2 _ (hS.2.2 q hq)) ?_
  exact lw_ret hx hb hr hlocks dL_law_2138
theorem dL_law_1079 : decode cL_law 1079 = .ok (.aload_n 1, 1) := by decide +kernel
theorem dL_law_1080 : decode cL_law 1080 = .ok (.aload_n 0, 1) := by decide +kernel
theorem dL_law_1081 : decode cL_law 1081 = .ok (.iload 4, 2) := by decide +kernel
theorem dL_law_1083 : decode cL_law 1083 = .ok (.iconst 1, 1) := by decide +kernel
theorem dL_law_1084 : decode cL_law 1084 = .ok (.iadd, 1) := by decide +kernel
theorem dL_law_1085 : decode cL_law 1085 = .ok (.iaload, 1) := by decide +kernel
theorem dL_law_1086 : decode cL_law 1086 = .ok (.aload_n 0, 1) := by decide +kernel
theorem dL_law_1087 : decode cL_law 1087 = .ok (.iload 4, 2) := by decide +kernel
theorem dL_law_1089 : decode cL_law 1089 = .ok (.iconst 2, 1) := by decide +kernel
theorem dL_law_1090 : decode cL_law 1090 = .ok (.iadd, 1) := by decide +kernel
theorem dL_law_1091 : decode cL_law 1091 = .ok (.iaload, 1) := by decide +kernel
theorem dL_law_1092 : decode cL_law 1092 = .ok (.invokevirtual 156, 3) := by decide +kernel
theorem dL_law_1095 : decode cL_law 1095 = .ok (.aload_n 2, 1) := by decide +kernel
theorem dL_law_1096 : decode cL_law 1096 = .ok (.aload_n 0, 1) := by decide +kernel
theorem dL_law_1097 : decode cL_law 1097 = .ok (.iload 4, 2) := by decide +kernel
theorem dL_law_1099 : decode cL_law 1099 = .ok (.iconst 1, 1) := by decide +kernel
theorem dL_law_1100 : decode cL_law 1100 = .ok (.iadd, 1) := by decide +kernel
theorem dL_law_1101 : decode cL_law 1101 = .ok (.iaload, 1) := by decide +kernel
theorem dL_law_1102 : decode cL_law 1102 = .ok (.aload_n 0, 1) := by decide +kernel
theorem dL_law_1103 : decode cL_law 1103 = .ok (.iload 4, 2) := by decide +kernel
theorem dL_law_1105 : decode cL_law 1105 = .ok (.iconst 2, 1) := by decide +kernel
theorem dL_law_1106 : decode cL_law 1106 = .ok (.iadd, 1) := by decide +kernel
theorem dL_law_1107 : decode cL_law 1107 = .ok (.iaload, 1) := by decide +kernel
theorem dL_law_1108 : decode cL_law 1108 = .ok (.invokevirtual 159, 3) := by decide +kernel
theorem dL_law_1111 : decode cL_law 1111 = .ok (.if_icmp .eq 1020, 3) := by decide +kernel
theorem glaw16_0 : GoodIn lw_tbl (wsV RL 156 RX11 yX11_need wsPX11_need) := goodIn_sub ((List.forall_mem_append.mpr ⟨(mem_p ([.methodLink RL 156 yX11_need, .instanceMethod yX11_need, .selects RX11 yX11_need yX11_need, .initialized RX11] : List Cond) [(2, 21), (2, 22), (2, 23), (1, 1)] (by decide +kernel)), ml_wsPX11_need⟩ : ∀ w ∈ wsV RL 156 RX11 yX11_need wsPX11_need, w ∈ lw_tbl)) (by decide +kernel)
theorem glaw16_1 : GoodIn lw_tbl (wsV RL 159 RX12 yX12_need wsPX12_need) := goodIn_sub ((List.forall_mem_append.mpr ⟨(mem_p ([.methodLink RL 159 yX12_need, .instanceMethod yX12_need, .selects RX12 yX12_need yX12_need, .initialized RX12] : List Cond) [(14, 223), (14, 224), (14, 225), (1, 4)] (by decide +kernel)), ml_wsPX12_need⟩ : ∀ w ∈ wsV RL 159 RX12 yX12_need wsPX12_need, w ∈ lw_tbl)) (by decide +kernel)
set_option maxHeartbeats 4000000 in
set_option maxRecDepth 100000 in
/-- the law's case 16: need -/
theorem lc_16 {p : Program} {e : Env} {s : State} {m : MethodId} {below : List Frame} {meth : Method} {c : Code} (l : Launch) (hst : l.stackTraces = false) {b : Nat} {xs : Nat → Int32} (C0 : lw_At p s m meth c b 6 xs) {A : Nat → Prop} (hA : ∀ q : Nat, s.heap.size ≤ q → A q) (hA2 : ∀ q : Nat, A q → s.heap.size ≤ q) (X0 : lx_ok A s) (dC : Nat → ClassId) (dI : Nat → Nat → Nat) {h1 h2 o : Nat} {a : Nat → Nat} {k : Nat → ClassId} {av : Nat → Nat} {kv : Nat → ClassId} {kO : ClassId} {H : Heap} {locs : List Loc} {ls : Array Slot} (hK : va_K (dC, dI) vwCl [(kO, .long)] s) (hP : va_P (dC, dI) vwCl [(h1, .inr (11, [.ref (a 0), .ref (a 1), .ref (a 3), .ref (a 14), .int 0, .null, .null, .null, .null, .null, .null])), (h2, .inr (12, fM (vM av))), (o, .inl (kO, 1, .inr (.inl (fun _ => 0))))] H) (hD : va_D A [(h1, .inr (11, [.ref (a 0), .ref (a 1), .ref (a 3), .ref (a 14), .int 0, .null, .null, .null, .null, .null, .null])), (h2, .inr (12, fM (vM av))), (o, .inl (kO, 1, .inr (.inl (fun _ => 0))))]) (hS : va_S A s.heap H locs) (hl : lv_has ls 7 [(4, .int 0), (3, .ref o), (2, .ref h2), (1, .ref h1), (0, .ref b)]) : W p l e room_1 s m #[Value.ref b] below meth c H locs 125 181434 (lw_Z below #[Value.ref b] s) (F0 m 1079 ls []) := by
  obtain ⟨hx, hb, hr, hml, hown, hts, hX, hbl, hlocks, hgv⟩ := id C0
  have hb : c.code = cL_law := hb
  have hown : s.vm.findClass RL = some m.cls := hown
  obtain ⟨hU, hN, hnX11_343, hnX11_392, hnX11_421, hncAI, hngX11_161, hngX11_79, hngX11_95⟩ := X0
  have hbA : ¬ A b := fun h => absurd (hA2 b h) (Nat.not_le.mpr hbl)
  refine lv_aload_n hx hb dL_law_1079 rfl (lv_at hl 3 rfl) ?_
  refine lv_aload_n hx hb dL_law_1080 rfl (lv_at hl 4 rfl) ?_
  refine lv_iload hx hb dL_law_1081 (lv_at hl 0 rfl) ?_
  refine lv_iconst (v := 1) hx hb dL_law_1083 (by decide) ?_
  refine lv_iadd hx hb dL_law_1084 ?_
  refine lv_topi (fun y1 hy1 => ?_)
  obtain rfl : 1 = y1 := (hy1.trans (by decide)).symm
  refine va_sld hx hb hX hbl hbA hS (show ¬ ((1 : Int32) < 0 ∨ 6 ≤ (1 : Int32).toNatClampNeg) by decide) dL_law_1085 ?_
  refine lv_topi (fun y2 hy2 => ?_)
  obtain rfl : (xs 1) = y2 := (hy2.trans (rfl)).symm
  refine lv_aload_n hx hb dL_law_1086 rfl (lv_at hl 4 rfl) ?_
  refine lv_iload hx hb dL_law_1087 (lv_at hl 0 rfl) ?_
  refine lv_iconst (v := 2) hx hb dL_law_1089 (by decide) ?_
  refine lv_iadd hx hb dL_law_1090 ?_
  refine lv_topi (fun y3 hy3 => ?_)
  obtain rfl : 2 = y3 := (hy3.trans (by decide)).symm
  refine va_sld hx hb hX hbl hbA hS (show ¬ ((2 : Int32) < 0 ∨ 6 ≤ (2 : Int32).toNatClampNeg) by decide) dL_law_1091 ?_
  refine lv_topi (fun y4 hy4 => ?_)
  obtain rfl : (xs 2) = y4 := (hy4.trans (rfl)).symm
  have hPc := hP.sub (ws' := [(h1, .inr (11, [.ref (a 0), .ref (a 1), .ref (a 3), .ref (a 14), .int 0, .null, .null, .null, .null, .null, .null]))]) [0] rfl
  have hDc := hD.sub (ws' := [(h1, .inr (11, [.ref (a 0), .ref (a 1), .ref (a 3), .ref (a 14), .int 0, .null, .null, .null, .null, .null, .null]))]) [0] (by decide) rfl
  have hKc := hK.sub (tys' := []) [] rfl
  have hFc := va_free (wc := [(h1, .inr (11, [.ref (a 0), .ref (a 1), .ref (a 3), .ref (a 14), .int 0, .null, .null, .null, .null, .null, .null]))]) hD hS hA [0] rfl
  refine va_calli (va_runV (As := [.int (xs 1), .int (xs 2)]) (rest := []) ⟨hx, hb, hml, hown, hts⟩ (p_X11_need l dC dI h1 a (xs 1) (xs 2) H.size) (cwV 2 hts glaw16_0 rfl rfl rfl (by decide +kernel) ⟨by decide +kernel, by decide +kernel⟩) ⟨fun a U g mk q => by obtain ⟨q0, q1, qP, qK, qD⟩ := q; exact ⟨q0, q1, qP, va_K.moved (u := U) (U := U.calling g mk a) (Vm.Alike.refl U.vm) qK, qD⟩, va_recv hKc hPc (ci := 11) (q0 := 0) rfl rfl, fun U hU9 hW => ⟨rfl, by rw [hU9], by rw [hU9]; exact hPc, va_K.moved hW.alike hKc, hDc.weaken (fun _ _ _ _ => trivial)⟩⟩ rfl rfl hl.1 rfl (lv_room (Nat.le_of_ble_eq_true rfl)) dL_law_1092 ⟨by decide +kernel, by decide +kernel⟩) hS (fun q _ h => hFc q h) hFc (fun r1092 u t H1 locs ht hvm hw hB hz1 hk1 hS => ?_)
  obtain ⟨hP1, hK1, hD1⟩ := hB
  rw [ht] at hP1
  have hK1 := va_K.moved hvm.symm hK1
  obtain ⟨hP, hD⟩ := va_join (wr := [(h2, .inr (12, fM (vM av))), (o, .inl (kO, 1, .inr (.inl (fun _ => 0))))]) (w1 := []) hP hD [0] [1, 2] rfl rfl (by decide) (by decide) hk1 hFc hP1 hD1
  generalize H1 = H at hP hS ⊢
  have hP : va_P (dC, dI) vwCl [(h2, .inr (12, fM (vM av))), (o, .inl (kO, 1, .inr (.inl (fun _ => 0))))] H := hP
  have hD : va_D A [(h2, .inr (12, fM (vM av))), (o, .inl (kO, 1, .inr (.inl (fun _ => 0))))] := hD
  obtain rfl := hw
  refine lv_aload_n hx hb dL_law_1095 rfl (lv_at hl 2 rfl) ?_
  refine lv_aload_n hx hb dL_law_1096 rfl (lv_at hl 4 rfl) ?_
  refine lv_iload hx hb dL_law_1097 (lv_at hl 0 rfl) ?_
  refine lv_iconst (v := 1) hx hb dL_law_1099 (by decide) ?_
  refine lv_iadd hx hb dL_law_1100 ?_
  refine lv_topi (fun y5 hy5 => ?_)
  obtain rfl : 1 = y5 := (hy5.trans (by decide)).symm
  refine va_sld hx hb hX hbl hbA hS (show ¬ ((1 : Int32) < 0 ∨ 6 ≤ (1 : Int32).toNatClampNeg) by decide) dL_law_1101 ?_
  refine lv_topi (fun y6 hy6 => ?_)
  obtain rfl : (xs 1) = y6 := (hy6.trans (rfl)).symm
  refine lv_aload_n hx hb dL_law_1102 rfl (lv_at hl 4 rfl) ?_
  refine lv_iload hx hb dL_law_1103 (lv_at hl 0 rfl) ?_
  refine lv_iconst (v := 2) hx hb dL_law_1105 (by decide) ?_
  refine lv_iadd hx hb dL_law_1106 ?_
  refine lv_topi (fun y7 hy7 => ?_)
  obtain rfl : 2 = y7 := (hy7.trans (by decide)).symm
  refine va_sld hx hb hX hbl hbA hS (show ¬ ((2 : Int32) < 0 ∨ 6 ≤ (2 : Int32).toNatClampNeg) by decide) dL_law_1107 ?_
  refine lv_topi (fun y8 hy8 => ?_)
  obtain rfl : (xs 2) = y8 := (hy8.trans (rfl)).symm
  have hPc := hP.sub (ws' := [(h2, .inr (12, fM (vM av)))]) [0] rfl
  have hDc := hD.sub (ws' := [(h2, .inr (12, fM (vM av)))]) [0] (by decide) rfl
  have hKc := hK.sub (tys' := []) [] rfl
  have hFc := va_free (wc := [(h2, .inr (12, fM (vM av)))]) hD hS hA [0] rfl
  refine va_calli (va_runV (As := [.int (xs 1), .int (xs 2)]) (rest := [.int (-1)]) ⟨hx, hb, hml, hown, hts⟩ (p_X12_need l dC dI h2 (vM av) (rfl) (xs 1) (xs 2) H.size) (cwV 2 hts glaw16_1 rfl rfl rfl (by decide +kernel) ⟨by decide +kernel, by decide +kernel⟩) ⟨fun a U g mk q => by obtain ⟨q0, q1, qP, qK, qD⟩ := q; exact ⟨q0, q1, qP, va_K.moved (u := U) (U := U.calling g mk a) (Vm.Alike.refl U.vm) qK, qD⟩, va_recv hKc hPc (ci := 12) (q0 := 0) rfl rfl, fun U hU9 hW => ⟨rfl, by rw [hU9], by rw [hU9]; exact hPc, va_K.moved hW.alike hKc, hDc.weaken (fun _ _ _ _ => trivial)⟩⟩ rfl rfl hl.1 rfl (lv_room (Nat.le_of_ble_eq_true rfl)) dL_law_1108 ⟨by decide +kernel, by decide +kernel⟩) hS (fun q _ h => hFc q h) hFc (fun r1108 u t H1 locs ht hvm hw hB hz1 hk1 hS => ?_)
  obtain ⟨w1108, hwit1108⟩ : ∃ w9, w9 = u := ⟨u, rfl⟩
  subst hwit1108
  obtain ⟨hP1, hK1, hD1⟩ := hB
  rw [ht] at hP1
  have hK1 := va_K.moved hvm.symm hK1
  obtain ⟨hP, hD⟩ := va_join (wr := [(o, .inl (kO, 1, .inr (.inl (fun _ => 0))))]) (w1 := [(h2, .inr (12, fM w1108))]) hP hD [0] [1] rfl rfl (by decide) (by decide) hk1 hFc hP1 hD1
  generalize H1 = H at hP hS ⊢
  have hP : va_P (dC, dI) vwCl [(o, .inl (kO, 1, .inr (.inl (fun _ => 0)))), (h2, .inr (12, fM w1108))] H := hP
  have hD : va_D A [(o, .inl (kO, 1, .inr (.inl (fun _ => 0)))), (h2, .inr (12, fM w1108))] := hD
  obtain ⟨rfl, f1108_0⟩ := hw
  refine lv_icmp_eq (tgt := 2131) hx hb dL_law_1111 (by decide) (fun _ => ?_) (fun c9 => absurd (by decide) c9)
  refine lv_iinc (v := 6) (lv' := [(4, .int 6), (3, .ref o), (2, .ref h2), (1, .ref h1), (0, .ref b)]) hx hb dL_law_2131 hl (k := 0) rfl (by decide) (by decide) rfl (fun ls hl => ?_)
  refine lv_goto (tgt := 23) hx hb dL_law_2134 (by decide) ?_
  refine lv_iload hx hb dL_law_23 (lv_at hl 0 rfl) ?_
  refine lv_aload_n hx hb dL_law_25 rfl (lv_at hl 4 rfl) ?_
  refine va_slen hx hb hX hbl hbA hS dL_law_26 ?_
  refine lv_topi (fun y9 hy9 => ?_)
  obtain rfl : 6 = y9 := (hy9.trans (rfl)).symm
  refine lv_bipush (v := 6) hx hb dL_law_27 (by decide) ?_
  refine lv_isub hx hb dL_law_29 ?_
  refine lv_topi (fun y10 hy10 => ?_)
  obtain rfl : 0 = y10 := (hy10.trans (by decide)).symm
  refine lv_icmp_gt (tgt := 2137) hx hb dL_law_30 (by decide) (fun _ => ?_) (fun c9 => absurd (by decide) c9)
  refine lv_iconst (v := 1) hx hb dL_law_2137 (by decide) ?_
  refine W.widen (k := 600002) (n := 7302232) (by decide +kernel) (by decide +kernel) ?_
  refine va_forget (fun q hq => hA2 _ (hS.2.2 q hq)) ?_
  exact lw_ret hx hb hr hlocks dL_law_2138
theorem dL_law_1116 : decode cL_law 1116 = .ok (.aload_n 1, 1) := by decide +kernel
theorem dL_law_1117 : decode cL_law 1117 = .ok (.aload_n 0, 1) := by decide +kernel
theorem dL_law_1118 : decode cL_law 1118 = .ok (.iload 4, 2) := by decide +kernel
theorem dL_law_1120 : decode cL_law 1120 = .ok (.iconst 1, 1) := by decide +kernel
theorem dL_law_1121 : decode cL_law 1121 = .ok (.iadd, 1) := by decide +kernel
theorem dL_law_1122 : decode cL_law 1122 = .ok (.iaload, 1) := by decide +kernel
theorem dL_law_1123 : decode cL_law 1123 = .ok (.aload_n 3, 1) := by decide +kernel
theorem dL_law_1124 : decode cL_law 1124 = .ok (.invokestatic 160, 3) := by decide +kernel
theorem dL_law_1127 : decode cL_law 1127 = .ok (.istore 5, 2) := by decide +kernel
theorem dL_law_1129 : decode cL_law 1129 = .ok (.aload_n 2, 1) := by decide +kernel
theorem dL_law_1130 : decode cL_law 1130 = .ok (.aload_n 0, 1) := by decide +kernel
theorem dL_law_1131 : decode cL_law 1131 = .ok (.iload 4, 2) := by decide +kernel
theorem dL_law_1133 : decode cL_law 1133 = .ok (.iconst 1, 1) := by decide +kernel
theorem dL_law_1134 : decode cL_law 1134 = .ok (.iadd, 1) := by decide +kernel
theorem dL_law_1135 : decode cL_law 1135 = .ok (.iaload, 1) := by decide +kernel
theorem dL_law_1136 : decode cL_law 1136 = .ok (.invokevirtual 162, 3) := by decide +kernel
theorem dL_law_1139 : decode cL_law 1139 = .ok (.istore 6, 2) := by decide +kernel
theorem dL_law_1141 : decode cL_law 1141 = .ok (.aload_n 2, 1) := by decide +kernel
theorem dL_law_1142 : decode cL_law 1142 = .ok (.invokevirtual 111, 3) := by decide +kernel
theorem dL_law_1145 : decode cL_law 1145 = .ok (.iload 5, 2) := by decide +kernel
theorem dL_law_1147 : decode cL_law 1147 = .ok (.if_icmp .eq 5, 3) := by decide +kernel
theorem dL_law_1152 : decode cL_law 1152 = .ok (.iload 5, 2) := by decide +kernel
theorem dL_law_1154 : decode cL_law 1154 = .ok (.ifCond .ne 15, 3) := by decide +kernel
theorem dL_law_1169 : decode cL_law 1169 = .ok (.goto 962, 3) := by decide +kernel
theorem glaw17_0 : GoodIn lw_tbl (va_wsS RL 160 yL_multiplier wsPL_multiplier) := goodIn_sub ((List.forall_mem_append.mpr ⟨(mem_p ([.methodLink RL 160 yL_multiplier, .static yL_multiplier, .initialized "OptimaWorksLaw"] : List Cond) [(9, 190), (9, 191), (1, 0)] (by decide +kernel)), ml_wsPL_multiplier⟩ : ∀ w ∈ va_wsS RL 160 yL_multiplier wsPL_multiplier, w ∈ lw_tbl)) (by decide +kernel)
theorem glaw17_1 : GoodIn lw_tbl (wsV RL 162 RX12 yX12_multiplier wsPX12_multiplier) := goodIn_sub ((List.forall_mem_append.mpr ⟨(mem_p ([.methodLink RL 162 yX12_multiplier, .instanceMethod yX12_multiplier, .selects RX12 yX12_multiplier yX12_multiplier, .initialized RX12] : List Cond) [(15, 16), (15, 17), (15, 18), (1, 4)] (by decide +kernel)), ml_wsPX12_multiplier⟩ : ∀ w ∈ wsV RL 162 RX12 yX12_multiplier wsPX12_multiplier, w ∈ lw_tbl)) (by decide +kernel)
theorem glaw17_2 : GoodIn lw_tbl (wsV RL 111 RX12 yX12_thrown wsPX12_thrown) := goodIn_sub ((List.forall_mem_append.mpr ⟨(mem_p ([.methodLink RL 111 yX12_thrown, .instanceMethod yX12_thrown, .selects RX12 yX12_thrown yX12_thrown, .initialized RX12] : List Cond) [(12, 139), (12, 140), (12, 141), (1, 4)] (by decide +kernel)), ml_wsPX12_thrown⟩ : ∀ w ∈ wsV RL 111 RX12 yX12_thrown wsPX12_thrown, w ∈ lw_tbl)) (by decide +kernel)
set_option maxHeartbeats 4000000 in
set_option maxRecDepth 100000 in
/-- the law's case 17: multiplier -/
theorem lc_17 {p : Program} {e : Env} {s : State} {m : MethodId} {below : List Frame} {meth : Method} {c : Code} (l : Launch) (hst : l.stackTraces = false) {b : Nat} {xs : Nat → Int32} (C0 : lw_At p s m meth c b 6 xs) {A : Nat → Prop} (hA : ∀ q : Nat, s.heap.size ≤ q → A q) (hA2 : ∀ q : Nat, A q → s.heap.size ≤ q) (X0 : lx_ok A s) (dC : Nat → ClassId) (dI : Nat → Nat → Nat) {h1 h2 o : Nat} {a : Nat → Nat} {k : Nat → ClassId} {av : Nat → Nat} {kv : Nat → ClassId} {kO : ClassId} {H : Heap} {locs : List Loc} {ls : Array Slot} (hK : va_K (dC, dI) vwCl [(kO, .long)] s) (hP : va_P (dC, dI) vwCl [(h1, .inr (11, [.ref (a 0), .ref (a 1), .ref (a 3), .ref (a 14), .int 0, .null, .null, .null, .null, .null, .null])), (h2, .inr (12, fM (vM av))), (o, .inl (kO, 1, .inr (.inl (fun _ => 0))))] H) (hD : va_D A [(h1, .inr (11, [.ref (a 0), .ref (a 1), .ref (a 3), .ref (a 14), .int 0, .null, .null, .null, .null, .null, .null])), (h2, .inr (12, fM (vM av))), (o, .inl (kO, 1, .inr (.inl (fun _ => 0))))]) (hS : va_S A s.heap H locs) (hl : lv_has ls 7 [(4, .int 0), (3, .ref o), (2, .ref h2), (1, .ref h1), (0, .ref b)]) : W p l e room_1 s m #[Value.ref b] below meth c H locs 125 181434 (lw_Z below #[Value.ref b] s) (F0 m 1116 ls []) := by
  obtain ⟨hx, hb, hr, hml, hown, hts, hX, hbl, hlocks, hgv⟩ := id C0
  have hb : c.code = cL_law := hb
  have hown : s.vm.findClass RL = some m.cls := hown
  obtain ⟨hU, hN, hnX11_343, hnX11_392, hnX11_421, hncAI, hngX11_161, hngX11_79, hngX11_95⟩ := X0
  have hbA : ¬ A b := fun h => absurd (hA2 b h) (Nat.not_le.mpr hbl)
  refine lv_aload_n hx hb dL_law_1116 rfl (lv_at hl 3 rfl) ?_
  refine lv_aload_n hx hb dL_law_1117 rfl (lv_at hl 4 rfl) ?_
  refine lv_iload hx hb dL_law_1118 (lv_at hl 0 rfl) ?_
  refine lv_iconst (v := 1) hx hb dL_law_1120 (by decide) ?_
  refine lv_iadd hx hb dL_law_1121 ?_
  refine lv_topi (fun y1 hy1 => ?_)
  obtain rfl : 1 = y1 := (hy1.trans (by decide)).symm
  refine va_sld hx hb hX hbl hbA hS (show ¬ ((1 : Int32) < 0 ∨ 6 ≤ (1 : Int32).toNatClampNeg) by decide) dL_law_1122 ?_
  refine lv_topi (fun y2 hy2 => ?_)
  obtain rfl : (xs 1) = y2 := (hy2.trans (rfl)).symm
  refine lv_aload_n hx hb dL_law_1123 rfl (lv_at hl 1 rfl) ?_
  have hPc := hP.sub (ws' := [(h1, .inr (11, [.ref (a 0), .ref (a 1), .ref (a 3), .ref (a 14), .int 0, .null, .null, .null, .null, .null, .null])), (o, .inl (kO, 1, .inr (.inl (fun _ => 0))))]) [0, 2] rfl
  have hDc := hD.sub (ws' := [(h1, .inr (11, [.ref (a 0), .ref (a 1), .ref (a 3), .ref (a 14), .int 0, .null, .null, .null, .null, .null, .null])), (o, .inl (kO, 1, .inr (.inl (fun _ => 0))))]) [0, 2] (by decide) rfl
  have hKc := hK.sub (tys' := [(kO, .long)]) [0] rfl
  have hFc := va_free (wc := [(h1, .inr (11, [.ref (a 0), .ref (a 1), .ref (a 3), .ref (a 14), .int 0, .null, .null, .null, .null, .null, .null])), (o, .inl (kO, 1, .inr (.inl (fun _ => 0))))]) hD hS hA [0, 2] rfl
  refine va_calli (vx_runSW (As := [.ref h1, .int (xs 1), .ref o]) (rest := []) ⟨hx, hb, hml, hown, hts⟩ (p_L_multiplier l hst dC dI h1 a o kO (xs 1) H.size) (vx_cwSW 3 hts glaw17_0 rfl rfl rfl (by decide +kernel) ⟨by decide +kernel, by decide +kernel⟩) ⟨fun a U g mk q => by obtain ⟨q0, q1, qP, qK, qD, qU, qN, qngX11_161⟩ := q; exact ⟨q0, q1, qP, va_K.moved (u := U) (U := U.calling g mk a) (Vm.Alike.refl U.vm) qK, qD, vx_Zq.moved (u := U) (U := U.calling g mk a) (Vm.Alike.refl U.vm) qU, vx_Zq.moved (u := U) (U := U.calling g mk a) (Vm.Alike.refl U.vm) qN, fun w h => va_Nw.same (u := U) (U := U.calling g mk a) (ngX11_161_ot w h) rfl (qngX11_161 w h)⟩, fun U hU9 hW => ⟨rfl, by rw [hU9], by rw [hU9]; exact hPc, va_K.moved hW.alike hKc, hDc.weaken (fun _ _ _ _ => trivial), by rw [hU9]; exact ((hU.kept (fun a h1 h2 => hS.2.1 a h1 h2)).narrow hFc).moved hW.alike, by rw [hU9]; exact ((hN.kept (fun a h1 h2 => hS.2.1 a h1 h2)).narrow hFc).moved hW.alike, fun w h => cd_warm (ngX11_161_cd w h) hW (hngX11_161 w h)⟩⟩ rfl rfl hl.1 rfl (lv_room (Nat.le_of_ble_eq_true rfl)) dL_law_1124 ⟨by decide +kernel, by decide +kernel⟩) hS (fun q _ h => hFc q h) hFc (fun r1124 u t H1 locs ht hvm hw hB hz1 hk1 hS => ?_)
  obtain ⟨go1124, hwit1124⟩ : ∃ w9, w9 = u := ⟨u, rfl⟩
  subst hwit1124
  obtain ⟨hP1, hK1, hD1⟩ := hB
  rw [ht] at hP1
  have hK1 := va_K.moved hvm.symm hK1
  obtain ⟨hP, hD⟩ := va_join (wr := [(h2, .inr (12, fM (vM av)))]) (w1 := [(o, .inl (kO, 1, .inr (.inl go1124)))]) hP hD [0, 2] [1] rfl rfl (by decide) (by decide) hk1 hFc hP1 hD1
  generalize H1 = H at hP hS ⊢
  have hP : va_P (dC, dI) vwCl [(h2, .inr (12, fM (vM av))), (o, .inl (kO, 1, .inr (.inl go1124)))] H := hP
  have hD : va_D A [(h2, .inr (12, fM (vM av))), (o, .inl (kO, 1, .inr (.inl go1124)))] := hD
  refine W.widen (k := 126) (n := 181440) (by decide +kernel) (by decide +kernel) ?_
  obtain rfl := hw
  refine lv_istore (lv' := [(5, .int 1), (4, .int 0), (3, .ref o), (2, .ref h2), (1, .ref h1), (0, .ref b)]) hx hb dL_law_1127 hl (by decide) rfl (fun ls hl => ?_)
  refine lv_aload_n hx hb dL_law_1129 rfl (lv_at hl 3 rfl) ?_
  refine lv_aload_n hx hb dL_law_1130 rfl (lv_at hl 5 rfl) ?_
  refine lv_iload hx hb dL_law_1131 (lv_at hl 1 rfl) ?_
  refine lv_iconst (v := 1) hx hb dL_law_1133 (by decide) ?_
  refine lv_iadd hx hb dL_law_1134 ?_
  refine lv_topi (fun y3 hy3 => ?_)
  obtain rfl : 1 = y3 := (hy3.trans (by decide)).symm
  refine va_sld hx hb hX hbl hbA hS (show ¬ ((1 : Int32) < 0 ∨ 6 ≤ (1 : Int32).toNatClampNeg) by decide) dL_law_1135 ?_
  refine lv_topi (fun y4 hy4 => ?_)
  obtain rfl : (xs 1) = y4 := (hy4.trans (rfl)).symm
  have hPc := hP.sub (ws' := [(h2, .inr (12, fM (vM av)))]) [0] rfl
  have hDc := hD.sub (ws' := [(h2, .inr (12, fM (vM av)))]) [0] (by decide) rfl
  have hKc := hK.sub (tys' := []) [] rfl
  have hFc := va_free (wc := [(h2, .inr (12, fM (vM av)))]) hD hS hA [0] rfl
  refine va_calli (va_runV (As := [.int (xs 1)]) (rest := []) ⟨hx, hb, hml, hown, hts⟩ (p_X12_multiplier l dC dI h2 (vM av) (rfl) (xs 1) H.size) (cwV 1 hts glaw17_1 rfl rfl rfl (by decide +kernel) ⟨by decide +kernel, by decide +kernel⟩) ⟨fun a U g mk q => by obtain ⟨q0, q1, qP, qK, qD⟩ := q; exact ⟨q0, q1, qP, va_K.moved (u := U) (U := U.calling g mk a) (Vm.Alike.refl U.vm) qK, qD⟩, va_recv hKc hPc (ci := 12) (q0 := 0) rfl rfl, fun U hU9 hW => ⟨rfl, by rw [hU9], by rw [hU9]; exact hPc, va_K.moved hW.alike hKc, hDc.weaken (fun _ _ _ _ => trivial)⟩⟩ rfl rfl hl.1 rfl (lv_room (Nat.le_of_ble_eq_true rfl)) dL_law_1136 ⟨by decide +kernel, by decide +kernel⟩) hS (fun q _ h => hFc q h) hFc (fun r1136 u t H1 locs ht hvm hw hB hz1 hk1 hS => ?_)
  obtain ⟨w1136, hwit1136⟩ : ∃ w9, w9 = u := ⟨u, rfl⟩
  subst hwit1136
  obtain ⟨hP1, hK1, hD1⟩ := hB
  rw [ht] at hP1
  have hK1 := va_K.moved hvm.symm hK1
  obtain ⟨hP, hD⟩ := va_join (wr := [(o, .inl (kO, 1, .inr (.inl go1124)))]) (w1 := [(h2, .inr (12, fM w1136))]) hP hD [0] [1] rfl rfl (by decide) (by decide) hk1 hFc hP1 hD1
  generalize H1 = H at hP hS ⊢
  have hP : va_P (dC, dI) vwCl [(o, .inl (kO, 1, .inr (.inl go1124))), (h2, .inr (12, fM w1136))] H := hP
  have hD : va_D A [(o, .inl (kO, 1, .inr (.inl go1124))), (h2, .inr (12, fM w1136))] := hD
  obtain ⟨rfl, f1136_0⟩ := hw
  refine lv_istore (lv' := [(6, .int 0), (5, .int 1), (4, .int 0), (3, .ref o), (2, .ref h2), (1, .ref h1), (0, .ref b)]) hx hb dL_law_1139 hl (by decide) rfl (fun ls hl => ?_)
  refine lv_aload_n hx hb dL_law_1141 rfl (lv_at hl 4 rfl) ?_
  have hPc := hP.sub (ws' := [(h2, .inr (12, fM w1136))]) [1] rfl
  have hDc := hD.sub (ws' := [(h2, .inr (12, fM w1136))]) [1] (by decide) rfl
  have hKc := hK.sub (tys' := []) [] rfl
  have hFc := va_free (wc := [(h2, .inr (12, fM w1136))]) hD hS hA [1] rfl
  refine va_calli (va_runV (As := []) (rest := []) ⟨hx, hb, hml, hown, hts⟩ (p_X12_thrown l dC dI h2 w1136 1 (f1136_0) H.size) (cwV 0 hts glaw17_2 rfl rfl rfl (by decide +kernel) ⟨by decide +kernel, by decide +kernel⟩) ⟨fun a U g mk q => by obtain ⟨q0, q1, qP, qK, qD⟩ := q; exact ⟨q0, q1, qP, va_K.moved (u := U) (U := U.calling g mk a) (Vm.Alike.refl U.vm) qK, qD⟩, va_recv hKc hPc (ci := 12) (q0 := 0) rfl rfl, fun U hU9 hW => ⟨rfl, by rw [hU9], by rw [hU9]; exact hPc, va_K.moved hW.alike hKc, hDc.weaken (fun _ _ _ _ => trivial)⟩⟩ rfl rfl hl.1 rfl (lv_room (Nat.le_of_ble_eq_true rfl)) dL_law_1142 ⟨by decide +kernel, by decide +kernel⟩) hS (fun q _ h => hFc q h) hFc (fun r1142 u t H1 locs ht hvm hw hB hz1 hk1 hS => ?_)
  obtain ⟨hP1, hK1, hD1⟩ := hB
  rw [ht] at hP1
  have hK1 := va_K.moved hvm.symm hK1
  obtain ⟨hP, hD⟩ := va_join (wr := [(o, .inl (kO, 1, .inr (.inl go1124)))]) (w1 := []) hP hD [1] [0] rfl rfl (by decide) (by decide) hk1 hFc hP1 hD1
  generalize H1 = H at hP hS ⊢
  have hP : va_P (dC, dI) vwCl [(o, .inl (kO, 1, .inr (.inl go1124)))] H := hP
  have hD : va_D A [(o, .inl (kO, 1, .inr (.inl go1124)))] := hD
  obtain rfl := hw
  refine lv_iload hx hb dL_law_1145 (lv_at hl 1 rfl) ?_
  refine lv_icmp_eq (tgt := 1152) hx hb dL_law_1147 (by decide) (fun _ => ?_) (fun c9 => absurd (by decide) c9)
  refine lv_iload hx hb dL_law_1152 (lv_at hl 1 rfl) ?_
  refine lv_if_ne (tgt := 1169) hx hb dL_law_1154 (by decide) (fun _ => ?_) (fun c9 => absurd c9 (by decide))
  refine lv_goto (tgt := 2131) hx hb dL_law_1169 (by decide) ?_
  refine lv_iinc (v := 6) (lv' := [(4, .int 6), (6, .int 0), (5, .int 1), (3, .ref o), (2, .ref h2), (1, .ref h1), (0, .ref b)]) hx hb dL_law_2131 hl (k := 2) rfl (by decide) (by decide) rfl (fun ls hl => ?_)
  refine lv_goto (tgt := 23) hx hb dL_law_2134 (by decide) ?_
  refine lv_iload hx hb dL_law_23 (lv_at hl 0 rfl) ?_
  refine lv_aload_n hx hb dL_law_25 rfl (lv_at hl 6 rfl) ?_
  refine va_slen hx hb hX hbl hbA hS dL_law_26 ?_
  refine lv_topi (fun y5 hy5 => ?_)
  obtain rfl : 6 = y5 := (hy5.trans (rfl)).symm
  refine lv_bipush (v := 6) hx hb dL_law_27 (by decide) ?_
  refine lv_isub hx hb dL_law_29 ?_
  refine lv_topi (fun y6 hy6 => ?_)
  obtain rfl : 0 = y6 := (hy6.trans (by decide)).symm
  refine lv_icmp_gt (tgt := 2137) hx hb dL_law_30 (by decide) (fun _ => ?_) (fun c9 => absurd (by decide) c9)
  refine lv_iconst (v := 1) hx hb dL_law_2137 (by decide) ?_
  refine W.widen (k := 600002) (n := 7302232) (by decide +kernel) (by decide +kernel) ?_
  refine va_forget (fun q hq => hA2 _ (hS.2.2 q hq)) ?_
  exact lw_ret hx hb hr hlocks dL_law_2138
theorem dL_law_1172 : decode cL_law 1172 = .ok (.aload_n 1, 1) := by decide +kernel
theorem dL_law_1173 : decode cL_law 1173 = .ok (.aload_n 0, 1) := by decide +kernel
theorem dL_law_1174 : decode cL_law 1174 = .ok (.iload 4, 2) := by decide +kernel
theorem dL_law_1176 : decode cL_law 1176 = .ok (.iconst 1, 1) := by decide +kernel
theorem dL_law_1177 : decode cL_law 1177 = .ok (.iadd, 1) := by decide +kernel
theorem dL_law_1178 : decode cL_law 1178 = .ok (.iaload, 1) := by decide +kernel
theorem dL_law_1179 : decode cL_law 1179 = .ok (.invokevirtual 163, 3) := by decide +kernel
theorem dL_law_1182 : decode cL_law 1182 = .ok (.aload_n 2, 1) := by decide +kernel
theorem dL_law_1183 : decode cL_law 1183 = .ok (.aload_n 0, 1) := by decide +kernel
theorem dL_law_1184 : decode cL_law 1184 = .ok (.iload 4, 2) := by decide +kernel
theorem dL_law_1186 : decode cL_law 1186 = .ok (.iconst 1, 1) := by decide +kernel
theorem dL_law_1187 : decode cL_law 1187 = .ok (.iadd, 1) := by decide +kernel
theorem dL_law_1188 : decode cL_law 1188 = .ok (.iaload, 1) := by decide +kernel
theorem dL_law_1189 : decode cL_law 1189 = .ok (.invokevirtual 166, 3) := by decide +kernel
theorem dL_law_1192 : decode cL_law 1192 = .ok (.if_icmp .eq 939, 3) := by decide +kernel
theorem glaw18_0 : GoodIn lw_tbl (wsV RL 163 RX11 yX11_letter wsPX11_letter) := goodIn_sub ((List.forall_mem_append.mpr ⟨(mem_p ([.methodLink RL 163 yX11_letter, .instanceMethod yX11_letter, .selects RX11 yX11_letter yX11_letter, .initialized RX11] : List Cond) [(2, 37), (2, 38), (2, 39), (1, 1)] (by decide +kernel)), ml_wsPX11_letter⟩ : ∀ w ∈ wsV RL 163 RX11 yX11_letter wsPX11_letter, w ∈ lw_tbl)) (by decide +kernel)
theorem glaw18_1 : GoodIn lw_tbl (wsV RL 166 RX12 yX12_letter wsPX12_letter) := goodIn_sub ((List.forall_mem_append.mpr ⟨(mem_p ([.methodLink RL 166 yX12_letter, .instanceMethod yX12_letter, .selects RX12 yX12_letter yX12_letter, .initialized RX12] : List Cond) [(15, 56), (15, 57), (15, 58), (1, 4)] (by decide +kernel)), ml_wsPX12_letter⟩ : ∀ w ∈ wsV RL 166 RX12 yX12_letter wsPX12_letter, w ∈ lw_tbl)) (by decide +kernel)
set_option maxHeartbeats 4000000 in
set_option maxRecDepth 100000 in
/-- the law's case 18: letter -/
theorem lc_18 {p : Program} {e : Env} {s : State} {m : MethodId} {below : List Frame} {meth : Method} {c : Code} (l : Launch) (hst : l.stackTraces = false) {b : Nat} {xs : Nat → Int32} (C0 : lw_At p s m meth c b 6 xs) {A : Nat → Prop} (hA : ∀ q : Nat, s.heap.size ≤ q → A q) (hA2 : ∀ q : Nat, A q → s.heap.size ≤ q) (X0 : lx_ok A s) (dC : Nat → ClassId) (dI : Nat → Nat → Nat) {h1 h2 o : Nat} {a : Nat → Nat} {k : Nat → ClassId} {av : Nat → Nat} {kv : Nat → ClassId} {kO : ClassId} {H : Heap} {locs : List Loc} {ls : Array Slot} (hK : va_K (dC, dI) vwCl [(kO, .long)] s) (hP : va_P (dC, dI) vwCl [(h1, .inr (11, [.ref (a 0), .ref (a 1), .ref (a 3), .ref (a 14), .int 0, .null, .null, .null, .null, .null, .null])), (h2, .inr (12, fM (vM av))), (o, .inl (kO, 1, .inr (.inl (fun _ => 0))))] H) (hD : va_D A [(h1, .inr (11, [.ref (a 0), .ref (a 1), .ref (a 3), .ref (a 14), .int 0, .null, .null, .null, .null, .null, .null])), (h2, .inr (12, fM (vM av))), (o, .inl (kO, 1, .inr (.inl (fun _ => 0))))]) (hS : va_S A s.heap H locs) (hl : lv_has ls 7 [(4, .int 0), (3, .ref o), (2, .ref h2), (1, .ref h1), (0, .ref b)]) : W p l e room_1 s m #[Value.ref b] below meth c H locs 125 181434 (lw_Z below #[Value.ref b] s) (F0 m 1172 ls []) := by
  obtain ⟨hx, hb, hr, hml, hown, hts, hX, hbl, hlocks, hgv⟩ := id C0
  have hb : c.code = cL_law := hb
  have hown : s.vm.findClass RL = some m.cls := hown
  obtain ⟨hU, hN, hnX11_343, hnX11_392, hnX11_421, hncAI, hngX11_161, hngX11_79, hngX11_95⟩ := X0
  have hbA : ¬ A b := fun h => absurd (hA2 b h) (Nat.not_le.mpr hbl)
  refine lv_aload_n hx hb dL_law_1172 rfl (lv_at hl 3 rfl) ?_
  refine lv_aload_n hx hb dL_law_1173 rfl (lv_at hl 4 rfl) ?_
  refine lv_iload hx hb dL_law_1174 (lv_at hl 0 rfl) ?_
  refine lv_iconst (v := 1) hx hb dL_law_1176 (by decide) ?_
  refine lv_iadd hx hb dL_law_1177 ?_
  refine lv_topi (fun y1 hy1 => ?_)
  obtain rfl : 1 = y1 := (hy1.trans (by decide)).symm
  refine va_sld hx hb hX hbl hbA hS (show ¬ ((1 : Int32) < 0 ∨ 6 ≤ (1 : Int32).toNatClampNeg) by decide) dL_law_1178 ?_
  refine lv_topi (fun y2 hy2 => ?_)
  obtain rfl : (xs 1) = y2 := (hy2.trans (rfl)).symm
  have hPc := hP.sub (ws' := [(h1, .inr (11, [.ref (a 0), .ref (a 1), .ref (a 3), .ref (a 14), .int 0, .null, .null, .null, .null, .null, .null]))]) [0] rfl
  have hDc := hD.sub (ws' := [(h1, .inr (11, [.ref (a 0), .ref (a 1), .ref (a 3), .ref (a 14), .int 0, .null, .null, .null, .null, .null, .null]))]) [0] (by decide) rfl
  have hKc := hK.sub (tys' := []) [] rfl
  have hFc := va_free (wc := [(h1, .inr (11, [.ref (a 0), .ref (a 1), .ref (a 3), .ref (a 14), .int 0, .null, .null, .null, .null, .null, .null]))]) hD hS hA [0] rfl
  refine va_calli (va_runV (As := [.int (xs 1)]) (rest := []) ⟨hx, hb, hml, hown, hts⟩ (p_X11_letter l dC dI h1 a (xs 1) H.size) (cwV 1 hts glaw18_0 rfl rfl rfl (by decide +kernel) ⟨by decide +kernel, by decide +kernel⟩) ⟨fun a U g mk q => by obtain ⟨q0, q1, qP, qK, qD⟩ := q; exact ⟨q0, q1, qP, va_K.moved (u := U) (U := U.calling g mk a) (Vm.Alike.refl U.vm) qK, qD⟩, va_recv hKc hPc (ci := 11) (q0 := 0) rfl rfl, fun U hU9 hW => ⟨rfl, by rw [hU9], by rw [hU9]; exact hPc, va_K.moved hW.alike hKc, hDc.weaken (fun _ _ _ _ => trivial)⟩⟩ rfl rfl hl.1 rfl (lv_room (Nat.le_of_ble_eq_true rfl)) dL_law_1179 ⟨by decide +kernel, by decide +kernel⟩) hS (fun q _ h => hFc q h) hFc (fun r1179 u t H1 locs ht hvm hw hB hz1 hk1 hS => ?_)
  obtain ⟨hP1, hK1, hD1⟩ := hB
  rw [ht] at hP1
  have hK1 := va_K.moved hvm.symm hK1
  obtain ⟨hP, hD⟩ := va_join (wr := [(h2, .inr (12, fM (vM av))), (o, .inl (kO, 1, .inr (.inl (fun _ => 0))))]) (w1 := []) hP hD [0] [1, 2] rfl rfl (by decide) (by decide) hk1 hFc hP1 hD1
  generalize H1 = H at hP hS ⊢
  have hP : va_P (dC, dI) vwCl [(h2, .inr (12, fM (vM av))), (o, .inl (kO, 1, .inr (.inl (fun _ => 0))))] H := hP
  have hD : va_D A [(h2, .inr (12, fM (vM av))), (o, .inl (kO, 1, .inr (.inl (fun _ => 0))))] := hD
  obtain rfl := hw
  refine lv_aload_n hx hb dL_law_1182 rfl (lv_at hl 2 rfl) ?_
  refine lv_aload_n hx hb dL_law_1183 rfl (lv_at hl 4 rfl) ?_
  refine lv_iload hx hb dL_law_1184 (lv_at hl 0 rfl) ?_
  refine lv_iconst (v := 1) hx hb dL_law_1186 (by decide) ?_
  refine lv_iadd hx hb dL_law_1187 ?_
  refine lv_topi (fun y3 hy3 => ?_)
  obtain rfl : 1 = y3 := (hy3.trans (by decide)).symm
  refine va_sld hx hb hX hbl hbA hS (show ¬ ((1 : Int32) < 0 ∨ 6 ≤ (1 : Int32).toNatClampNeg) by decide) dL_law_1188 ?_
  refine lv_topi (fun y4 hy4 => ?_)
  obtain rfl : (xs 1) = y4 := (hy4.trans (rfl)).symm
  have hPc := hP.sub (ws' := [(h2, .inr (12, fM (vM av)))]) [0] rfl
  have hDc := hD.sub (ws' := [(h2, .inr (12, fM (vM av)))]) [0] (by decide) rfl
  have hKc := hK.sub (tys' := []) [] rfl
  have hFc := va_free (wc := [(h2, .inr (12, fM (vM av)))]) hD hS hA [0] rfl
  refine va_calli (va_runV (As := [.int (xs 1)]) (rest := [.int (-1)]) ⟨hx, hb, hml, hown, hts⟩ (p_X12_letter l dC dI h2 (vM av) (rfl) (xs 1) H.size) (cwV 1 hts glaw18_1 rfl rfl rfl (by decide +kernel) ⟨by decide +kernel, by decide +kernel⟩) ⟨fun a U g mk q => by obtain ⟨q0, q1, qP, qK, qD⟩ := q; exact ⟨q0, q1, qP, va_K.moved (u := U) (U := U.calling g mk a) (Vm.Alike.refl U.vm) qK, qD⟩, va_recv hKc hPc (ci := 12) (q0 := 0) rfl rfl, fun U hU9 hW => ⟨rfl, by rw [hU9], by rw [hU9]; exact hPc, va_K.moved hW.alike hKc, hDc.weaken (fun _ _ _ _ => trivial)⟩⟩ rfl rfl hl.1 rfl (lv_room (Nat.le_of_ble_eq_true rfl)) dL_law_1189 ⟨by decide +kernel, by decide +kernel⟩) hS (fun q _ h => hFc q h) hFc (fun r1189 u t H1 locs ht hvm hw hB hz1 hk1 hS => ?_)
  obtain ⟨w1189, hwit1189⟩ : ∃ w9, w9 = u := ⟨u, rfl⟩
  subst hwit1189
  obtain ⟨hP1, hK1, hD1⟩ := hB
  rw [ht] at hP1
  have hK1 := va_K.moved hvm.symm hK1
  obtain ⟨hP, hD⟩ := va_join (wr := [(o, .inl (kO, 1, .inr (.inl (fun _ => 0))))]) (w1 := [(h2, .inr (12, fM w1189))]) hP hD [0] [1] rfl rfl (by decide) (by decide) hk1 hFc hP1 hD1
  generalize H1 = H at hP hS ⊢
  have hP : va_P (dC, dI) vwCl [(o, .inl (kO, 1, .inr (.inl (fun _ => 0)))), (h2, .inr (12, fM w1189))] H := hP
  have hD : va_D A [(o, .inl (kO, 1, .inr (.inl (fun _ => 0)))), (h2, .inr (12, fM w1189))] := hD
  obtain ⟨rfl, f1189_0⟩ := hw
  refine lv_icmp_eq (tgt := 2131) hx hb dL_law_1192 (by decide) (fun _ => ?_) (fun c9 => absurd (by decide) c9)
  refine lv_iinc (v := 6) (lv' := [(4, .int 6), (3, .ref o), (2, .ref h2), (1, .ref h1), (0, .ref b)]) hx hb dL_law_2131 hl (k := 0) rfl (by decide) (by decide) rfl (fun ls hl => ?_)
  refine lv_goto (tgt := 23) hx hb dL_law_2134 (by decide) ?_
  refine lv_iload hx hb dL_law_23 (lv_at hl 0 rfl) ?_
  refine lv_aload_n hx hb dL_law_25 rfl (lv_at hl 4 rfl) ?_
  refine va_slen hx hb hX hbl hbA hS dL_law_26 ?_
  refine lv_topi (fun y5 hy5 => ?_)
  obtain rfl : 6 = y5 := (hy5.trans (rfl)).symm
  refine lv_bipush (v := 6) hx hb dL_law_27 (by decide) ?_
  refine lv_isub hx hb dL_law_29 ?_
  refine lv_topi (fun y6 hy6 => ?_)
  obtain rfl : 0 = y6 := (hy6.trans (by decide)).symm
  refine lv_icmp_gt (tgt := 2137) hx hb dL_law_30 (by decide) (fun _ => ?_) (fun c9 => absurd (by decide) c9)
  refine lv_iconst (v := 1) hx hb dL_law_2137 (by decide) ?_
  refine W.widen (k := 600002) (n := 7302232) (by decide +kernel) (by decide +kernel) ?_
  refine va_forget (fun q hq => hA2 _ (hS.2.2 q hq)) ?_
  exact lw_ret hx hb hr hlocks dL_law_2138
theorem dL_law_1197 : decode cL_law 1197 = .ok (.aload_n 1, 1) := by decide +kernel
theorem dL_law_1198 : decode cL_law 1198 = .ok (.aload_n 0, 1) := by decide +kernel
theorem dL_law_1199 : decode cL_law 1199 = .ok (.iload 4, 2) := by decide +kernel
theorem dL_law_1201 : decode cL_law 1201 = .ok (.iconst 1, 1) := by decide +kernel
theorem dL_law_1202 : decode cL_law 1202 = .ok (.iadd, 1) := by decide +kernel
theorem dL_law_1203 : decode cL_law 1203 = .ok (.iaload, 1) := by decide +kernel
theorem dL_law_1204 : decode cL_law 1204 = .ok (.invokevirtual 167, 3) := by decide +kernel
theorem dL_law_1207 : decode cL_law 1207 = .ok (.aload_n 2, 1) := by decide +kernel
theorem dL_law_1208 : decode cL_law 1208 = .ok (.aload_n 0, 1) := by decide +kernel
theorem dL_law_1209 : decode cL_law 1209 = .ok (.iload 4, 2) := by decide +kernel
theorem dL_law_1211 : decode cL_law 1211 = .ok (.iconst 1, 1) := by decide +kernel
theorem dL_law_1212 : decode cL_law 1212 = .ok (.iadd, 1) := by decide +kernel
theorem dL_law_1213 : decode cL_law 1213 = .ok (.iaload, 1) := by decide +kernel
theorem dL_law_1214 : decode cL_law 1214 = .ok (.invokevirtual 170, 3) := by decide +kernel
theorem dL_law_1217 : decode cL_law 1217 = .ok (.if_icmp .eq 914, 3) := by decide +kernel
theorem dL_law_1220 : decode cL_law 1220 = .ok (.iconst 0, 1) := by decide +kernel
theorem dL_law_1221 : decode cL_law 1221 = .ok (.ireturn, 1) := by decide +kernel
theorem glaw19_0 : GoodIn lw_tbl (wsV RL 167 RX11 yX11_about wsPX11_about) := goodIn_sub ((List.forall_mem_append.mpr ⟨(mem_p ([.methodLink RL 167 yX11_about, .instanceMethod yX11_about, .selects RX11 yX11_about yX11_about, .initialized RX11] : List Cond) [(2, 41), (2, 42), (2, 43), (1, 1)] (by decide +kernel)), ml_wsPX11_about⟩ : ∀ w ∈ wsV RL 167 RX11 yX11_about wsPX11_about, w ∈ lw_tbl)) (by decide +kernel)
theorem glaw19_1 : GoodIn lw_tbl (wsV RL 170 RX12 yX12_about wsPX12_about) := goodIn_sub ((List.forall_mem_append.mpr ⟨(mem_p ([.methodLink RL 170 yX12_about, .instanceMethod yX12_about, .selects RX12 yX12_about yX12_about, .initialized RX12] : List Cond) [(15, 88), (15, 89), (15, 90), (1, 4)] (by decide +kernel)), ml_wsPX12_about⟩ : ∀ w ∈ wsV RL 170 RX12 yX12_about wsPX12_about, w ∈ lw_tbl)) (by decide +kernel)
set_option maxHeartbeats 4000000 in
set_option maxRecDepth 100000 in
/-- the law's case 19: about -/
theorem lc_19 {p : Program} {e : Env} {s : State} {m : MethodId} {below : List Frame} {meth : Method} {c : Code} (l : Launch) (hst : l.stackTraces = false) {b : Nat} {xs : Nat → Int32} (C0 : lw_At p s m meth c b 6 xs) {A : Nat → Prop} (hA : ∀ q : Nat, s.heap.size ≤ q → A q) (hA2 : ∀ q : Nat, A q → s.heap.size ≤ q) (X0 : lx_ok A s) (dC : Nat → ClassId) (dI : Nat → Nat → Nat) {h1 h2 o : Nat} {a : Nat → Nat} {k : Nat → ClassId} {av : Nat → Nat} {kv : Nat → ClassId} {kO : ClassId} {H : Heap} {locs : List Loc} {ls : Array Slot} (hK : va_K (dC, dI) vwCl [(kO, .long)] s) (hP : va_P (dC, dI) vwCl [(h1, .inr (11, [.ref (a 0), .ref (a 1), .ref (a 3), .ref (a 14), .int 0, .null, .null, .null, .null, .null, .null])), ((a 1), .inr (9, [.ref (a 2), .int 0, .int 0, .int (-1), .int 0, .int 0, .int 0, .long 0, .int 0])), ((a 3), .inr (1, [.int 0, .int 0, .int 0, .int 0, .int 0, .int 0, .ref (a 4), .ref (a 5), .ref (a 6), .ref (a 7), .int 0, .ref (a 8), .ref (a 9), .ref (a 10), .ref (a 11), .ref (a 12), .ref (a 13)])), (h2, .inr (12, fM (vM av))), (o, .inl (kO, 1, .inr (.inl (fun _ => 0))))] H) (hD : va_D A [(h1, .inr (11, [.ref (a 0), .ref (a 1), .ref (a 3), .ref (a 14), .int 0, .null, .null, .null, .null, .null, .null])), ((a 1), .inr (9, [.ref (a 2), .int 0, .int 0, .int (-1), .int 0, .int 0, .int 0, .long 0, .int 0])), ((a 3), .inr (1, [.int 0, .int 0, .int 0, .int 0, .int 0, .int 0, .ref (a 4), .ref (a 5), .ref (a 6), .ref (a 7), .int 0, .ref (a 8), .ref (a 9), .ref (a 10), .ref (a 11), .ref (a 12), .ref (a 13)])), (h2, .inr (12, fM (vM av))), (o, .inl (kO, 1, .inr (.inl (fun _ => 0))))]) (hS : va_S A s.heap H locs) (hl : lv_has ls 7 [(4, .int 0), (3, .ref o), (2, .ref h2), (1, .ref h1), (0, .ref b)]) : W p l e room_1 s m #[Value.ref b] below meth c H locs 125 181434 (lw_Z below #[Value.ref b] s) (F0 m 1197 ls []) := by
  obtain ⟨hx, hb, hr, hml, hown, hts, hX, hbl, hlocks, hgv⟩ := id C0
  have hb : c.code = cL_law := hb
  have hown : s.vm.findClass RL = some m.cls := hown
  obtain ⟨hU, hN, hnX11_343, hnX11_392, hnX11_421, hncAI, hngX11_161, hngX11_79, hngX11_95⟩ := X0
  have hbA : ¬ A b := fun h => absurd (hA2 b h) (Nat.not_le.mpr hbl)
  refine lv_aload_n hx hb dL_law_1197 rfl (lv_at hl 3 rfl) ?_
  refine lv_aload_n hx hb dL_law_1198 rfl (lv_at hl 4 rfl) ?_
  refine lv_iload hx hb dL_law_1199 (lv_at hl 0 rfl) ?_
  refine lv_iconst (v := 1) hx hb dL_law_1201 (by decide) ?_
  refine lv_iadd hx hb dL_law_1202 ?_
  refine lv_topi (fun y1 hy1 => ?_)
  obtain rfl : 1 = y1 := (hy1.trans (by decide)).symm
  refine va_sld hx hb hX hbl hbA hS (show ¬ ((1 : Int32) < 0 ∨ 6 ≤ (1 : Int32).toNatClampNeg) by decide) dL_law_1203 ?_
  refine lv_topi (fun y2 hy2 => ?_)
  obtain rfl : (xs 1) = y2 := (hy2.trans (rfl)).symm
  have hPc := hP.sub (ws' := [(h1, .inr (11, [.ref (a 0), .ref (a 1), .ref (a 3), .ref (a 14), .int 0, .null, .null, .null, .null, .null, .null])), ((a 1), .inr (9, [.ref (a 2), .int 0, .int 0, .int (-1), .int 0, .int 0, .int 0, .long 0, .int 0])), ((a 3), .inr (1, [.int 0, .int 0, .int 0, .int 0, .int 0, .int 0, .ref (a 4), .ref (a 5), .ref (a 6), .ref (a 7), .int 0, .ref (a 8), .ref (a 9), .ref (a 10), .ref (a 11), .ref (a 12), .ref (a 13)]))]) [0, 1, 2] rfl
  have hDc := hD.sub (ws' := [(h1, .inr (11, [.ref (a 0), .ref (a 1), .ref (a 3), .ref (a 14), .int 0, .null, .null, .null, .null, .null, .null])), ((a 1), .inr (9, [.ref (a 2), .int 0, .int 0, .int (-1), .int 0, .int 0, .int 0, .long 0, .int 0])), ((a 3), .inr (1, [.int 0, .int 0, .int 0, .int 0, .int 0, .int 0, .ref (a 4), .ref (a 5), .ref (a 6), .ref (a 7), .int 0, .ref (a 8), .ref (a 9), .ref (a 10), .ref (a 11), .ref (a 12), .ref (a 13)]))]) [0, 1, 2] (by decide) rfl
  have hKc := hK.sub (tys' := []) [] rfl
  have hFc := va_free (wc := [(h1, .inr (11, [.ref (a 0), .ref (a 1), .ref (a 3), .ref (a 14), .int 0, .null, .null, .null, .null, .null, .null])), ((a 1), .inr (9, [.ref (a 2), .int 0, .int 0, .int (-1), .int 0, .int 0, .int 0, .long 0, .int 0])), ((a 3), .inr (1, [.int 0, .int 0, .int 0, .int 0, .int 0, .int 0, .ref (a 4), .ref (a 5), .ref (a 6), .ref (a 7), .int 0, .ref (a 8), .ref (a 9), .ref (a 10), .ref (a 11), .ref (a 12), .ref (a 13)]))]) hD hS hA [0, 1, 2] rfl
  refine va_calli (va_runV (As := [.int (xs 1)]) (rest := []) ⟨hx, hb, hml, hown, hts⟩ (p_X11_about l dC dI h1 a (xs 1) H.size) (cwV 1 hts glaw19_0 rfl rfl rfl (by decide +kernel) ⟨by decide +kernel, by decide +kernel⟩) ⟨fun a U g mk q => by obtain ⟨q0, q1, qP, qK, qD⟩ := q; exact ⟨q0, q1, qP, va_K.moved (u := U) (U := U.calling g mk a) (Vm.Alike.refl U.vm) qK, qD⟩, va_recv hKc hPc (ci := 11) (q0 := 0) rfl rfl, fun U hU9 hW => ⟨rfl, by rw [hU9], by rw [hU9]; exact hPc, va_K.moved hW.alike hKc, hDc.weaken (fun _ _ _ _ => trivial)⟩⟩ rfl rfl hl.1 rfl (lv_room (Nat.le_of_ble_eq_true rfl)) dL_law_1204 ⟨by decide +kernel, by decide +kernel⟩) hS (fun q _ h => hFc q h) hFc (fun r1204 u t H1 locs ht hvm hw hB hz1 hk1 hS => ?_)
  obtain ⟨hP1, hK1, hD1⟩ := hB
  rw [ht] at hP1
  have hK1 := va_K.moved hvm.symm hK1
  obtain ⟨hP, hD⟩ := va_join (wr := [(h2, .inr (12, fM (vM av))), (o, .inl (kO, 1, .inr (.inl (fun _ => 0))))]) (w1 := []) hP hD [0, 1, 2] [3, 4] rfl rfl (by decide) (by decide) hk1 hFc hP1 hD1
  generalize H1 = H at hP hS ⊢
  have hP : va_P (dC, dI) vwCl [(h2, .inr (12, fM (vM av))), (o, .inl (kO, 1, .inr (.inl (fun _ => 0))))] H := hP
  have hD : va_D A [(h2, .inr (12, fM (vM av))), (o, .inl (kO, 1, .inr (.inl (fun _ => 0))))] := hD
  rcases hw with ⟨rfl, f1204_0⟩ | ⟨rfl, f1204_0⟩
  · refine lv_aload_n hx hb dL_law_1207 rfl (lv_at hl 2 rfl) ?_
    refine lv_aload_n hx hb dL_law_1208 rfl (lv_at hl 4 rfl) ?_
    refine lv_iload hx hb dL_law_1209 (lv_at hl 0 rfl) ?_
    refine lv_iconst (v := 1) hx hb dL_law_1211 (by decide) ?_
    refine lv_iadd hx hb dL_law_1212 ?_
    refine lv_topi (fun y3 hy3 => ?_)
    obtain rfl : 1 = y3 := (hy3.trans (by decide)).symm
    refine va_sld hx hb hX hbl hbA hS (show ¬ ((1 : Int32) < 0 ∨ 6 ≤ (1 : Int32).toNatClampNeg) by decide) dL_law_1213 ?_
    refine lv_topi (fun y4 hy4 => ?_)
    obtain rfl : (xs 1) = y4 := (hy4.trans (rfl)).symm
    have hPc := hP.sub (ws' := [(h2, .inr (12, fM (vM av)))]) [0] rfl
    have hDc := hD.sub (ws' := [(h2, .inr (12, fM (vM av)))]) [0] (by decide) rfl
    have hKc := hK.sub (tys' := []) [] rfl
    have hFc := va_free (wc := [(h2, .inr (12, fM (vM av)))]) hD hS hA [0] rfl
    refine va_calli (va_runV (As := [.int (xs 1)]) (rest := [.int 0]) ⟨hx, hb, hml, hown, hts⟩ (p_X12_about l dC dI h2 (vM av) (rfl) (rfl) (rfl) (rfl) (rfl) (rfl) (rfl) (xs 1) H.size) (cwV 1 hts glaw19_1 rfl rfl rfl (by decide +kernel) ⟨by decide +kernel, by decide +kernel⟩) ⟨fun a U g mk q => by obtain ⟨q0, q1, qP, qK, qD⟩ := q; exact ⟨q0, q1, qP, va_K.moved (u := U) (U := U.calling g mk a) (Vm.Alike.refl U.vm) qK, qD⟩, va_recv hKc hPc (ci := 12) (q0 := 0) rfl rfl, fun U hU9 hW => ⟨rfl, by rw [hU9], by rw [hU9]; exact hPc, va_K.moved hW.alike hKc, hDc.weaken (fun _ _ _ _ => trivial)⟩⟩ rfl rfl hl.1 rfl (lv_room (Nat.le_of_ble_eq_true rfl)) dL_law_1214 ⟨by decide +kernel, by decide +kernel⟩) hS (fun q _ h => hFc q h) hFc (fun r1214 u t H1 locs ht hvm hw hB hz1 hk1 hS => ?_)
    obtain ⟨w1214, hwit1214⟩ : ∃ w9, w9 = u := ⟨u, rfl⟩
    subst hwit1214
    obtain ⟨hP1, hK1, hD1⟩ := hB
    rw [ht] at hP1
    have hK1 := va_K.moved hvm.symm hK1
    obtain ⟨hP, hD⟩ := va_join (wr := [(o, .inl (kO, 1, .inr (.inl (fun _ => 0))))]) (w1 := [(h2, .inr (12, fM w1214))]) hP hD [0] [1] rfl rfl (by decide) (by decide) hk1 hFc hP1 hD1
    generalize H1 = H at hP hS ⊢
    have hP : va_P (dC, dI) vwCl [(o, .inl (kO, 1, .inr (.inl (fun _ => 0)))), (h2, .inr (12, fM w1214))] H := hP
    have hD : va_D A [(o, .inl (kO, 1, .inr (.inl (fun _ => 0)))), (h2, .inr (12, fM w1214))] := hD
    rcases hw with ⟨rfl, f1214_0, f1214_1⟩ | ⟨rfl, f1214_0, f1214_1⟩
    · refine lv_icmp_eq (tgt := 2131) hx hb dL_law_1217 (by decide) (fun _ => ?_) (fun c9 => absurd (by decide) c9)
      refine lv_iinc (v := 6) (lv' := [(4, .int 6), (3, .ref o), (2, .ref h2), (1, .ref h1), (0, .ref b)]) hx hb dL_law_2131 hl (k := 0) rfl (by decide) (by decide) rfl (fun ls hl => ?_)
      refine lv_goto (tgt := 23) hx hb dL_law_2134 (by decide) ?_
      refine lv_iload hx hb dL_law_23 (lv_at hl 0 rfl) ?_
      refine lv_aload_n hx hb dL_law_25 rfl (lv_at hl 4 rfl) ?_
      refine va_slen hx hb hX hbl hbA hS dL_law_26 ?_
      refine lv_topi (fun y5 hy5 => ?_)
      obtain rfl : 6 = y5 := (hy5.trans (rfl)).symm
      refine lv_bipush (v := 6) hx hb dL_law_27 (by decide) ?_
      refine lv_isub hx hb dL_law_29 ?_
      refine lv_topi (fun y6 hy6 => ?_)
      obtain rfl : 0 = y6 := (hy6.trans (by decide)).symm
      refine lv_icmp_gt (tgt := 2137) hx hb dL_law_30 (by decide) (fun _ => ?_) (fun c9 => absurd (by decide) c9)
      refine lv_iconst (v := 1) hx hb dL_law_2137 (by decide) ?_
      refine W.widen (k := 600002) (n := 7302232) (by decide +kernel) (by decide +kernel) ?_
      refine va_forget (fun q hq => hA2 _ (hS.2.2 q hq)) ?_
      exact lw_ret hx hb hr hlocks dL_law_2138
    · refine lv_icmp_eq (tgt := 2131) hx hb dL_law_1217 (by decide) (fun c9 => absurd c9 (by decide)) (fun _ => ?_)
      refine lv_iconst (v := 0) hx hb dL_law_1220 (by decide) ?_
      refine W.widen (k := 600002) (n := 7302232) (by decide +kernel) (by decide +kernel) ?_
      exact False.elim (by omega)
  · refine lv_aload_n hx hb dL_law_1207 rfl (lv_at hl 2 rfl) ?_
    refine lv_aload_n hx hb dL_law_1208 rfl (lv_at hl 4 rfl) ?_
    refine lv_iload hx hb dL_law_1209 (lv_at hl 0 rfl) ?_
    refine lv_iconst (v := 1) hx hb dL_law_1211 (by decide) ?_
    refine lv_iadd hx hb dL_law_1212 ?_
    refine lv_topi (fun y7 hy7 => ?_)
    obtain rfl : 1 = y7 := (hy7.trans (by decide)).symm
    refine va_sld hx hb hX hbl hbA hS (show ¬ ((1 : Int32) < 0 ∨ 6 ≤ (1 : Int32).toNatClampNeg) by decide) dL_law_1213 ?_
    refine lv_topi (fun y8 hy8 => ?_)
    obtain rfl : (xs 1) = y8 := (hy8.trans (rfl)).symm
    have hPc := hP.sub (ws' := [(h2, .inr (12, fM (vM av)))]) [0] rfl
    have hDc := hD.sub (ws' := [(h2, .inr (12, fM (vM av)))]) [0] (by decide) rfl
    have hKc := hK.sub (tys' := []) [] rfl
    have hFc := va_free (wc := [(h2, .inr (12, fM (vM av)))]) hD hS hA [0] rfl
    refine va_calli (va_runV (As := [.int (xs 1)]) (rest := [.int (-1)]) ⟨hx, hb, hml, hown, hts⟩ (p_X12_about l dC dI h2 (vM av) (rfl) (rfl) (rfl) (rfl) (rfl) (rfl) (rfl) (xs 1) H.size) (cwV 1 hts glaw19_1 rfl rfl rfl (by decide +kernel) ⟨by decide +kernel, by decide +kernel⟩) ⟨fun a U g mk q => by obtain ⟨q0, q1, qP, qK, qD⟩ := q; exact ⟨q0, q1, qP, va_K.moved (u := U) (U := U.calling g mk a) (Vm.Alike.refl U.vm) qK, qD⟩, va_recv hKc hPc (ci := 12) (q0 := 0) rfl rfl, fun U hU9 hW => ⟨rfl, by rw [hU9], by rw [hU9]; exact hPc, va_K.moved hW.alike hKc, hDc.weaken (fun _ _ _ _ => trivial)⟩⟩ rfl rfl hl.1 rfl (lv_room (Nat.le_of_ble_eq_true rfl)) dL_law_1214 ⟨by decide +kernel, by decide +kernel⟩) hS (fun q _ h => hFc q h) hFc (fun r1214_1 u t H1 locs ht hvm hw hB hz1 hk1 hS => ?_)
    obtain ⟨w1214_1, hwit1214_1⟩ : ∃ w9, w9 = u := ⟨u, rfl⟩
    subst hwit1214_1
    obtain ⟨hP1, hK1, hD1⟩ := hB
    rw [ht] at hP1
    have hK1 := va_K.moved hvm.symm hK1
    obtain ⟨hP, hD⟩ := va_join (wr := [(o, .inl (kO, 1, .inr (.inl (fun _ => 0))))]) (w1 := [(h2, .inr (12, fM w1214_1))]) hP hD [0] [1] rfl rfl (by decide) (by decide) hk1 hFc hP1 hD1
    generalize H1 = H at hP hS ⊢
    have hP : va_P (dC, dI) vwCl [(o, .inl (kO, 1, .inr (.inl (fun _ => 0)))), (h2, .inr (12, fM w1214_1))] H := hP
    have hD : va_D A [(o, .inl (kO, 1, .inr (.inl (fun _ => 0)))), (h2, .inr (12, fM w1214_1))] := hD
    rcases hw with ⟨rfl, f1214_1_0, f1214_1_1⟩ | ⟨rfl, f1214_1_0, f1214_1_1⟩
    · refine lv_icmp_eq (tgt := 2131) hx hb dL_law_1217 (by decide) (fun c9 => absurd c9 (by decide)) (fun _ => ?_)
      refine lv_iconst (v := 0) hx hb dL_law_1220 (by decide) ?_
      refine W.widen (k := 600002) (n := 7302232) (by decide +kernel) (by decide +kernel) ?_
      exact False.elim (by omega)
    · refine lv_icmp_eq (tgt := 2131) hx hb dL_law_1217 (by decide) (fun _ => ?_) (fun c9 => absurd (by decide) c9)
      refine lv_iinc (v := 6) (lv' := [(4, .int 6), (3, .ref o), (2, .ref h2), (1, .ref h1), (0, .ref b)]) hx hb dL_law_2131 hl (k := 0) rfl (by decide) (by decide) rfl (fun ls hl => ?_)
      refine lv_goto (tgt := 23) hx hb dL_law_2134 (by decide) ?_
      refine lv_iload hx hb dL_law_23 (lv_at hl 0 rfl) ?_
      refine lv_aload_n hx hb dL_law_25 rfl (lv_at hl 4 rfl) ?_
      refine va_slen hx hb hX hbl hbA hS dL_law_26 ?_
      refine lv_topi (fun y9 hy9 => ?_)
      obtain rfl : 6 = y9 := (hy9.trans (rfl)).symm
      refine lv_bipush (v := 6) hx hb dL_law_27 (by decide) ?_
      refine lv_isub hx hb dL_law_29 ?_
      refine lv_topi (fun y10 hy10 => ?_)
      obtain rfl : 0 = y10 := (hy10.trans (by decide)).symm
      refine lv_icmp_gt (tgt := 2137) hx hb dL_law_30 (by decide) (fun _ => ?_) (fun c9 => absurd (by decide) c9)
      refine lv_iconst (v := 1) hx hb dL_law_2137 (by decide) ?_
      refine W.widen (k := 600002) (n := 7302232) (by decide +kernel) (by decide +kernel) ?_
      refine va_forget (fun q hq => hA2 _ (hS.2.2 q hq)) ?_
      exact lw_ret hx hb hr hlocks dL_law_2138

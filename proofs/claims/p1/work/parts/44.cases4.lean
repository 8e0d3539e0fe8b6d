theorem dL_law_1610 : decode cL_law 1610 = .ok (.aload_n 1, 1) := by decide +kernel
theorem dL_law_1611 : decode cL_law 1611 = .ok (.invokevirtual 206, 3) := by decide +kernel
theorem dL_law_1614 : decode cL_law 1614 = .ok (.aload_n 2, 1) := by decide +kernel
theorem dL_law_1615 : decode cL_law 1615 = .ok (.invokevirtual 210, 3) := by decide +kernel
theorem dL_law_1618 : decode cL_law 1618 = .ok (.if_icmp .eq 513, 3) := by decide +kernel
theorem glaw29_0 : GoodIn lw_tbl (wsV RL 206 RX11 yX11_unsay wsPX11_unsay) := goodIn_sub ((List.forall_mem_append.mpr ⟨(mem_p ([.methodLink RL 206 yX11_unsay, .instanceMethod yX11_unsay, .selects RX11 yX11_unsay yX11_unsay, .initialized RX11] : List Cond) [(3, 39), (3, 40), (3, 41), (1, 1)] (by decide +kernel)), ml_wsPX11_unsay⟩ : ∀ w ∈ wsV RL 206 RX11 yX11_unsay wsPX11_unsay, w ∈ lw_tbl)) (by decide +kernel)
theorem glaw29_1 : GoodIn lw_tbl (wsV RL 210 RX12 yX12_unsay wsPX12_unsay) := goodIn_sub ((List.forall_mem_append.mpr ⟨(mem_p ([.methodLink RL 210 yX12_unsay, .instanceMethod yX12_unsay, .selects RX12 yX12_unsay yX12_unsay, .initialized RX12] : List Cond) [(15, 207), (15, 208), (15, 209), (1, 4)] (by decide +kernel)), ml_wsPX12_unsay⟩ : ∀ w ∈ wsV RL 210 RX12 yX12_unsay wsPX12_unsay, w ∈ lw_tbl)) (by decide +kernel)
set_option maxHeartbeats 4000000 in
set_option maxRecDepth 100000 in
/-- the law's case 29: unsay -/
theorem lc_29 {p : Program} {e : Env} {s : State} {m : MethodId} {below : List Frame} {meth : Method} {c : Code} (l : Launch) (hst : l.stackTraces = false) {b : Nat} {xs : Nat → Int32} (C0 : lw_At p s m meth c b 6 xs) {A : Nat → Prop} (hA : ∀ q : Nat, s.heap.size ≤ q → A q) (hA2 : ∀ q : Nat, A q → s.heap.size ≤ q) (X0 : lx_ok A s) (dC : Nat → ClassId) (dI : Nat → Nat → Nat) {h1 h2 o : Nat} {a : Nat → Nat} {k : Nat → ClassId} {av : Nat → Nat} {kv : Nat → ClassId} {kO : ClassId} {H : Heap} {locs : List Loc} {ls : Array Slot} (hK : va_K (dC, dI) vwCl [(kO, .long)] s) (hP : va_P (dC, dI) vwCl [(h1, .inr (11, [.ref (a 0), .ref (a 1), .ref (a 3), .ref (a 14), .int 0, .null, .null, .null, .null, .null, .null])), (h2, .inr (12, fM (vM av))), (o, .inl (kO, 1, .inr (.inl (fun _ => 0))))] H) (hD : va_D A [(h1, .inr (11, [.ref (a 0), .ref (a 1), .ref (a 3), .ref (a 14), .int 0, .null, .null, .null, .null, .null, .null])), (h2, .inr (12, fM (vM av))), (o, .inl (kO, 1, .inr (.inl (fun _ => 0))))]) (hS : va_S A s.heap H locs) (hl : lv_has ls 7 [(4, .int 0), (3, .ref o), (2, .ref h2), (1, .ref h1), (0, .ref b)]) : W p l e room_1 s m #[Value.ref b] below meth c H locs 125 181434 (lw_Z below #[Value.ref b] s) (F0 m 1610 ls []) := by
  obtain ⟨hx, hb, hr, hml, hown, hts, hX, hbl, hlocks, hgv⟩ := id C0
  have hb : c.code = cL_law := hb
  have hown : s.vm.findClass RL = some m.cls := hown
  obtain ⟨hU, hN, hnX11_343, hnX11_392, hnX11_421, hncAI, hngX11_161, hngX11_79, hngX11_95⟩ := X0
  have hbA : ¬ A b := fun h => absurd (hA2 b h) (Nat.not_le.mpr hbl)
  refine lv_aload_n hx hb dL_law_1610 rfl (lv_at hl 3 rfl) ?_
  have hPc := hP.sub (ws' := [(h1, .inr (11, [.ref (a 0), .ref (a 1), .ref (a 3), .ref (a 14), .int 0, .null, .null, .null, .null, .null, .null]))]) [0] rfl
  have hDc := hD.sub (ws' := [(h1, .inr (11, [.ref (a 0), .ref (a 1), .ref (a 3), .ref (a 14), .int 0, .null, .null, .null, .null, .null, .null]))]) [0] (by decide) rfl
  have hKc := hK.sub (tys' := []) [] rfl
  have hFc := va_free (wc := [(h1, .inr (11, [.ref (a 0), .ref (a 1), .ref (a 3), .ref (a 14), .int 0, .null, .null, .null, .null, .null, .null]))]) hD hS hA [0] rfl
  refine va_calli (va_runV (As := []) (rest := []) ⟨hx, hb, hml, hown, hts⟩ (p_X11_unsay l dC dI h1 a H.size) (cwV 0 hts glaw29_0 rfl rfl rfl (by decide +kernel) ⟨by decide +kernel, by decide +kernel⟩) ⟨fun a U g mk q => by obtain ⟨q0, q1, qP, qK, qD, qhnX11_392⟩ := q; exact ⟨q0, q1, qP, va_K.moved (u := U) (U := U.calling g mk a) (Vm.Alike.refl U.vm) qK, qD, va_Nw.same (u := U) (U := U.calling g mk a) rfl rfl qhnX11_392⟩, va_recv hKc hPc (ci := 11) (q0 := 0) rfl rfl, fun U hU9 hW => ⟨rfl, by rw [hU9], by rw [hU9]; exact hPc, va_K.moved hW.alike hKc, hDc.weaken (fun _ _ _ _ => trivial), va_Nw.warmM hW hnX11_392⟩⟩ rfl rfl hl.1 rfl (lv_room (Nat.le_of_ble_eq_true rfl)) dL_law_1611 ⟨by decide +kernel, by decide +kernel⟩) hS (fun q _ h => hFc q h) hFc (fun r1611 u t H1 locs ht hvm hw hB hz1 hk1 hS => ?_)
  obtain ⟨hP1, hK1, hD1⟩ := hB
  rw [ht] at hP1
  have hK1 := va_K.moved hvm.symm hK1
  obtain ⟨hP, hD⟩ := va_join (wr := [(h2, .inr (12, fM (vM av))), (o, .inl (kO, 1, .inr (.inl (fun _ => 0))))]) (w1 := []) hP hD [0] [1, 2] rfl rfl (by decide) (by decide) hk1 hFc hP1 hD1
  generalize H1 = H at hP hS ⊢
  have hP : va_P (dC, dI) vwCl [(h2, .inr (12, fM (vM av))), (o, .inl (kO, 1, .inr (.inl (fun _ => 0))))] H := hP
  have hD : va_D A [(h2, .inr (12, fM (vM av))), (o, .inl (kO, 1, .inr (.inl (fun _ => 0))))] := hD
  refine W.widen (k := 131) (n := 189705) (by decide +kernel) (by decide +kernel) ?_
  obtain rfl := hw
  refine lv_aload_n hx hb dL_law_1614 rfl (lv_at hl 2 rfl) ?_
  have hPc := hP.sub (ws' := [(h2, .inr (12, fM (vM av)))]) [0] rfl
  have hDc := hD.sub (ws' := [(h2, .inr (12, fM (vM av)))]) [0] (by decide) rfl
  have hKc := hK.sub (tys' := []) [] rfl
  have hFc := va_free (wc := [(h2, .inr (12, fM (vM av)))]) hD hS hA [0] rfl
  refine va_calli (va_runV (As := []) (rest := [.int 0]) ⟨hx, hb, hml, hown, hts⟩ (p_X12_unsay l dC dI h2 (vM av) (rfl) H.size) (cwV 0 hts glaw29_1 rfl rfl rfl (by decide +kernel) ⟨by decide +kernel, by decide +kernel⟩) ⟨fun a U g mk q => by obtain ⟨q0, q1, qP, qK, qD⟩ := q; exact ⟨q0, q1, qP, va_K.moved (u := U) (U := U.calling g mk a) (Vm.Alike.refl U.vm) qK, qD⟩, va_recv hKc hPc (ci := 12) (q0 := 0) rfl rfl, fun U hU9 hW => ⟨rfl, by rw [hU9], by rw [hU9]; exact hPc, va_K.moved hW.alike hKc, hDc.weaken (fun _ _ _ _ => trivial)⟩⟩ rfl rfl hl.1 rfl (lv_room (Nat.le_of_ble_eq_true rfl)) dL_law_1615 ⟨by decide +kernel, by decide +kernel⟩) hS (fun q _ h => hFc q h) hFc (fun r1615 u t H1 locs ht hvm hw hB hz1 hk1 hS => ?_)
  obtain ⟨w1615, hwit1615⟩ : ∃ w9, w9 = u := ⟨u, rfl⟩
  subst hwit1615
  obtain ⟨hP1, hK1, hD1⟩ := hB
  rw [ht] at hP1
  have hK1 := va_K.moved hvm.symm hK1
  obtain ⟨hP, hD⟩ := va_join (wr := [(o, .inl (kO, 1, .inr (.inl (fun _ => 0))))]) (w1 := [(h2, .inr (12, fM w1615))]) hP hD [0] [1] rfl rfl (by decide) (by decide) hk1 hFc hP1 hD1
  generalize H1 = H at hP hS ⊢
  have hP : va_P (dC, dI) vwCl [(o, .inl (kO, 1, .inr (.inl (fun _ => 0)))), (h2, .inr (12, fM w1615))] H := hP
  have hD : va_D A [(o, .inl (kO, 1, .inr (.inl (fun _ => 0)))), (h2, .inr (12, fM w1615))] := hD
  obtain ⟨rfl, f1615_0⟩ := hw
  refine lv_icmp_eq (tgt := 2131) hx hb dL_law_1618 (by decide) (fun _ => ?_) (fun c9 => absurd (by decide) c9)
  refine lv_iinc (v := 6) (lv' := [(4, .int 6), (3, .ref o), (2, .ref h2), (1, .ref h1), (0, .ref b)]) hx hb dL_law_2131 hl (k := 0) rfl (by decide) (by decide) rfl (fun ls hl => ?_)
  refine lv_goto (tgt := 23) hx hb dL_law_2134 (by decide) ?_
  refine lv_iload hx hb dL_law_23 (lv_at hl 0 rfl) ?_
  refine lv_aload_n hx hb dL_law_25 rfl (lv_at hl 4 rfl) ?_
  refine va_slen hx hb hX hbl hbA hS dL_law_26 ?_
  refine lv_topi (fun y1 hy1 => ?_)
  obtain rfl : 6 = y1 := (hy1.trans (rfl)).symm
  refine lv_bipush (v := 6) hx hb dL_law_27 (by decide) ?_
  refine lv_isub hx hb dL_law_29 ?_
  refine lv_topi (fun y2 hy2 => ?_)
  obtain rfl : 0 = y2 := (hy2.trans (by decide)).symm
  refine lv_icmp_gt (tgt := 2137) hx hb dL_law_30 (by decide) (fun _ => ?_) (fun c9 => absurd (by decide) c9)
  refine lv_iconst (v := 1) hx hb dL_law_2137 (by decide) ?_
  refine W.widen (k := 600002) (n := 7302232) (by decide +kernel) (by decide +kernel) ?_
  refine va_forget (fun q hq => hA2 _ (hS.2.2 q hq)) ?_
  exact lw_ret hx hb hr hlocks dL_law_2138
theorem dL_law_1623 : decode cL_law 1623 = .ok (.aload_n 1, 1) := by decide +kernel
theorem dL_law_1624 : decode cL_law 1624 = .ok (.aload_n 0, 1) := by decide +kernel
theorem dL_law_1625 : decode cL_law 1625 = .ok (.iload 4, 2) := by decide +kernel
theorem dL_law_1627 : decode cL_law 1627 = .ok (.iconst 1, 1) := by decide +kernel
theorem dL_law_1628 : decode cL_law 1628 = .ok (.iadd, 1) := by decide +kernel
theorem dL_law_1629 : decode cL_law 1629 = .ok (.iaload, 1) := by decide +kernel
theorem dL_law_1630 : decode cL_law 1630 = .ok (.invokevirtual 211, 3) := by decide +kernel
theorem dL_law_1633 : decode cL_law 1633 = .ok (.aload_n 2, 1) := by decide +kernel
theorem dL_law_1634 : decode cL_law 1634 = .ok (.aload_n 0, 1) := by decide +kernel
theorem dL_law_1635 : decode cL_law 1635 = .ok (.iload 4, 2) := by decide +kernel
theorem dL_law_1637 : decode cL_law 1637 = .ok (.iconst 1, 1) := by decide +kernel
theorem dL_law_1638 : decode cL_law 1638 = .ok (.iadd, 1) := by decide +kernel
theorem dL_law_1639 : decode cL_law 1639 = .ok (.iaload, 1) := by decide +kernel
theorem dL_law_1640 : decode cL_law 1640 = .ok (.invokevirtual 214, 3) := by decide +kernel
theorem dL_law_1643 : decode cL_law 1643 = .ok (.if_icmp .eq 488, 3) := by decide +kernel
theorem dL_law_1646 : decode cL_law 1646 = .ok (.iconst 0, 1) := by decide +kernel
theorem dL_law_1647 : decode cL_law 1647 = .ok (.ireturn, 1) := by decide +kernel
theorem glaw30_0 : GoodIn lw_tbl (wsV RL 211 RX11 yX11_truth wsPX11_truth) := goodIn_sub ((List.forall_mem_append.mpr ⟨(mem_p ([.methodLink RL 211 yX11_truth, .instanceMethod yX11_truth, .selects RX11 yX11_truth yX11_truth, .initialized RX11] : List Cond) [(3, 84), (3, 85), (3, 86), (1, 1)] (by decide +kernel)), ml_wsPX11_truth⟩ : ∀ w ∈ wsV RL 211 RX11 yX11_truth wsPX11_truth, w ∈ lw_tbl)) (by decide +kernel)
theorem glaw30_1 : GoodIn lw_tbl (wsV RL 214 RX12 yX12_truth wsPX12_truth) := goodIn_sub ((List.forall_mem_append.mpr ⟨(mem_p ([.methodLink RL 214 yX12_truth, .instanceMethod yX12_truth, .selects RX12 yX12_truth yX12_truth, .initialized RX12] : List Cond) [(15, 211), (15, 212), (15, 213), (1, 4)] (by decide +kernel)), ml_wsPX12_truth⟩ : ∀ w ∈ wsV RL 214 RX12 yX12_truth wsPX12_truth, w ∈ lw_tbl)) (by decide +kernel)
set_option maxHeartbeats 4000000 in
set_option maxRecDepth 100000 in
/-- the law's case 30: truth -/
theorem lc_30 {p : Program} {e : Env} {s : State} {m : MethodId} {below : List Frame} {meth : Method} {c : Code} (l : Launch) (hst : l.stackTraces = false) {b : Nat} {xs : Nat → Int32} (C0 : lw_At p s m meth c b 6 xs) {A : Nat → Prop} (hA : ∀ q : Nat, s.heap.size ≤ q → A q) (hA2 : ∀ q : Nat, A q → s.heap.size ≤ q) (X0 : lx_ok A s) (dC : Nat → ClassId) (dI : Nat → Nat → Nat) {h1 h2 o : Nat} {a : Nat → Nat} {k : Nat → ClassId} {av : Nat → Nat} {kv : Nat → ClassId} {kO : ClassId} {H : Heap} {locs : List Loc} {ls : Array Slot} (hK : va_K (dC, dI) vwCl [(kO, .long)] s) (hP : va_P (dC, dI) vwCl [(h1, .inr (11, [.ref (a 0), .ref (a 1), .ref (a 3), .ref (a 14), .int 0, .null, .null, .null, .null, .null, .null])), (h2, .inr (12, fM (vM av))), (o, .inl (kO, 1, .inr (.inl (fun _ => 0))))] H) (hD : va_D A [(h1, .inr (11, [.ref (a 0), .ref (a 1), .ref (a 3), .ref (a 14), .int 0, .null, .null, .null, .null, .null, .null])), (h2, .inr (12, fM (vM av))), (o, .inl (kO, 1, .inr (.inl (fun _ => 0))))]) (hS : va_S A s.heap H locs) (hl : lv_has ls 7 [(4, .int 0), (3, .ref o), (2, .ref h2), (1, .ref h1), (0, .ref b)]) : W p l e room_1 s m #[Value.ref b] below meth c H locs 125 181434 (lw_Z below #[Value.ref b] s) (F0 m 1623 ls []) := by
  obtain ⟨hx, hb, hr, hml, hown, hts, hX, hbl, hlocks, hgv⟩ := id C0
  have hb : c.code = cL_law := hb
  have hown : s.vm.findClass RL = some m.cls := hown
  obtain ⟨hU, hN, hnX11_343, hnX11_392, hnX11_421, hncAI, hngX11_161, hngX11_79, hngX11_95⟩ := X0
  have hbA : ¬ A b := fun h => absurd (hA2 b h) (Nat.not_le.mpr hbl)
  refine lv_aload_n hx hb dL_law_1623 rfl (lv_at hl 3 rfl) ?_
  refine lv_aload_n hx hb dL_law_1624 rfl (lv_at hl 4 rfl) ?_
  refine lv_iload hx hb dL_law_1625 (lv_at hl 0 rfl) ?_
  refine lv_iconst (v := 1) hx hb dL_law_1627 (by decide) ?_
  refine lv_iadd hx hb dL_law_1628 ?_
  refine lv_topi (fun y1 hy1 => ?_)
  obtain rfl : 1 = y1 := (hy1.trans (by decide)).symm
  refine va_sld hx hb hX hbl hbA hS (show ¬ ((1 : Int32) < 0 ∨ 6 ≤ (1 : Int32).toNatClampNeg) by decide) dL_law_1629 ?_
  refine lv_topi (fun y2 hy2 => ?_)
  obtain rfl : (xs 1) = y2 := (hy2.trans (rfl)).symm
  have hPc := hP.sub (ws' := [(h1, .inr (11, [.ref (a 0), .ref (a 1), .ref (a 3), .ref (a 14), .int 0, .null, .null, .null, .null, .null, .null]))]) [0] rfl
  have hDc := hD.sub (ws' := [(h1, .inr (11, [.ref (a 0), .ref (a 1), .ref (a 3), .ref (a 14), .int 0, .null, .null, .null, .null, .null, .null]))]) [0] (by decide) rfl
  have hKc := hK.sub (tys' := []) [] rfl
  have hFc := va_free (wc := [(h1, .inr (11, [.ref (a 0), .ref (a 1), .ref (a 3), .ref (a 14), .int 0, .null, .null, .null, .null, .null, .null]))]) hD hS hA [0] rfl
  refine va_calli (va_runV (As := [.int (xs 1)]) (rest := []) ⟨hx, hb, hml, hown, hts⟩ (p_X11_truth l dC dI h1 a (xs 1) H.size) (cwV 1 hts glaw30_0 rfl rfl rfl (by decide +kernel) ⟨by decide +kernel, by decide +kernel⟩) ⟨fun a U g mk q => by obtain ⟨q0, q1, qP, qK, qD, qhnX11_392⟩ := q; exact ⟨q0, q1, qP, va_K.moved (u := U) (U := U.calling g mk a) (Vm.Alike.refl U.vm) qK, qD, va_Nw.same (u := U) (U := U.calling g mk a) rfl rfl qhnX11_392⟩, va_recv hKc hPc (ci := 11) (q0 := 0) rfl rfl, fun U hU9 hW => ⟨rfl, by rw [hU9], by rw [hU9]; exact hPc, va_K.moved hW.alike hKc, hDc.weaken (fun _ _ _ _ => trivial), va_Nw.warmM hW hnX11_392⟩⟩ rfl rfl hl.1 rfl (lv_room (Nat.le_of_ble_eq_true rfl)) dL_law_1630 ⟨by decide +kernel, by decide +kernel⟩) hS (fun q _ h => hFc q h) hFc (fun r1630 u t H1 locs ht hvm hw hB hz1 hk1 hS => ?_)
  obtain ⟨hP1, hK1, hD1⟩ := hB
  rw [ht] at hP1
  have hK1 := va_K.moved hvm.symm hK1
  obtain ⟨hP, hD⟩ := va_join (wr := [(h2, .inr (12, fM (vM av))), (o, .inl (kO, 1, .inr (.inl (fun _ => 0))))]) (w1 := []) hP hD [0] [1, 2] rfl rfl (by decide) (by decide) hk1 hFc hP1 hD1
  generalize H1 = H at hP hS ⊢
  have hP : va_P (dC, dI) vwCl [(h2, .inr (12, fM (vM av))), (o, .inl (kO, 1, .inr (.inl (fun _ => 0))))] H := hP
  have hD : va_D A [(h2, .inr (12, fM (vM av))), (o, .inl (kO, 1, .inr (.inl (fun _ => 0))))] := hD
  refine W.widen (k := 131) (n := 189705) (by decide +kernel) (by decide +kernel) ?_
  rcases hw with ⟨f1630_0, f1630_1⟩ | ⟨f1630_0, f1630_1⟩ | ⟨rfl, f1630_0⟩
  · refine lv_aload_n hx hb dL_law_1633 rfl (lv_at hl 2 rfl) ?_
    refine lv_aload_n hx hb dL_law_1634 rfl (lv_at hl 4 rfl) ?_
    refine lv_iload hx hb dL_law_1635 (lv_at hl 0 rfl) ?_
    refine lv_iconst (v := 1) hx hb dL_law_1637 (by decide) ?_
    refine lv_iadd hx hb dL_law_1638 ?_
    refine lv_topi (fun y3 hy3 => ?_)
    obtain rfl : 1 = y3 := (hy3.trans (by decide)).symm
    refine va_sld hx hb hX hbl hbA hS (show ¬ ((1 : Int32) < 0 ∨ 6 ≤ (1 : Int32).toNatClampNeg) by decide) dL_law_1639 ?_
    refine lv_topi (fun y4 hy4 => ?_)
    obtain rfl : (xs 1) = y4 := (hy4.trans (rfl)).symm
    have hPc := hP.sub (ws' := [(h2, .inr (12, fM (vM av)))]) [0] rfl
    have hDc := hD.sub (ws' := [(h2, .inr (12, fM (vM av)))]) [0] (by decide) rfl
    have hKc := hK.sub (tys' := []) [] rfl
    have hFc := va_free (wc := [(h2, .inr (12, fM (vM av)))]) hD hS hA [0] rfl
    refine va_calli (va_runV (As := [.int (xs 1)]) (rest := [.int r1630]) ⟨hx, hb, hml, hown, hts⟩ (p_X12_truth l dC dI h2 (vM av) (rfl) (xs 1) H.size) (cwV 1 hts glaw30_1 rfl rfl rfl (by decide +kernel) ⟨by decide +kernel, by decide +kernel⟩) ⟨fun a U g mk q => by obtain ⟨q0, q1, qP, qK, qD⟩ := q; exact ⟨q0, q1, qP, va_K.moved (u := U) (U := U.calling g mk a) (Vm.Alike.refl U.vm) qK, qD⟩, va_recv hKc hPc (ci := 12) (q0 := 0) rfl rfl, fun U hU9 hW => ⟨rfl, by rw [hU9], by rw [hU9]; exact hPc, va_K.moved hW.alike hKc, hDc.weaken (fun _ _ _ _ => trivial)⟩⟩ rfl rfl hl.1 rfl (lv_room (Nat.le_of_ble_eq_true rfl)) dL_law_1640 ⟨by decide +kernel, by decide +kernel⟩) hS (fun q _ h => hFc q h) hFc (fun r1640 u t H1 locs ht hvm hw hB hz1 hk1 hS => ?_)
    obtain ⟨w1640, hwit1640⟩ : ∃ w9, w9 = u := ⟨u, rfl⟩
    subst hwit1640
    obtain ⟨hP1, hK1, hD1⟩ := hB
    rw [ht] at hP1
    have hK1 := va_K.moved hvm.symm hK1
    obtain ⟨hP, hD⟩ := va_join (wr := [(o, .inl (kO, 1, .inr (.inl (fun _ => 0))))]) (w1 := [(h2, .inr (12, fM w1640))]) hP hD [0] [1] rfl rfl (by decide) (by decide) hk1 hFc hP1 hD1
    generalize H1 = H at hP hS ⊢
    have hP : va_P (dC, dI) vwCl [(o, .inl (kO, 1, .inr (.inl (fun _ => 0)))), (h2, .inr (12, fM w1640))] H := hP
    have hD : va_D A [(o, .inl (kO, 1, .inr (.inl (fun _ => 0)))), (h2, .inr (12, fM w1640))] := hD
    rcases hw with ⟨f1640_0, f1640_1, f1640_2⟩ | ⟨f1640_0, f1640_1, f1640_2⟩ | ⟨rfl, f1640_0, f1640_1⟩
    · refine lv_icmp_eq (tgt := 2131) hx hb dL_law_1643 (by decide) (fun c_1643 => ?_) (fun c_1643 => ?_)
      · have t_1643 : (r1630).toInt = (r1640).toInt := toI_eq c_1643 rfl rfl
        refine lv_iinc (v := 6) (lv' := [(4, .int 6), (3, .ref o), (2, .ref h2), (1, .ref h1), (0, .ref b)]) hx hb dL_law_2131 hl (k := 0) rfl (by decide) (by decide) rfl (fun ls hl => ?_)
        refine lv_goto (tgt := 23) hx hb dL_law_2134 (by decide) ?_
        refine lv_iload hx hb dL_law_23 (lv_at hl 0 rfl) ?_
        refine lv_aload_n hx hb dL_law_25 rfl (lv_at hl 4 rfl) ?_
        refine va_slen hx hb hX hbl hbA hS dL_law_26 ?_
        refine lv_topi (fun y5 hy5 => ?_)
        obtain rfl : 6 = y5 := (hy5.trans (rfl)).symm
        refine lv_bipush (v := 6) hx hb dL_law_27 (by decide) ?_
        refine lv_isub hx hb dL_law_29 ?_
        refine lv_topi (fun y6 hy6 => ?_)
        obtain rfl : 0 = y6 := (hy6.trans (by decide)).symm
        refine lv_icmp_gt (tgt := 2137) hx hb dL_law_30 (by decide) (fun _ => ?_) (fun c9 => absurd (by decide) c9)
        refine lv_iconst (v := 1) hx hb dL_law_2137 (by decide) ?_
        refine W.widen (k := 600002) (n := 7302232) (by decide +kernel) (by decide +kernel) ?_
        refine va_forget (fun q hq => hA2 _ (hS.2.2 q hq)) ?_
        exact lw_ret hx hb hr hlocks dL_law_2138
      · have t_1643 : ¬ (r1630).toInt = (r1640).toInt := toI_neq c_1643 rfl rfl
        refine lv_iconst (v := 0) hx hb dL_law_1646 (by decide) ?_
        refine W.widen (k := 600002) (n := 7302232) (by decide +kernel) (by decide +kernel) ?_
        exact False.elim (by omega)
    · refine lv_icmp_eq (tgt := 2131) hx hb dL_law_1643 (by decide) (fun c_1643 => ?_) (fun c_1643 => ?_)
      · have t_1643 : (r1630).toInt = (r1640).toInt := toI_eq c_1643 rfl rfl
        refine lv_iinc (v := 6) (lv' := [(4, .int 6), (3, .ref o), (2, .ref h2), (1, .ref h1), (0, .ref b)]) hx hb dL_law_2131 hl (k := 0) rfl (by decide) (by decide) rfl (fun ls hl => ?_)
        refine lv_goto (tgt := 23) hx hb dL_law_2134 (by decide) ?_
        refine lv_iload hx hb dL_law_23 (lv_at hl 0 rfl) ?_
        refine lv_aload_n hx hb dL_law_25 rfl (lv_at hl 4 rfl) ?_
        refine va_slen hx hb hX hbl hbA hS dL_law_26 ?_
        refine lv_topi (fun y7 hy7 => ?_)
        obtain rfl : 6 = y7 := (hy7.trans (rfl)).symm
        refine lv_bipush (v := 6) hx hb dL_law_27 (by decide) ?_
        refine lv_isub hx hb dL_law_29 ?_
        refine lv_topi (fun y8 hy8 => ?_)
        obtain rfl : 0 = y8 := (hy8.trans (by decide)).symm
        refine lv_icmp_gt (tgt := 2137) hx hb dL_law_30 (by decide) (fun _ => ?_) (fun c9 => absurd (by decide) c9)
        refine lv_iconst (v := 1) hx hb dL_law_2137 (by decide) ?_
        refine W.widen (k := 600002) (n := 7302232) (by decide +kernel) (by decide +kernel) ?_
        refine va_forget (fun q hq => hA2 _ (hS.2.2 q hq)) ?_
        exact lw_ret hx hb hr hlocks dL_law_2138
      · have t_1643 : ¬ (r1630).toInt = (r1640).toInt := toI_neq c_1643 rfl rfl
        refine lv_iconst (v := 0) hx hb dL_law_1646 (by decide) ?_
        refine W.widen (k := 600002) (n := 7302232) (by decide +kernel) (by decide +kernel) ?_
        exact False.elim (by omega)
    · refine lv_icmp_eq (tgt := 2131) hx hb dL_law_1643 (by decide) (fun c_1643 => ?_) (fun c_1643 => ?_)
      · have t_1643 : (r1630).toInt = -1 := toI_eq c_1643 rfl (by decide)
        refine lv_iinc (v := 6) (lv' := [(4, .int 6), (3, .ref o), (2, .ref h2), (1, .ref h1), (0, .ref b)]) hx hb dL_law_2131 hl (k := 0) rfl (by decide) (by decide) rfl (fun ls hl => ?_)
        refine lv_goto (tgt := 23) hx hb dL_law_2134 (by decide) ?_
        refine lv_iload hx hb dL_law_23 (lv_at hl 0 rfl) ?_
        refine lv_aload_n hx hb dL_law_25 rfl (lv_at hl 4 rfl) ?_
        refine va_slen hx hb hX hbl hbA hS dL_law_26 ?_
        refine lv_topi (fun y9 hy9 => ?_)
        obtain rfl : 6 = y9 := (hy9.trans (rfl)).symm
        refine lv_bipush (v := 6) hx hb dL_law_27 (by decide) ?_
        refine lv_isub hx hb dL_law_29 ?_
        refine lv_topi (fun y10 hy10 => ?_)
        obtain rfl : 0 = y10 := (hy10.trans (by decide)).symm
        refine lv_icmp_gt (tgt := 2137) hx hb dL_law_30 (by decide) (fun _ => ?_) (fun c9 => absurd (by decide) c9)
        refine lv_iconst (v := 1) hx hb dL_law_2137 (by decide) ?_
        refine W.widen (k := 600002) (n := 7302232) (by decide +kernel) (by decide +kernel) ?_
        refine va_forget (fun q hq => hA2 _ (hS.2.2 q hq)) ?_
        exact lw_ret hx hb hr hlocks dL_law_2138
      · have t_1643 : ¬ (r1630).toInt = -1 := toI_neq c_1643 rfl (by decide)
        refine lv_iconst (v := 0) hx hb dL_law_1646 (by decide) ?_
        refine W.widen (k := 600002) (n := 7302232) (by decide +kernel) (by decide +kernel) ?_
        exact False.elim (by omega)
  · refine lv_aload_n hx hb dL_law_1633 rfl (lv_at hl 2 rfl) ?_
    refine lv_aload_n hx hb dL_law_1634 rfl (lv_at hl 4 rfl) ?_
    refine lv_iload hx hb dL_law_1635 (lv_at hl 0 rfl) ?_
    refine lv_iconst (v := 1) hx hb dL_law_1637 (by decide) ?_
    refine lv_iadd hx hb dL_law_1638 ?_
    refine lv_topi (fun y11 hy11 => ?_)
    obtain rfl : 1 = y11 := (hy11.trans (by decide)).symm
    refine va_sld hx hb hX hbl hbA hS (show ¬ ((1 : Int32) < 0 ∨ 6 ≤ (1 : Int32).toNatClampNeg) by decide) dL_law_1639 ?_
    refine lv_topi (fun y12 hy12 => ?_)
    obtain rfl : (xs 1) = y12 := (hy12.trans (rfl)).symm
    have hPc := hP.sub (ws' := [(h2, .inr (12, fM (vM av)))]) [0] rfl
    have hDc := hD.sub (ws' := [(h2, .inr (12, fM (vM av)))]) [0] (by decide) rfl
    have hKc := hK.sub (tys' := []) [] rfl
    have hFc := va_free (wc := [(h2, .inr (12, fM (vM av)))]) hD hS hA [0] rfl
    refine va_calli (va_runV (As := [.int (xs 1)]) (rest := [.int r1630]) ⟨hx, hb, hml, hown, hts⟩ (p_X12_truth l dC dI h2 (vM av) (rfl) (xs 1) H.size) (cwV 1 hts glaw30_1 rfl rfl rfl (by decide +kernel) ⟨by decide +kernel, by decide +kernel⟩) ⟨fun a U g mk q => by obtain ⟨q0, q1, qP, qK, qD⟩ := q; exact ⟨q0, q1, qP, va_K.moved (u := U) (U := U.calling g mk a) (Vm.Alike.refl U.vm) qK, qD⟩, va_recv hKc hPc (ci := 12) (q0 := 0) rfl rfl, fun U hU9 hW => ⟨rfl, by rw [hU9], by rw [hU9]; exact hPc, va_K.moved hW.alike hKc, hDc.weaken (fun _ _ _ _ => trivial)⟩⟩ rfl rfl hl.1 rfl (lv_room (Nat.le_of_ble_eq_true rfl)) dL_law_1640 ⟨by decide +kernel, by decide +kernel⟩) hS (fun q _ h => hFc q h) hFc (fun r1640_1 u t H1 locs ht hvm hw hB hz1 hk1 hS => ?_)
    obtain ⟨w1640_1, hwit1640_1⟩ : ∃ w9, w9 = u := ⟨u, rfl⟩
    subst hwit1640_1
    obtain ⟨hP1, hK1, hD1⟩ := hB
    rw [ht] at hP1
    have hK1 := va_K.moved hvm.symm hK1
    obtain ⟨hP, hD⟩ := va_join (wr := [(o, .inl (kO, 1, .inr (.inl (fun _ => 0))))]) (w1 := [(h2, .inr (12, fM w1640_1))]) hP hD [0] [1] rfl rfl (by decide) (by decide) hk1 hFc hP1 hD1
    generalize H1 = H at hP hS ⊢
    have hP : va_P (dC, dI) vwCl [(o, .inl (kO, 1, .inr (.inl (fun _ => 0)))), (h2, .inr (12, fM w1640_1))] H := hP
    have hD : va_D A [(o, .inl (kO, 1, .inr (.inl (fun _ => 0)))), (h2, .inr (12, fM w1640_1))] := hD
    rcases hw with ⟨f1640_1_0, f1640_1_1, f1640_1_2⟩ | ⟨f1640_1_0, f1640_1_1, f1640_1_2⟩ | ⟨rfl, f1640_1_0, f1640_1_1⟩
    · refine lv_icmp_eq (tgt := 2131) hx hb dL_law_1643 (by decide) (fun c_1643 => ?_) (fun c_1643 => ?_)
      · have t_1643 : (r1630).toInt = (r1640_1).toInt := toI_eq c_1643 rfl rfl
        refine lv_iinc (v := 6) (lv' := [(4, .int 6), (3, .ref o), (2, .ref h2), (1, .ref h1), (0, .ref b)]) hx hb dL_law_2131 hl (k := 0) rfl (by decide) (by decide) rfl (fun ls hl => ?_)
        refine lv_goto (tgt := 23) hx hb dL_law_2134 (by decide) ?_
        refine lv_iload hx hb dL_law_23 (lv_at hl 0 rfl) ?_
        refine lv_aload_n hx hb dL_law_25 rfl (lv_at hl 4 rfl) ?_
        refine va_slen hx hb hX hbl hbA hS dL_law_26 ?_
        refine lv_topi (fun y13 hy13 => ?_)
        obtain rfl : 6 = y13 := (hy13.trans (rfl)).symm
        refine lv_bipush (v := 6) hx hb dL_law_27 (by decide) ?_
        refine lv_isub hx hb dL_law_29 ?_
        refine lv_topi (fun y14 hy14 => ?_)
        obtain rfl : 0 = y14 := (hy14.trans (by decide)).symm
        refine lv_icmp_gt (tgt := 2137) hx hb dL_law_30 (by decide) (fun _ => ?_) (fun c9 => absurd (by decide) c9)
        refine lv_iconst (v := 1) hx hb dL_law_2137 (by decide) ?_
        refine W.widen (k := 600002) (n := 7302232) (by decide +kernel) (by decide +kernel) ?_
        refine va_forget (fun q hq => hA2 _ (hS.2.2 q hq)) ?_
        exact lw_ret hx hb hr hlocks dL_law_2138
      · have t_1643 : ¬ (r1630).toInt = (r1640_1).toInt := toI_neq c_1643 rfl rfl
        refine lv_iconst (v := 0) hx hb dL_law_1646 (by decide) ?_
        refine W.widen (k := 600002) (n := 7302232) (by decide +kernel) (by decide +kernel) ?_
        exact False.elim (by omega)
    · refine lv_icmp_eq (tgt := 2131) hx hb dL_law_1643 (by decide) (fun c_1643 => ?_) (fun c_1643 => ?_)
      · have t_1643 : (r1630).toInt = (r1640_1).toInt := toI_eq c_1643 rfl rfl
        refine lv_iinc (v := 6) (lv' := [(4, .int 6), (3, .ref o), (2, .ref h2), (1, .ref h1), (0, .ref b)]) hx hb dL_law_2131 hl (k := 0) rfl (by decide) (by decide) rfl (fun ls hl => ?_)
        refine lv_goto (tgt := 23) hx hb dL_law_2134 (by decide) ?_
        refine lv_iload hx hb dL_law_23 (lv_at hl 0 rfl) ?_
        refine lv_aload_n hx hb dL_law_25 rfl (lv_at hl 4 rfl) ?_
        refine va_slen hx hb hX hbl hbA hS dL_law_26 ?_
        refine lv_topi (fun y15 hy15 => ?_)
        obtain rfl : 6 = y15 := (hy15.trans (rfl)).symm
        refine lv_bipush (v := 6) hx hb dL_law_27 (by decide) ?_
        refine lv_isub hx hb dL_law_29 ?_
        refine lv_topi (fun y16 hy16 => ?_)
        obtain rfl : 0 = y16 := (hy16.trans (by decide)).symm
        refine lv_icmp_gt (tgt := 2137) hx hb dL_law_30 (by decide) (fun _ => ?_) (fun c9 => absurd (by decide) c9)
        refine lv_iconst (v := 1) hx hb dL_law_2137 (by decide) ?_
        refine W.widen (k := 600002) (n := 7302232) (by decide +kernel) (by decide +kernel) ?_
        refine va_forget (fun q hq => hA2 _ (hS.2.2 q hq)) ?_
        exact lw_ret hx hb hr hlocks dL_law_2138
      · have t_1643 : ¬ (r1630).toInt = (r1640_1).toInt := toI_neq c_1643 rfl rfl
        refine lv_iconst (v := 0) hx hb dL_law_1646 (by decide) ?_
        refine W.widen (k := 600002) (n := 7302232) (by decide +kernel) (by decide +kernel) ?_
        exact False.elim (by omega)
    · refine lv_icmp_eq (tgt := 2131) hx hb dL_law_1643 (by decide) (fun c_1643 => ?_) (fun c_1643 => ?_)
      · have t_1643 : (r1630).toInt = -1 := toI_eq c_1643 rfl (by decide)
        refine lv_iinc (v := 6) (lv' := [(4, .int 6), (3, .ref o), (2, .ref h2), (1, .ref h1), (0, .ref b)]) hx hb dL_law_2131 hl (k := 0) rfl (by decide) (by decide) rfl (fun ls hl => ?_)
        refine lv_goto (tgt := 23) hx hb dL_law_2134 (by decide) ?_
        refine lv_iload hx hb dL_law_23 (lv_at hl 0 rfl) ?_
        refine lv_aload_n hx hb dL_law_25 rfl (lv_at hl 4 rfl) ?_
        refine va_slen hx hb hX hbl hbA hS dL_law_26 ?_
        refine lv_topi (fun y17 hy17 => ?_)
        obtain rfl : 6 = y17 := (hy17.trans (rfl)).symm
        refine lv_bipush (v := 6) hx hb dL_law_27 (by decide) ?_
        refine lv_isub hx hb dL_law_29 ?_
        refine lv_topi (fun y18 hy18 => ?_)
        obtain rfl : 0 = y18 := (hy18.trans (by decide)).symm
        refine lv_icmp_gt (tgt := 2137) hx hb dL_law_30 (by decide) (fun _ => ?_) (fun c9 => absurd (by decide) c9)
        refine lv_iconst (v := 1) hx hb dL_law_2137 (by decide) ?_
        refine W.widen (k := 600002) (n := 7302232) (by decide +kernel) (by decide +kernel) ?_
        refine va_forget (fun q hq => hA2 _ (hS.2.2 q hq)) ?_
        exact lw_ret hx hb hr hlocks dL_law_2138
      · have t_1643 : ¬ (r1630).toInt = -1 := toI_neq c_1643 rfl (by decide)
        refine lv_iconst (v := 0) hx hb dL_law_1646 (by decide) ?_
        refine W.widen (k := 600002) (n := 7302232) (by decide +kernel) (by decide +kernel) ?_
        exact False.elim (by omega)
  · refine lv_aload_n hx hb dL_law_1633 rfl (lv_at hl 2 rfl) ?_
    refine lv_aload_n hx hb dL_law_1634 rfl (lv_at hl 4 rfl) ?_
    refine lv_iload hx hb dL_law_1635 (lv_at hl 0 rfl) ?_
    refine lv_iconst (v := 1) hx hb dL_law_1637 (by decide) ?_
    refine lv_iadd hx hb dL_law_1638 ?_
    refine lv_topi (fun y19 hy19 => ?_)
    obtain rfl : 1 = y19 := (hy19.trans (by decide)).symm
    refine va_sld hx hb hX hbl hbA hS (show ¬ ((1 : Int32) < 0 ∨ 6 ≤ (1 : Int32).toNatClampNeg) by decide) dL_law_1639 ?_
    refine lv_topi (fun y20 hy20 => ?_)
    obtain rfl : (xs 1) = y20 := (hy20.trans (rfl)).symm
    have hPc := hP.sub (ws' := [(h2, .inr (12, fM (vM av)))]) [0] rfl
    have hDc := hD.sub (ws' := [(h2, .inr (12, fM (vM av)))]) [0] (by decide) rfl
    have hKc := hK.sub (tys' := []) [] rfl
    have hFc := va_free (wc := [(h2, .inr (12, fM (vM av)))]) hD hS hA [0] rfl
    refine va_calli (va_runV (As := [.int (xs 1)]) (rest := [.int (-1)]) ⟨hx, hb, hml, hown, hts⟩ (p_X12_truth l dC dI h2 (vM av) (rfl) (xs 1) H.size) (cwV 1 hts glaw30_1 rfl rfl rfl (by decide +kernel) ⟨by decide +kernel, by decide +kernel⟩) ⟨fun a U g mk q => by obtain ⟨q0, q1, qP, qK, qD⟩ := q; exact ⟨q0, q1, qP, va_K.moved (u := U) (U := U.calling g mk a) (Vm.Alike.refl U.vm) qK, qD⟩, va_recv hKc hPc (ci := 12) (q0 := 0) rfl rfl, fun U hU9 hW => ⟨rfl, by rw [hU9], by rw [hU9]; exact hPc, va_K.moved hW.alike hKc, hDc.weaken (fun _ _ _ _ => trivial)⟩⟩ rfl rfl hl.1 rfl (lv_room (Nat.le_of_ble_eq_true rfl)) dL_law_1640 ⟨by decide +kernel, by decide +kernel⟩) hS (fun q _ h => hFc q h) hFc (fun r1640_2 u t H1 locs ht hvm hw hB hz1 hk1 hS => ?_)
    obtain ⟨w1640_2, hwit1640_2⟩ : ∃ w9, w9 = u := ⟨u, rfl⟩
    subst hwit1640_2
    obtain ⟨hP1, hK1, hD1⟩ := hB
    rw [ht] at hP1
    have hK1 := va_K.moved hvm.symm hK1
    obtain ⟨hP, hD⟩ := va_join (wr := [(o, .inl (kO, 1, .inr (.inl (fun _ => 0))))]) (w1 := [(h2, .inr (12, fM w1640_2))]) hP hD [0] [1] rfl rfl (by decide) (by decide) hk1 hFc hP1 hD1
    generalize H1 = H at hP hS ⊢
    have hP : va_P (dC, dI) vwCl [(o, .inl (kO, 1, .inr (.inl (fun _ => 0)))), (h2, .inr (12, fM w1640_2))] H := hP
    have hD : va_D A [(o, .inl (kO, 1, .inr (.inl (fun _ => 0)))), (h2, .inr (12, fM w1640_2))] := hD
    rcases hw with ⟨f1640_2_0, f1640_2_1, f1640_2_2⟩ | ⟨f1640_2_0, f1640_2_1, f1640_2_2⟩ | ⟨rfl, f1640_2_0, f1640_2_1⟩
    · refine lv_icmp_eq (tgt := 2131) hx hb dL_law_1643 (by decide) (fun c_1643 => ?_) (fun c_1643 => ?_)
      · have t_1643 : -1 = (r1640_2).toInt := toI_eq c_1643 (by decide) rfl
        refine lv_iinc (v := 6) (lv' := [(4, .int 6), (3, .ref o), (2, .ref h2), (1, .ref h1), (0, .ref b)]) hx hb dL_law_2131 hl (k := 0) rfl (by decide) (by decide) rfl (fun ls hl => ?_)
        refine lv_goto (tgt := 23) hx hb dL_law_2134 (by decide) ?_
        refine lv_iload hx hb dL_law_23 (lv_at hl 0 rfl) ?_
        refine lv_aload_n hx hb dL_law_25 rfl (lv_at hl 4 rfl) ?_
        refine va_slen hx hb hX hbl hbA hS dL_law_26 ?_
        refine lv_topi (fun y21 hy21 => ?_)
        obtain rfl : 6 = y21 := (hy21.trans (rfl)).symm
        refine lv_bipush (v := 6) hx hb dL_law_27 (by decide) ?_
        refine lv_isub hx hb dL_law_29 ?_
        refine lv_topi (fun y22 hy22 => ?_)
        obtain rfl : 0 = y22 := (hy22.trans (by decide)).symm
        refine lv_icmp_gt (tgt := 2137) hx hb dL_law_30 (by decide) (fun _ => ?_) (fun c9 => absurd (by decide) c9)
        refine lv_iconst (v := 1) hx hb dL_law_2137 (by decide) ?_
        refine W.widen (k := 600002) (n := 7302232) (by decide +kernel) (by decide +kernel) ?_
        refine va_forget (fun q hq => hA2 _ (hS.2.2 q hq)) ?_
        exact lw_ret hx hb hr hlocks dL_law_2138
      · have t_1643 : ¬ -1 = (r1640_2).toInt := toI_neq c_1643 (by decide) rfl
        refine lv_iconst (v := 0) hx hb dL_law_1646 (by decide) ?_
        refine W.widen (k := 600002) (n := 7302232) (by decide +kernel) (by decide +kernel) ?_
        exact False.elim (by omega)
    · refine lv_icmp_eq (tgt := 2131) hx hb dL_law_1643 (by decide) (fun c_1643 => ?_) (fun c_1643 => ?_)
      · have t_1643 : -1 = (r1640_2).toInt := toI_eq c_1643 (by decide) rfl
        refine lv_iinc (v := 6) (lv' := [(4, .int 6), (3, .ref o), (2, .ref h2), (1, .ref h1), (0, .ref b)]) hx hb dL_law_2131 hl (k := 0) rfl (by decide) (by decide) rfl (fun ls hl => ?_)
        refine lv_goto (tgt := 23) hx hb dL_law_2134 (by decide) ?_
        refine lv_iload hx hb dL_law_23 (lv_at hl 0 rfl) ?_
        refine lv_aload_n hx hb dL_law_25 rfl (lv_at hl 4 rfl) ?_
        refine va_slen hx hb hX hbl hbA hS dL_law_26 ?_
        refine lv_topi (fun y23 hy23 => ?_)
        obtain rfl : 6 = y23 := (hy23.trans (rfl)).symm
        refine lv_bipush (v := 6) hx hb dL_law_27 (by decide) ?_
        refine lv_isub hx hb dL_law_29 ?_
        refine lv_topi (fun y24 hy24 => ?_)
        obtain rfl : 0 = y24 := (hy24.trans (by decide)).symm
        refine lv_icmp_gt (tgt := 2137) hx hb dL_law_30 (by decide) (fun _ => ?_) (fun c9 => absurd (by decide) c9)
        refine lv_iconst (v := 1) hx hb dL_law_2137 (by decide) ?_
        refine W.widen (k := 600002) (n := 7302232) (by decide +kernel) (by decide +kernel) ?_
        refine va_forget (fun q hq => hA2 _ (hS.2.2 q hq)) ?_
        exact lw_ret hx hb hr hlocks dL_law_2138
      · have t_1643 : ¬ -1 = (r1640_2).toInt := toI_neq c_1643 (by decide) rfl
        refine lv_iconst (v := 0) hx hb dL_law_1646 (by decide) ?_
        refine W.widen (k := 600002) (n := 7302232) (by decide +kernel) (by decide +kernel) ?_
        exact False.elim (by omega)
    · refine lv_icmp_eq (tgt := 2131) hx hb dL_law_1643 (by decide) (fun _ => ?_) (fun c9 => absurd (by decide) c9)
      refine lv_iinc (v := 6) (lv' := [(4, .int 6), (3, .ref o), (2, .ref h2), (1, .ref h1), (0, .ref b)]) hx hb dL_law_2131 hl (k := 0) rfl (by decide) (by decide) rfl (fun ls hl => ?_)
      refine lv_goto (tgt := 23) hx hb dL_law_2134 (by decide) ?_
      refine lv_iload hx hb dL_law_23 (lv_at hl 0 rfl) ?_
      refine lv_aload_n hx hb dL_law_25 rfl (lv_at hl 4 rfl) ?_
      refine va_slen hx hb hX hbl hbA hS dL_law_26 ?_
      refine lv_topi (fun y25 hy25 => ?_)
      obtain rfl : 6 = y25 := (hy25.trans (rfl)).symm
      refine lv_bipush (v := 6) hx hb dL_law_27 (by decide) ?_
      refine lv_isub hx hb dL_law_29 ?_
      refine lv_topi (fun y26 hy26 => ?_)
      obtain rfl : 0 = y26 := (hy26.trans (by decide)).symm
      refine lv_icmp_gt (tgt := 2137) hx hb dL_law_30 (by decide) (fun _ => ?_) (fun c9 => absurd (by decide) c9)
      refine lv_iconst (v := 1) hx hb dL_law_2137 (by decide) ?_
      refine W.widen (k := 600002) (n := 7302232) (by decide +kernel) (by decide +kernel) ?_
      refine va_forget (fun q hq => hA2 _ (hS.2.2 q hq)) ?_
      exact lw_ret hx hb hr hlocks dL_law_2138
theorem dL_law_1648 : decode cL_law 1648 = .ok (.aload_n 1, 1) := by decide +kernel
theorem dL_law_1649 : decode cL_law 1649 = .ok (.aload_n 0, 1) := by decide +kernel
theorem dL_law_1650 : decode cL_law 1650 = .ok (.iload 4, 2) := by decide +kernel
theorem dL_law_1652 : decode cL_law 1652 = .ok (.iconst 1, 1) := by decide +kernel
theorem dL_law_1653 : decode cL_law 1653 = .ok (.iadd, 1) := by decide +kernel
theorem dL_law_1654 : decode cL_law 1654 = .ok (.iaload, 1) := by decide +kernel
theorem dL_law_1655 : decode cL_law 1655 = .ok (.aload_n 0, 1) := by decide +kernel
theorem dL_law_1656 : decode cL_law 1656 = .ok (.iload 4, 2) := by decide +kernel
theorem dL_law_1658 : decode cL_law 1658 = .ok (.iconst 2, 1) := by decide +kernel
theorem dL_law_1659 : decode cL_law 1659 = .ok (.iadd, 1) := by decide +kernel
theorem dL_law_1660 : decode cL_law 1660 = .ok (.iaload, 1) := by decide +kernel
theorem dL_law_1661 : decode cL_law 1661 = .ok (.aload_n 0, 1) := by decide +kernel
theorem dL_law_1662 : decode cL_law 1662 = .ok (.iload 4, 2) := by decide +kernel
theorem dL_law_1664 : decode cL_law 1664 = .ok (.iconst 3, 1) := by decide +kernel
theorem dL_law_1665 : decode cL_law 1665 = .ok (.iadd, 1) := by decide +kernel
theorem dL_law_1666 : decode cL_law 1666 = .ok (.iaload, 1) := by decide +kernel
theorem dL_law_1667 : decode cL_law 1667 = .ok (.aload_n 0, 1) := by decide +kernel
theorem dL_law_1668 : decode cL_law 1668 = .ok (.iload 4, 2) := by decide +kernel
theorem dL_law_1670 : decode cL_law 1670 = .ok (.iconst 4, 1) := by decide +kernel
theorem dL_law_1671 : decode cL_law 1671 = .ok (.iadd, 1) := by decide +kernel
theorem dL_law_1672 : decode cL_law 1672 = .ok (.iaload, 1) := by decide +kernel
theorem dL_law_1673 : decode cL_law 1673 = .ok (.aload_n 3, 1) := by decide +kernel
theorem dL_law_1674 : decode cL_law 1674 = .ok (.invokestatic 215, 3) := by decide +kernel
theorem dL_law_1677 : decode cL_law 1677 = .ok (.istore 5, 2) := by decide +kernel
theorem dL_law_1679 : decode cL_law 1679 = .ok (.aload_n 2, 1) := by decide +kernel
theorem dL_law_1680 : decode cL_law 1680 = .ok (.aload_n 0, 1) := by decide +kernel
theorem dL_law_1681 : decode cL_law 1681 = .ok (.iload 4, 2) := by decide +kernel
theorem dL_law_1683 : decode cL_law 1683 = .ok (.iconst 1, 1) := by decide +kernel
theorem dL_law_1684 : decode cL_law 1684 = .ok (.iadd, 1) := by decide +kernel
theorem dL_law_1685 : decode cL_law 1685 = .ok (.iaload, 1) := by decide +kernel
theorem dL_law_1686 : decode cL_law 1686 = .ok (.aload_n 0, 1) := by decide +kernel
theorem dL_law_1687 : decode cL_law 1687 = .ok (.iload 4, 2) := by decide +kernel
theorem dL_law_1689 : decode cL_law 1689 = .ok (.iconst 2, 1) := by decide +kernel
theorem dL_law_1690 : decode cL_law 1690 = .ok (.iadd, 1) := by decide +kernel
theorem dL_law_1691 : decode cL_law 1691 = .ok (.iaload, 1) := by decide +kernel
theorem dL_law_1692 : decode cL_law 1692 = .ok (.aload_n 0, 1) := by decide +kernel
theorem dL_law_1693 : decode cL_law 1693 = .ok (.iload 4, 2) := by decide +kernel
theorem dL_law_1695 : decode cL_law 1695 = .ok (.iconst 3, 1) := by decide +kernel
theorem dL_law_1696 : decode cL_law 1696 = .ok (.iadd, 1) := by decide +kernel
theorem dL_law_1697 : decode cL_law 1697 = .ok (.iaload, 1) := by decide +kernel
theorem dL_law_1698 : decode cL_law 1698 = .ok (.aload_n 0, 1) := by decide +kernel
theorem dL_law_1699 : decode cL_law 1699 = .ok (.iload 4, 2) := by decide +kernel
theorem dL_law_1701 : decode cL_law 1701 = .ok (.iconst 4, 1) := by decide +kernel
theorem dL_law_1702 : decode cL_law 1702 = .ok (.iadd, 1) := by decide +kernel
theorem dL_law_1703 : decode cL_law 1703 = .ok (.iaload, 1) := by decide +kernel
theorem dL_law_1704 : decode cL_law 1704 = .ok (.invokevirtual 217, 3) := by decide +kernel
theorem dL_law_1707 : decode cL_law 1707 = .ok (.istore 6, 2) := by decide +kernel
theorem dL_law_1709 : decode cL_law 1709 = .ok (.aload_n 2, 1) := by decide +kernel
theorem dL_law_1710 : decode cL_law 1710 = .ok (.invokevirtual 111, 3) := by decide +kernel
theorem dL_law_1713 : decode cL_law 1713 = .ok (.iload 5, 2) := by decide +kernel
theorem dL_law_1715 : decode cL_law 1715 = .ok (.if_icmp .eq 5, 3) := by decide +kernel
theorem dL_law_1718 : decode cL_law 1718 = .ok (.iconst 0, 1) := by decide +kernel
theorem dL_law_1719 : decode cL_law 1719 = .ok (.ireturn, 1) := by decide +kernel
theorem dL_law_1720 : decode cL_law 1720 = .ok (.iload 5, 2) := by decide +kernel
theorem dL_law_1722 : decode cL_law 1722 = .ok (.ifCond .ne 15, 3) := by decide +kernel
theorem dL_law_1725 : decode cL_law 1725 = .ok (.aload_n 3, 1) := by decide +kernel
theorem dL_law_1726 : decode cL_law 1726 = .ok (.iconst 0, 1) := by decide +kernel
theorem dL_law_1727 : decode cL_law 1727 = .ok (.laload, 1) := by decide +kernel
theorem dL_law_1728 : decode cL_law 1728 = .ok (.iload 6, 2) := by decide +kernel
theorem dL_law_1730 : decode cL_law 1730 = .ok (.i2l, 1) := by decide +kernel
theorem dL_law_1731 : decode cL_law 1731 = .ok (.lcmp, 1) := by decide +kernel
theorem dL_law_1732 : decode cL_law 1732 = .ok (.ifCond .eq 5, 3) := by decide +kernel
theorem dL_law_1737 : decode cL_law 1737 = .ok (.goto 394, 3) := by decide +kernel
theorem glaw31_0 : GoodIn lw_tbl (va_wsS RL 215 yL_arc wsPL_arc) := goodIn_sub ((List.forall_mem_append.mpr ⟨(mem_p ([.methodLink RL 215 yL_arc, .static yL_arc, .initialized "OptimaWorksLaw"] : List Cond) [(10, 9), (10, 10), (1, 0)] (by decide +kernel)), ml_wsPL_arc⟩ : ∀ w ∈ va_wsS RL 215 yL_arc wsPL_arc, w ∈ lw_tbl)) (by decide +kernel)
theorem glaw31_1 : GoodIn lw_tbl (wsV RL 217 RX12 yX12_arc wsPX12_arc) := goodIn_sub ((List.forall_mem_append.mpr ⟨(mem_p ([.methodLink RL 217 yX12_arc, .instanceMethod yX12_arc, .selects RX12 yX12_arc yX12_arc, .initialized RX12] : List Cond) [(15, 231), (15, 232), (15, 233), (1, 4)] (by decide +kernel)), ml_wsPX12_arc⟩ : ∀ w ∈ wsV RL 217 RX12 yX12_arc wsPX12_arc, w ∈ lw_tbl)) (by decide +kernel)
theorem glaw31_2 : GoodIn lw_tbl (wsV RL 111 RX12 yX12_thrown wsPX12_thrown) := goodIn_sub ((List.forall_mem_append.mpr ⟨(mem_p ([.methodLink RL 111 yX12_thrown, .instanceMethod yX12_thrown, .selects RX12 yX12_thrown yX12_thrown, .initialized RX12] : List Cond) [(12, 139), (12, 140), (12, 141), (1, 4)] (by decide +kernel)), ml_wsPX12_thrown⟩ : ∀ w ∈ wsV RL 111 RX12 yX12_thrown wsPX12_thrown, w ∈ lw_tbl)) (by decide +kernel)
set_option maxHeartbeats 4000000 in
set_option maxRecDepth 100000 in
/-- the law's case 31: arc -/
theorem lc_31 {p : Program} {e : Env} {s : State} {m : MethodId} {below : List Frame} {meth : Method} {c : Code} (l : Launch) (hst : l.stackTraces = false) {b : Nat} {xs : Nat → Int32} (C0 : lw_At p s m meth c b 6 xs) {A : Nat → Prop} (hA : ∀ q : Nat, s.heap.size ≤ q → A q) (hA2 : ∀ q : Nat, A q → s.heap.size ≤ q) (X0 : lx_ok A s) (dC : Nat → ClassId) (dI : Nat → Nat → Nat) {h1 h2 o : Nat} {a : Nat → Nat} {k : Nat → ClassId} {av : Nat → Nat} {kv : Nat → ClassId} {kO : ClassId} {H : Heap} {locs : List Loc} {ls : Array Slot} (hK : va_K (dC, dI) vwCl [((kv 95), .int), ((kv 96), .int), ((kv 97), .int), ((kv 98), .int), (kO, .long)] s) (hP : va_P (dC, dI) vwCl [(h1, .inr (11, [.ref (a 0), .ref (a 1), .ref (a 3), .ref (a 14), .int 0, .null, .null, .null, .null, .null, .null])), (h2, .inr (12, fM (vM av))), ((av 95), .inl ((kv 95), 40, .inl (fun _ => 0))), ((av 96), .inl ((kv 96), 40, .inl (fun _ => 0))), ((av 97), .inl ((kv 97), 40, .inl (fun _ => 0))), ((av 98), .inl ((kv 98), 40, .inl (fun _ => 0))), (o, .inl (kO, 1, .inr (.inl (fun _ => 0))))] H) (hD : va_D A [(h1, .inr (11, [.ref (a 0), .ref (a 1), .ref (a 3), .ref (a 14), .int 0, .null, .null, .null, .null, .null, .null])), (h2, .inr (12, fM (vM av))), ((av 95), .inl ((kv 95), 40, .inl (fun _ => 0))), ((av 96), .inl ((kv 96), 40, .inl (fun _ => 0))), ((av 97), .inl ((kv 97), 40, .inl (fun _ => 0))), ((av 98), .inl ((kv 98), 40, .inl (fun _ => 0))), (o, .inl (kO, 1, .inr (.inl (fun _ => 0))))]) (hS : va_S A s.heap H locs) (hl : lv_has ls 7 [(4, .int 0), (3, .ref o), (2, .ref h2), (1, .ref h1), (0, .ref b)]) : W p l e room_1 s m #[Value.ref b] below meth c H locs 125 181434 (lw_Z below #[Value.ref b] s) (F0 m 1648 ls []) := by
  obtain ⟨hx, hb, hr, hml, hown, hts, hX, hbl, hlocks, hgv⟩ := id C0
  have hb : c.code = cL_law := hb
  have hown : s.vm.findClass RL = some m.cls := hown
  obtain ⟨hU, hN, hnX11_343, hnX11_392, hnX11_421, hncAI, hngX11_161, hngX11_79, hngX11_95⟩ := X0
  have hbA : ¬ A b := fun h => absurd (hA2 b h) (Nat.not_le.mpr hbl)
  refine lv_aload_n hx hb dL_law_1648 rfl (lv_at hl 3 rfl) ?_
  refine lv_aload_n hx hb dL_law_1649 rfl (lv_at hl 4 rfl) ?_
  refine lv_iload hx hb dL_law_1650 (lv_at hl 0 rfl) ?_
  refine lv_iconst (v := 1) hx hb dL_law_1652 (by decide) ?_
  refine lv_iadd hx hb dL_law_1653 ?_
  refine lv_topi (fun y1 hy1 => ?_)
  obtain rfl : 1 = y1 := (hy1.trans (by decide)).symm
  refine va_sld hx hb hX hbl hbA hS (show ¬ ((1 : Int32) < 0 ∨ 6 ≤ (1 : Int32).toNatClampNeg) by decide) dL_law_1654 ?_
  refine lv_topi (fun y2 hy2 => ?_)
  obtain rfl : (xs 1) = y2 := (hy2.trans (rfl)).symm
  refine lv_aload_n hx hb dL_law_1655 rfl (lv_at hl 4 rfl) ?_
  refine lv_iload hx hb dL_law_1656 (lv_at hl 0 rfl) ?_
  refine lv_iconst (v := 2) hx hb dL_law_1658 (by decide) ?_
  refine lv_iadd hx hb dL_law_1659 ?_
  refine lv_topi (fun y3 hy3 => ?_)
  obtain rfl : 2 = y3 := (hy3.trans (by decide)).symm
  refine va_sld hx hb hX hbl hbA hS (show ¬ ((2 : Int32) < 0 ∨ 6 ≤ (2 : Int32).toNatClampNeg) by decide) dL_law_1660 ?_
  refine lv_topi (fun y4 hy4 => ?_)
  obtain rfl : (xs 2) = y4 := (hy4.trans (rfl)).symm
  refine lv_aload_n hx hb dL_law_1661 rfl (lv_at hl 4 rfl) ?_
  refine lv_iload hx hb dL_law_1662 (lv_at hl 0 rfl) ?_
  refine lv_iconst (v := 3) hx hb dL_law_1664 (by decide) ?_
  refine lv_iadd hx hb dL_law_1665 ?_
  refine lv_topi (fun y5 hy5 => ?_)
  obtain rfl : 3 = y5 := (hy5.trans (by decide)).symm
  refine va_sld hx hb hX hbl hbA hS (show ¬ ((3 : Int32) < 0 ∨ 6 ≤ (3 : Int32).toNatClampNeg) by decide) dL_law_1666 ?_
  refine lv_topi (fun y6 hy6 => ?_)
  obtain rfl : (xs 3) = y6 := (hy6.trans (rfl)).symm
  refine lv_aload_n hx hb dL_law_1667 rfl (lv_at hl 4 rfl) ?_
  refine lv_iload hx hb dL_law_1668 (lv_at hl 0 rfl) ?_
  refine lv_iconst (v := 4) hx hb dL_law_1670 (by decide) ?_
  refine lv_iadd hx hb dL_law_1671 ?_
  refine lv_topi (fun y7 hy7 => ?_)
  obtain rfl : 4 = y7 := (hy7.trans (by decide)).symm
  refine va_sld hx hb hX hbl hbA hS (show ¬ ((4 : Int32) < 0 ∨ 6 ≤ (4 : Int32).toNatClampNeg) by decide) dL_law_1672 ?_
  refine lv_topi (fun y8 hy8 => ?_)
  obtain rfl : (xs 4) = y8 := (hy8.trans (rfl)).symm
  refine lv_aload_n hx hb dL_law_1673 rfl (lv_at hl 1 rfl) ?_
  have hPc := hP.sub (ws' := [(h1, .inr (11, [.ref (a 0), .ref (a 1), .ref (a 3), .ref (a 14), .int 0, .null, .null, .null, .null, .null, .null])), (o, .inl (kO, 1, .inr (.inl (fun _ => 0))))]) [0, 6] rfl
  have hDc := hD.sub (ws' := [(h1, .inr (11, [.ref (a 0), .ref (a 1), .ref (a 3), .ref (a 14), .int 0, .null, .null, .null, .null, .null, .null])), (o, .inl (kO, 1, .inr (.inl (fun _ => 0))))]) [0, 6] (by decide) rfl
  have hKc := hK.sub (tys' := [(kO, .long)]) [4] rfl
  have hFc := va_free (wc := [(h1, .inr (11, [.ref (a 0), .ref (a 1), .ref (a 3), .ref (a 14), .int 0, .null, .null, .null, .null, .null, .null])), (o, .inl (kO, 1, .inr (.inl (fun _ => 0))))]) hD hS hA [0, 6] rfl
  refine va_calli (vx_runSW (As := [.ref h1, .int (xs 1), .int (xs 2), .int (xs 3), .int (xs 4), .ref o]) (rest := []) ⟨hx, hb, hml, hown, hts⟩ (p_L_arc l hst dC dI h1 a o kO (xs 1) (xs 2) (xs 3) (xs 4) H.size) (vx_cwSW 6 hts glaw31_0 rfl rfl rfl (by decide +kernel) ⟨by decide +kernel, by decide +kernel⟩) ⟨fun a U g mk q => by obtain ⟨q0, q1, qP, qK, qD, qU, qN, qngX11_79, qhnX11_421⟩ := q; exact ⟨q0, q1, qP, va_K.moved (u := U) (U := U.calling g mk a) (Vm.Alike.refl U.vm) qK, qD, vx_Zq.moved (u := U) (U := U.calling g mk a) (Vm.Alike.refl U.vm) qU, vx_Zq.moved (u := U) (U := U.calling g mk a) (Vm.Alike.refl U.vm) qN, fun w h => va_Nw.same (u := U) (U := U.calling g mk a) (ngX11_79_ot w h) rfl (qngX11_79 w h), va_Nw.same (u := U) (U := U.calling g mk a) rfl rfl qhnX11_421⟩, fun U hU9 hW => ⟨rfl, by rw [hU9], by rw [hU9]; exact hPc, va_K.moved hW.alike hKc, hDc.weaken (fun _ _ _ _ => trivial), by rw [hU9]; exact ((hU.kept (fun a h1 h2 => hS.2.1 a h1 h2)).narrow hFc).moved hW.alike, by rw [hU9]; exact ((hN.kept (fun a h1 h2 => hS.2.1 a h1 h2)).narrow hFc).moved hW.alike, fun w h => cd_warm (ngX11_79_cd w h) hW (hngX11_79 w h), va_Nw.warmM hW hnX11_421⟩⟩ rfl rfl hl.1 rfl (lv_room (Nat.le_of_ble_eq_true rfl)) dL_law_1674 ⟨by decide +kernel, by decide +kernel⟩) hS (fun q _ h => hFc q h) hFc (fun r1674 u t H1 locs ht hvm hw hB hz1 hk1 hS => ?_)
  obtain ⟨go1674, hwit1674⟩ : ∃ w9, w9 = u := ⟨u, rfl⟩
  subst hwit1674
  obtain ⟨hP1, hK1, hD1⟩ := hB
  rw [ht] at hP1
  have hK1 := va_K.moved hvm.symm hK1
  obtain ⟨hP, hD⟩ := va_join (wr := [(h2, .inr (12, fM (vM av))), ((av 95), .inl ((kv 95), 40, .inl (fun _ => 0))), ((av 96), .inl ((kv 96), 40, .inl (fun _ => 0))), ((av 97), .inl ((kv 97), 40, .inl (fun _ => 0))), ((av 98), .inl ((kv 98), 40, .inl (fun _ => 0)))]) (w1 := [(o, .inl (kO, 1, .inr (.inl go1674)))]) hP hD [0, 6] [1, 2, 3, 4, 5] rfl rfl (by decide) (by decide) hk1 hFc hP1 hD1
  generalize H1 = H at hP hS ⊢
  have hP : va_P (dC, dI) vwCl [(h2, .inr (12, fM (vM av))), ((av 95), .inl ((kv 95), 40, .inl (fun _ => 0))), ((av 96), .inl ((kv 96), 40, .inl (fun _ => 0))), ((av 97), .inl ((kv 97), 40, .inl (fun _ => 0))), ((av 98), .inl ((kv 98), 40, .inl (fun _ => 0))), (o, .inl (kO, 1, .inr (.inl go1674)))] H := hP
  have hD : va_D A [(h2, .inr (12, fM (vM av))), ((av 95), .inl ((kv 95), 40, .inl (fun _ => 0))), ((av 96), .inl ((kv 96), 40, .inl (fun _ => 0))), ((av 97), .inl ((kv 97), 40, .inl (fun _ => 0))), ((av 98), .inl ((kv 98), 40, .inl (fun _ => 0))), (o, .inl (kO, 1, .inr (.inl go1674)))] := hD
  refine W.widen (k := 138) (n := 182918) (by decide +kernel) (by decide +kernel) ?_
  rcases hw with ⟨rfl, f1674_0, f1674_1⟩ | ⟨rfl, f1674_0⟩
  · refine lv_istore (lv' := [(5, .int 0), (4, .int 0), (3, .ref o), (2, .ref h2), (1, .ref h1), (0, .ref b)]) hx hb dL_law_1677 hl (by decide) rfl (fun ls hl => ?_)
    refine lv_aload_n hx hb dL_law_1679 rfl (lv_at hl 3 rfl) ?_
    refine lv_aload_n hx hb dL_law_1680 rfl (lv_at hl 5 rfl) ?_
    refine lv_iload hx hb dL_law_1681 (lv_at hl 1 rfl) ?_
    refine lv_iconst (v := 1) hx hb dL_law_1683 (by decide) ?_
    refine lv_iadd hx hb dL_law_1684 ?_
    refine lv_topi (fun y9 hy9 => ?_)
    obtain rfl : 1 = y9 := (hy9.trans (by decide)).symm
    refine va_sld hx hb hX hbl hbA hS (show ¬ ((1 : Int32) < 0 ∨ 6 ≤ (1 : Int32).toNatClampNeg) by decide) dL_law_1685 ?_
    refine lv_topi (fun y10 hy10 => ?_)
    obtain rfl : (xs 1) = y10 := (hy10.trans (rfl)).symm
    refine lv_aload_n hx hb dL_law_1686 rfl (lv_at hl 5 rfl) ?_
    refine lv_iload hx hb dL_law_1687 (lv_at hl 1 rfl) ?_
    refine lv_iconst (v := 2) hx hb dL_law_1689 (by decide) ?_
    refine lv_iadd hx hb dL_law_1690 ?_
    refine lv_topi (fun y11 hy11 => ?_)
    obtain rfl : 2 = y11 := (hy11.trans (by decide)).symm
    refine va_sld hx hb hX hbl hbA hS (show ¬ ((2 : Int32) < 0 ∨ 6 ≤ (2 : Int32).toNatClampNeg) by decide) dL_law_1691 ?_
    refine lv_topi (fun y12 hy12 => ?_)
    obtain rfl : (xs 2) = y12 := (hy12.trans (rfl)).symm
    refine lv_aload_n hx hb dL_law_1692 rfl (lv_at hl 5 rfl) ?_
    refine lv_iload hx hb dL_law_1693 (lv_at hl 1 rfl) ?_
    refine lv_iconst (v := 3) hx hb dL_law_1695 (by decide) ?_
    refine lv_iadd hx hb dL_law_1696 ?_
    refine lv_topi (fun y13 hy13 => ?_)
    obtain rfl : 3 = y13 := (hy13.trans (by decide)).symm
    refine va_sld hx hb hX hbl hbA hS (show ¬ ((3 : Int32) < 0 ∨ 6 ≤ (3 : Int32).toNatClampNeg) by decide) dL_law_1697 ?_
    refine lv_topi (fun y14 hy14 => ?_)
    obtain rfl : (xs 3) = y14 := (hy14.trans (rfl)).symm
    refine lv_aload_n hx hb dL_law_1698 rfl (lv_at hl 5 rfl) ?_
    refine lv_iload hx hb dL_law_1699 (lv_at hl 1 rfl) ?_
    refine lv_iconst (v := 4) hx hb dL_law_1701 (by decide) ?_
    refine lv_iadd hx hb dL_law_1702 ?_
    refine lv_topi (fun y15 hy15 => ?_)
    obtain rfl : 4 = y15 := (hy15.trans (by decide)).symm
    refine va_sld hx hb hX hbl hbA hS (show ¬ ((4 : Int32) < 0 ∨ 6 ≤ (4 : Int32).toNatClampNeg) by decide) dL_law_1703 ?_
    refine lv_topi (fun y16 hy16 => ?_)
    obtain rfl : (xs 4) = y16 := (hy16.trans (rfl)).symm
    have hPc := hP.sub (ws' := [(h2, .inr (12, fM (vM av))), ((av 95), .inl ((kv 95), 40, .inl (fun _ => 0))), ((av 96), .inl ((kv 96), 40, .inl (fun _ => 0))), ((av 97), .inl ((kv 97), 40, .inl (fun _ => 0))), ((av 98), .inl ((kv 98), 40, .inl (fun _ => 0)))]) [0, 1, 2, 3, 4] rfl
    have hDc := hD.sub (ws' := [(h2, .inr (12, fM (vM av))), ((av 95), .inl ((kv 95), 40, .inl (fun _ => 0))), ((av 96), .inl ((kv 96), 40, .inl (fun _ => 0))), ((av 97), .inl ((kv 97), 40, .inl (fun _ => 0))), ((av 98), .inl ((kv 98), 40, .inl (fun _ => 0)))]) [0, 1, 2, 3, 4] (by decide) rfl
    have hKc := hK.sub (tys' := [((kv 95), .int), ((kv 96), .int), ((kv 97), .int), ((kv 98), .int)]) [0, 1, 2, 3] rfl
    have hFc := va_free (wc := [(h2, .inr (12, fM (vM av))), ((av 95), .inl ((kv 95), 40, .inl (fun _ => 0))), ((av 96), .inl ((kv 96), 40, .inl (fun _ => 0))), ((av 97), .inl ((kv 97), 40, .inl (fun _ => 0))), ((av 98), .inl ((kv 98), 40, .inl (fun _ => 0)))]) hD hS hA [0, 1, 2, 3, 4] rfl
    refine va_calli (va_runV (As := [.int (xs 1), .int (xs 2), .int (xs 3), .int (xs 4)]) (rest := []) ⟨hx, hb, hml, hown, hts⟩ (p_X12_arc l dC dI h2 (vM av) (rfl) (av 95) (rfl) (kv 95) (fun _ => 0) (av 96) (rfl) (kv 96) (fun _ => 0) (av 97) (rfl) (kv 97) (fun _ => 0) (av 98) (rfl) (kv 98) (fun _ => 0) (xs 1) (xs 2) (xs 3) (xs 4) H.size) (cwV 4 hts glaw31_1 rfl rfl rfl (by decide +kernel) ⟨by decide +kernel, by decide +kernel⟩) ⟨fun a U g mk q => by obtain ⟨q0, q1, qP, qK, qD⟩ := q; exact ⟨q0, q1, qP, va_K.moved (u := U) (U := U.calling g mk a) (Vm.Alike.refl U.vm) qK, qD⟩, va_recv hKc hPc (ci := 12) (q0 := 0) rfl rfl, fun U hU9 hW => ⟨rfl, by rw [hU9], by rw [hU9]; exact hPc, va_K.moved hW.alike hKc, hDc.weaken (fun _ _ _ _ => trivial)⟩⟩ rfl rfl hl.1 rfl (lv_room (Nat.le_of_ble_eq_true rfl)) dL_law_1704 ⟨by decide +kernel, by decide +kernel⟩) hS (fun q _ h => hFc q h) hFc (fun r1704 u t H1 locs ht hvm hw hB hz1 hk1 hS => ?_)
    obtain ⟨w1704, hwit1704⟩ : ∃ w9, w9 = u := ⟨u, rfl⟩
    subst hwit1704
    obtain ⟨hP1, hK1, hD1⟩ := hB
    rw [ht] at hP1
    have hK1 := va_K.moved hvm.symm hK1
    obtain ⟨hP, hD⟩ := va_join (wr := [(o, .inl (kO, 1, .inr (.inl go1674)))]) (w1 := [(h2, .inr (12, fM w1704))]) hP hD [0, 1, 2, 3, 4] [5] rfl rfl (by decide) (by decide) hk1 hFc hP1 hD1
    generalize H1 = H at hP hS ⊢
    have hP : va_P (dC, dI) vwCl [(o, .inl (kO, 1, .inr (.inl go1674))), (h2, .inr (12, fM w1704))] H := hP
    have hD : va_D A [(o, .inl (kO, 1, .inr (.inl go1674))), (h2, .inr (12, fM w1704))] := hD
    rcases hw with ⟨rfl, f1704_0, f1704_1⟩ | ⟨rfl, f1704_0, f1704_1⟩
    · refine lv_istore (lv' := [(6, .int 0), (5, .int 0), (4, .int 0), (3, .ref o), (2, .ref h2), (1, .ref h1), (0, .ref b)]) hx hb dL_law_1707 hl (by decide) rfl (fun ls hl => ?_)
      refine lv_aload_n hx hb dL_law_1709 rfl (lv_at hl 4 rfl) ?_
      have hPc := hP.sub (ws' := [(h2, .inr (12, fM w1704))]) [1] rfl
      have hDc := hD.sub (ws' := [(h2, .inr (12, fM w1704))]) [1] (by decide) rfl
      have hKc := hK.sub (tys' := []) [] rfl
      have hFc := va_free (wc := [(h2, .inr (12, fM w1704))]) hD hS hA [1] rfl
      refine va_calli (va_runV (As := []) (rest := []) ⟨hx, hb, hml, hown, hts⟩ (p_X12_thrown l dC dI h2 w1704 0 (f1704_1) H.size) (cwV 0 hts glaw31_2 rfl rfl rfl (by decide +kernel) ⟨by decide +kernel, by decide +kernel⟩) ⟨fun a U g mk q => by obtain ⟨q0, q1, qP, qK, qD⟩ := q; exact ⟨q0, q1, qP, va_K.moved (u := U) (U := U.calling g mk a) (Vm.Alike.refl U.vm) qK, qD⟩, va_recv hKc hPc (ci := 12) (q0 := 0) rfl rfl, fun U hU9 hW => ⟨rfl, by rw [hU9], by rw [hU9]; exact hPc, va_K.moved hW.alike hKc, hDc.weaken (fun _ _ _ _ => trivial)⟩⟩ rfl rfl hl.1 rfl (lv_room (Nat.le_of_ble_eq_true rfl)) dL_law_1710 ⟨by decide +kernel, by decide +kernel⟩) hS (fun q _ h => hFc q h) hFc (fun r1710 u t H1 locs ht hvm hw hB hz1 hk1 hS => ?_)
      obtain ⟨hP1, hK1, hD1⟩ := hB
      rw [ht] at hP1
      have hK1 := va_K.moved hvm.symm hK1
      obtain ⟨hP, hD⟩ := va_join (wr := [(o, .inl (kO, 1, .inr (.inl go1674)))]) (w1 := []) hP hD [1] [0] rfl rfl (by decide) (by decide) hk1 hFc hP1 hD1
      generalize H1 = H at hP hS ⊢
      have hP : va_P (dC, dI) vwCl [(o, .inl (kO, 1, .inr (.inl go1674)))] H := hP
      have hD : va_D A [(o, .inl (kO, 1, .inr (.inl go1674)))] := hD
      obtain rfl := hw
      refine lv_iload hx hb dL_law_1713 (lv_at hl 1 rfl) ?_
      refine lv_icmp_eq (tgt := 1720) hx hb dL_law_1715 (by decide) (fun _ => ?_) (fun c9 => absurd (by decide) c9)
      refine lv_iload hx hb dL_law_1720 (lv_at hl 1 rfl) ?_
      refine lv_if_ne (tgt := 1737) hx hb dL_law_1722 (by decide) (fun c9 => absurd c9 (by decide)) (fun _ => ?_)
      refine lv_aload_n hx hb dL_law_1725 rfl (lv_at hl 3 rfl) ?_
      refine lv_iconst (v := 0) hx hb dL_law_1726 (by decide) ?_
      refine va_lald hx hb hK hP 0 4 rfl rfl (show ¬ ((0 : Int32) < 0 ∨ 1 ≤ (0 : Int32).toNatClampNeg) by decide) dL_law_1727 ?_
      refine lv_topl (fun y17 hy17 => ?_)
      obtain rfl : 0 = y17 := (hy17.trans (f1674_1)).symm
      refine lv_iload hx hb dL_law_1728 (lv_at hl 0 rfl) ?_
      refine lv_i2l hx hb dL_law_1730 rfl ?_
      refine lv_topl (fun y18 hy18 => ?_)
      obtain rfl : 0 = y18 := (hy18.trans (by decide)).symm
      refine W.lcmp hx hb dL_law_1731 ?_
      refine lv_topi (fun y19 hy19 => ?_)
      obtain rfl : 0 = y19 := (hy19.trans (by decide)).symm
      refine lv_if_eq (tgt := 1737) hx hb dL_law_1732 (by decide) (fun _ => ?_) (fun c9 => absurd (by decide) c9)
      refine lv_goto (tgt := 2131) hx hb dL_law_1737 (by decide) ?_
      refine lv_iinc (v := 6) (lv' := [(4, .int 6), (6, .int 0), (5, .int 0), (3, .ref o), (2, .ref h2), (1, .ref h1), (0, .ref b)]) hx hb dL_law_2131 hl (k := 2) rfl (by decide) (by decide) rfl (fun ls hl => ?_)
      refine lv_goto (tgt := 23) hx hb dL_law_2134 (by decide) ?_
      refine lv_iload hx hb dL_law_23 (lv_at hl 0 rfl) ?_
      refine lv_aload_n hx hb dL_law_25 rfl (lv_at hl 6 rfl) ?_
      refine va_slen hx hb hX hbl hbA hS dL_law_26 ?_
      refine lv_topi (fun y20 hy20 => ?_)
      obtain rfl : 6 = y20 := (hy20.trans (rfl)).symm
      refine lv_bipush (v := 6) hx hb dL_law_27 (by decide) ?_
      refine lv_isub hx hb dL_law_29 ?_
      refine lv_topi (fun y21 hy21 => ?_)
      obtain rfl : 0 = y21 := (hy21.trans (by decide)).symm
      refine lv_icmp_gt (tgt := 2137) hx hb dL_law_30 (by decide) (fun _ => ?_) (fun c9 => absurd (by decide) c9)
      refine lv_iconst (v := 1) hx hb dL_law_2137 (by decide) ?_
      refine W.widen (k := 600002) (n := 7302232) (by decide +kernel) (by decide +kernel) ?_
      refine va_forget (fun q hq => hA2 _ (hS.2.2 q hq)) ?_
      exact lw_ret hx hb hr hlocks dL_law_2138
    · refine lv_istore (lv' := [(6, .int 0), (5, .int 0), (4, .int 0), (3, .ref o), (2, .ref h2), (1, .ref h1), (0, .ref b)]) hx hb dL_law_1707 hl (by decide) rfl (fun ls hl => ?_)
      refine lv_aload_n hx hb dL_law_1709 rfl (lv_at hl 4 rfl) ?_
      have hPc := hP.sub (ws' := [(h2, .inr (12, fM w1704))]) [1] rfl
      have hDc := hD.sub (ws' := [(h2, .inr (12, fM w1704))]) [1] (by decide) rfl
      have hKc := hK.sub (tys' := []) [] rfl
      have hFc := va_free (wc := [(h2, .inr (12, fM w1704))]) hD hS hA [1] rfl
      refine va_calli (va_runV (As := []) (rest := []) ⟨hx, hb, hml, hown, hts⟩ (p_X12_thrown l dC dI h2 w1704 1 (f1704_1) H.size) (cwV 0 hts glaw31_2 rfl rfl rfl (by decide +kernel) ⟨by decide +kernel, by decide +kernel⟩) ⟨fun a U g mk q => by obtain ⟨q0, q1, qP, qK, qD⟩ := q; exact ⟨q0, q1, qP, va_K.moved (u := U) (U := U.calling g mk a) (Vm.Alike.refl U.vm) qK, qD⟩, va_recv hKc hPc (ci := 12) (q0 := 0) rfl rfl, fun U hU9 hW => ⟨rfl, by rw [hU9], by rw [hU9]; exact hPc, va_K.moved hW.alike hKc, hDc.weaken (fun _ _ _ _ => trivial)⟩⟩ rfl rfl hl.1 rfl (lv_room (Nat.le_of_ble_eq_true rfl)) dL_law_1710 ⟨by decide +kernel, by decide +kernel⟩) hS (fun q _ h => hFc q h) hFc (fun r1710_1 u t H1 locs ht hvm hw hB hz1 hk1 hS => ?_)
      obtain ⟨hP1, hK1, hD1⟩ := hB
      rw [ht] at hP1
      have hK1 := va_K.moved hvm.symm hK1
      obtain ⟨hP, hD⟩ := va_join (wr := [(o, .inl (kO, 1, .inr (.inl go1674)))]) (w1 := []) hP hD [1] [0] rfl rfl (by decide) (by decide) hk1 hFc hP1 hD1
      generalize H1 = H at hP hS ⊢
      have hP : va_P (dC, dI) vwCl [(o, .inl (kO, 1, .inr (.inl go1674)))] H := hP
      have hD : va_D A [(o, .inl (kO, 1, .inr (.inl go1674)))] := hD
      obtain rfl := hw
      refine lv_iload hx hb dL_law_1713 (lv_at hl 1 rfl) ?_
      refine lv_icmp_eq (tgt := 1720) hx hb dL_law_1715 (by decide) (fun c9 => absurd c9 (by decide)) (fun _ => ?_)
      refine lv_iconst (v := 0) hx hb dL_law_1718 (by decide) ?_
      refine W.widen (k := 600002) (n := 7302232) (by decide +kernel) (by decide +kernel) ?_
      exact False.elim (by omega)
  · refine lv_istore (lv' := [(5, .int 1), (4, .int 0), (3, .ref o), (2, .ref h2), (1, .ref h1), (0, .ref b)]) hx hb dL_law_1677 hl (by decide) rfl (fun ls hl => ?_)
    refine lv_aload_n hx hb dL_law_1679 rfl (lv_at hl 3 rfl) ?_
    refine lv_aload_n hx hb dL_law_1680 rfl (lv_at hl 5 rfl) ?_
    refine lv_iload hx hb dL_law_1681 (lv_at hl 1 rfl) ?_
    refine lv_iconst (v := 1) hx hb dL_law_1683 (by decide) ?_
    refine lv_iadd hx hb dL_law_1684 ?_
    refine lv_topi (fun y22 hy22 => ?_)
    obtain rfl : 1 = y22 := (hy22.trans (by decide)).symm
    refine va_sld hx hb hX hbl hbA hS (show ¬ ((1 : Int32) < 0 ∨ 6 ≤ (1 : Int32).toNatClampNeg) by decide) dL_law_1685 ?_
    refine lv_topi (fun y23 hy23 => ?_)
    obtain rfl : (xs 1) = y23 := (hy23.trans (rfl)).symm
    refine lv_aload_n hx hb dL_law_1686 rfl (lv_at hl 5 rfl) ?_
    refine lv_iload hx hb dL_law_1687 (lv_at hl 1 rfl) ?_
    refine lv_iconst (v := 2) hx hb dL_law_1689 (by decide) ?_
    refine lv_iadd hx hb dL_law_1690 ?_
    refine lv_topi (fun y24 hy24 => ?_)
    obtain rfl : 2 = y24 := (hy24.trans (by decide)).symm
    refine va_sld hx hb hX hbl hbA hS (show ¬ ((2 : Int32) < 0 ∨ 6 ≤ (2 : Int32).toNatClampNeg) by decide) dL_law_1691 ?_
    refine lv_topi (fun y25 hy25 => ?_)
    obtain rfl : (xs 2) = y25 := (hy25.trans (rfl)).symm
    refine lv_aload_n hx hb dL_law_1692 rfl (lv_at hl 5 rfl) ?_
    refine lv_iload hx hb dL_law_1693 (lv_at hl 1 rfl) ?_
    refine lv_iconst (v := 3) hx hb dL_law_1695 (by decide) ?_
    refine lv_iadd hx hb dL_law_1696 ?_
    refine lv_topi (fun y26 hy26 => ?_)
    obtain rfl : 3 = y26 := (hy26.trans (by decide)).symm
    refine va_sld hx hb hX hbl hbA hS (show ¬ ((3 : Int32) < 0 ∨ 6 ≤ (3 : Int32).toNatClampNeg) by decide) dL_law_1697 ?_
    refine lv_topi (fun y27 hy27 => ?_)
    obtain rfl : (xs 3) = y27 := (hy27.trans (rfl)).symm
    refine lv_aload_n hx hb dL_law_1698 rfl (lv_at hl 5 rfl) ?_
    refine lv_iload hx hb dL_law_1699 (lv_at hl 1 rfl) ?_
    refine lv_iconst (v := 4) hx hb dL_law_1701 (by decide) ?_
    refine lv_iadd hx hb dL_law_1702 ?_
    refine lv_topi (fun y28 hy28 => ?_)
    obtain rfl : 4 = y28 := (hy28.trans (by decide)).symm
    refine va_sld hx hb hX hbl hbA hS (show ¬ ((4 : Int32) < 0 ∨ 6 ≤ (4 : Int32).toNatClampNeg) by decide) dL_law_1703 ?_
    refine lv_topi (fun y29 hy29 => ?_)
    obtain rfl : (xs 4) = y29 := (hy29.trans (rfl)).symm
    have hPc := hP.sub (ws' := [(h2, .inr (12, fM (vM av))), ((av 95), .inl ((kv 95), 40, .inl (fun _ => 0))), ((av 96), .inl ((kv 96), 40, .inl (fun _ => 0))), ((av 97), .inl ((kv 97), 40, .inl (fun _ => 0))), ((av 98), .inl ((kv 98), 40, .inl (fun _ => 0)))]) [0, 1, 2, 3, 4] rfl
    have hDc := hD.sub (ws' := [(h2, .inr (12, fM (vM av))), ((av 95), .inl ((kv 95), 40, .inl (fun _ => 0))), ((av 96), .inl ((kv 96), 40, .inl (fun _ => 0))), ((av 97), .inl ((kv 97), 40, .inl (fun _ => 0))), ((av 98), .inl ((kv 98), 40, .inl (fun _ => 0)))]) [0, 1, 2, 3, 4] (by decide) rfl
    have hKc := hK.sub (tys' := [((kv 95), .int), ((kv 96), .int), ((kv 97), .int), ((kv 98), .int)]) [0, 1, 2, 3] rfl
    have hFc := va_free (wc := [(h2, .inr (12, fM (vM av))), ((av 95), .inl ((kv 95), 40, .inl (fun _ => 0))), ((av 96), .inl ((kv 96), 40, .inl (fun _ => 0))), ((av 97), .inl ((kv 97), 40, .inl (fun _ => 0))), ((av 98), .inl ((kv 98), 40, .inl (fun _ => 0)))]) hD hS hA [0, 1, 2, 3, 4] rfl
    refine va_calli (va_runV (As := [.int (xs 1), .int (xs 2), .int (xs 3), .int (xs 4)]) (rest := []) ⟨hx, hb, hml, hown, hts⟩ (p_X12_arc l dC dI h2 (vM av) (rfl) (av 95) (rfl) (kv 95) (fun _ => 0) (av 96) (rfl) (kv 96) (fun _ => 0) (av 97) (rfl) (kv 97) (fun _ => 0) (av 98) (rfl) (kv 98) (fun _ => 0) (xs 1) (xs 2) (xs 3) (xs 4) H.size) (cwV 4 hts glaw31_1 rfl rfl rfl (by decide +kernel) ⟨by decide +kernel, by decide +kernel⟩) ⟨fun a U g mk q => by obtain ⟨q0, q1, qP, qK, qD⟩ := q; exact ⟨q0, q1, qP, va_K.moved (u := U) (U := U.calling g mk a) (Vm.Alike.refl U.vm) qK, qD⟩, va_recv hKc hPc (ci := 12) (q0 := 0) rfl rfl, fun U hU9 hW => ⟨rfl, by rw [hU9], by rw [hU9]; exact hPc, va_K.moved hW.alike hKc, hDc.weaken (fun _ _ _ _ => trivial)⟩⟩ rfl rfl hl.1 rfl (lv_room (Nat.le_of_ble_eq_true rfl)) dL_law_1704 ⟨by decide +kernel, by decide +kernel⟩) hS (fun q _ h => hFc q h) hFc (fun r1704_1 u t H1 locs ht hvm hw hB hz1 hk1 hS => ?_)
    obtain ⟨w1704_1, hwit1704_1⟩ : ∃ w9, w9 = u := ⟨u, rfl⟩
    subst hwit1704_1
    obtain ⟨hP1, hK1, hD1⟩ := hB
    rw [ht] at hP1
    have hK1 := va_K.moved hvm.symm hK1
    obtain ⟨hP, hD⟩ := va_join (wr := [(o, .inl (kO, 1, .inr (.inl go1674)))]) (w1 := [(h2, .inr (12, fM w1704_1))]) hP hD [0, 1, 2, 3, 4] [5] rfl rfl (by decide) (by decide) hk1 hFc hP1 hD1
    generalize H1 = H at hP hS ⊢
    have hP : va_P (dC, dI) vwCl [(o, .inl (kO, 1, .inr (.inl go1674))), (h2, .inr (12, fM w1704_1))] H := hP
    have hD : va_D A [(o, .inl (kO, 1, .inr (.inl go1674))), (h2, .inr (12, fM w1704_1))] := hD
    rcases hw with ⟨rfl, f1704_1_0, f1704_1_1⟩ | ⟨rfl, f1704_1_0, f1704_1_1⟩
    · refine lv_istore (lv' := [(6, .int 0), (5, .int 1), (4, .int 0), (3, .ref o), (2, .ref h2), (1, .ref h1), (0, .ref b)]) hx hb dL_law_1707 hl (by decide) rfl (fun ls hl => ?_)
      refine lv_aload_n hx hb dL_law_1709 rfl (lv_at hl 4 rfl) ?_
      have hPc := hP.sub (ws' := [(h2, .inr (12, fM w1704_1))]) [1] rfl
      have hDc := hD.sub (ws' := [(h2, .inr (12, fM w1704_1))]) [1] (by decide) rfl
      have hKc := hK.sub (tys' := []) [] rfl
      have hFc := va_free (wc := [(h2, .inr (12, fM w1704_1))]) hD hS hA [1] rfl
      refine va_calli (va_runV (As := []) (rest := []) ⟨hx, hb, hml, hown, hts⟩ (p_X12_thrown l dC dI h2 w1704_1 0 (f1704_1_1) H.size) (cwV 0 hts glaw31_2 rfl rfl rfl (by decide +kernel) ⟨by decide +kernel, by decide +kernel⟩) ⟨fun a U g mk q => by obtain ⟨q0, q1, qP, qK, qD⟩ := q; exact ⟨q0, q1, qP, va_K.moved (u := U) (U := U.calling g mk a) (Vm.Alike.refl U.vm) qK, qD⟩, va_recv hKc hPc (ci := 12) (q0 := 0) rfl rfl, fun U hU9 hW => ⟨rfl, by rw [hU9], by rw [hU9]; exact hPc, va_K.moved hW.alike hKc, hDc.weaken (fun _ _ _ _ => trivial)⟩⟩ rfl rfl hl.1 rfl (lv_room (Nat.le_of_ble_eq_true rfl)) dL_law_1710 ⟨by decide +kernel, by decide +kernel⟩) hS (fun q _ h => hFc q h) hFc (fun r1710_2 u t H1 locs ht hvm hw hB hz1 hk1 hS => ?_)
      obtain ⟨hP1, hK1, hD1⟩ := hB
      rw [ht] at hP1
      have hK1 := va_K.moved hvm.symm hK1
      obtain ⟨hP, hD⟩ := va_join (wr := [(o, .inl (kO, 1, .inr (.inl go1674)))]) (w1 := []) hP hD [1] [0] rfl rfl (by decide) (by decide) hk1 hFc hP1 hD1
      generalize H1 = H at hP hS ⊢
      have hP : va_P (dC, dI) vwCl [(o, .inl (kO, 1, .inr (.inl go1674)))] H := hP
      have hD : va_D A [(o, .inl (kO, 1, .inr (.inl go1674)))] := hD
      obtain rfl := hw
      refine lv_iload hx hb dL_law_1713 (lv_at hl 1 rfl) ?_
      refine lv_icmp_eq (tgt := 1720) hx hb dL_law_1715 (by decide) (fun c9 => absurd c9 (by decide)) (fun _ => ?_)
      refine lv_iconst (v := 0) hx hb dL_law_1718 (by decide) ?_
      refine W.widen (k := 600002) (n := 7302232) (by decide +kernel) (by decide +kernel) ?_
      exact False.elim (by omega)
    · refine lv_istore (lv' := [(6, .int 0), (5, .int 1), (4, .int 0), (3, .ref o), (2, .ref h2), (1, .ref h1), (0, .ref b)]) hx hb dL_law_1707 hl (by decide) rfl (fun ls hl => ?_)
      refine lv_aload_n hx hb dL_law_1709 rfl (lv_at hl 4 rfl) ?_
      have hPc := hP.sub (ws' := [(h2, .inr (12, fM w1704_1))]) [1] rfl
      have hDc := hD.sub (ws' := [(h2, .inr (12, fM w1704_1))]) [1] (by decide) rfl
      have hKc := hK.sub (tys' := []) [] rfl
      have hFc := va_free (wc := [(h2, .inr (12, fM w1704_1))]) hD hS hA [1] rfl
      refine va_calli (va_runV (As := []) (rest := []) ⟨hx, hb, hml, hown, hts⟩ (p_X12_thrown l dC dI h2 w1704_1 1 (f1704_1_1) H.size) (cwV 0 hts glaw31_2 rfl rfl rfl (by decide +kernel) ⟨by decide +kernel, by decide +kernel⟩) ⟨fun a U g mk q => by obtain ⟨q0, q1, qP, qK, qD⟩ := q; exact ⟨q0, q1, qP, va_K.moved (u := U) (U := U.calling g mk a) (Vm.Alike.refl U.vm) qK, qD⟩, va_recv hKc hPc (ci := 12) (q0 := 0) rfl rfl, fun U hU9 hW => ⟨rfl, by rw [hU9], by rw [hU9]; exact hPc, va_K.moved hW.alike hKc, hDc.weaken (fun _ _ _ _ => trivial)⟩⟩ rfl rfl hl.1 rfl (lv_room (Nat.le_of_ble_eq_true rfl)) dL_law_1710 ⟨by decide +kernel, by decide +kernel⟩) hS (fun q _ h => hFc q h) hFc (fun r1710_3 u t H1 locs ht hvm hw hB hz1 hk1 hS => ?_)
      obtain ⟨hP1, hK1, hD1⟩ := hB
      rw [ht] at hP1
      have hK1 := va_K.moved hvm.symm hK1
      obtain ⟨hP, hD⟩ := va_join (wr := [(o, .inl (kO, 1, .inr (.inl go1674)))]) (w1 := []) hP hD [1] [0] rfl rfl (by decide) (by decide) hk1 hFc hP1 hD1
      generalize H1 = H at hP hS ⊢
      have hP : va_P (dC, dI) vwCl [(o, .inl (kO, 1, .inr (.inl go1674)))] H := hP
      have hD : va_D A [(o, .inl (kO, 1, .inr (.inl go1674)))] := hD
      obtain rfl := hw
      refine lv_iload hx hb dL_law_1713 (lv_at hl 1 rfl) ?_
      refine lv_icmp_eq (tgt := 1720) hx hb dL_law_1715 (by decide) (fun _ => ?_) (fun c9 => absurd (by decide) c9)
      refine lv_iload hx hb dL_law_1720 (lv_at hl 1 rfl) ?_
      refine lv_if_ne (tgt := 1737) hx hb dL_law_1722 (by decide) (fun _ => ?_) (fun c9 => absurd c9 (by decide))
      refine lv_goto (tgt := 2131) hx hb dL_law_1737 (by decide) ?_
      refine lv_iinc (v := 6) (lv' := [(4, .int 6), (6, .int 0), (5, .int 1), (3, .ref o), (2, .ref h2), (1, .ref h1), (0, .ref b)]) hx hb dL_law_2131 hl (k := 2) rfl (by decide) (by decide) rfl (fun ls hl => ?_)
      refine lv_goto (tgt := 23) hx hb dL_law_2134 (by decide) ?_
      refine lv_iload hx hb dL_law_23 (lv_at hl 0 rfl) ?_
      refine lv_aload_n hx hb dL_law_25 rfl (lv_at hl 6 rfl) ?_
      refine va_slen hx hb hX hbl hbA hS dL_law_26 ?_
      refine lv_topi (fun y30 hy30 => ?_)
      obtain rfl : 6 = y30 := (hy30.trans (rfl)).symm
      refine lv_bipush (v := 6) hx hb dL_law_27 (by decide) ?_
      refine lv_isub hx hb dL_law_29 ?_
      refine lv_topi (fun y31 hy31 => ?_)
      obtain rfl : 0 = y31 := (hy31.trans (by decide)).symm
      refine lv_icmp_gt (tgt := 2137) hx hb dL_law_30 (by decide) (fun _ => ?_) (fun c9 => absurd (by decide) c9)
      refine lv_iconst (v := 1) hx hb dL_law_2137 (by decide) ?_
      refine W.widen (k := 600002) (n := 7302232) (by decide +kernel) (by decide +kernel) ?_
      refine va_forget (fun q hq => hA2 _ (hS.2.2 q hq)) ?_
      exact lw_ret hx hb hr hlocks dL_law_2138
theorem dL_law_1740 : decode cL_law 1740 = .ok (.aload_n 1, 1) := by decide +kernel
theorem dL_law_1741 : decode cL_law 1741 = .ok (.invokevirtual 218, 3) := by decide +kernel
theorem dL_law_1744 : decode cL_law 1744 = .ok (.aload_n 2, 1) := by decide +kernel
theorem dL_law_1745 : decode cL_law 1745 = .ok (.invokevirtual 221, 3) := by decide +kernel
theorem dL_law_1748 : decode cL_law 1748 = .ok (.if_icmp .eq 383, 3) := by decide +kernel
theorem glaw32_0 : GoodIn lw_tbl (wsV RL 218 RX11 yX11_unarc wsPX11_unarc) := goodIn_sub ((List.forall_mem_append.mpr ⟨(mem_p ([.methodLink RL 218 yX11_unarc, .instanceMethod yX11_unarc, .selects RX11 yX11_unarc yX11_unarc, .initialized RX11] : List Cond) [(3, 104), (3, 105), (3, 106), (1, 1)] (by decide +kernel)), ml_wsPX11_unarc⟩ : ∀ w ∈ wsV RL 218 RX11 yX11_unarc wsPX11_unarc, w ∈ lw_tbl)) (by decide +kernel)
theorem glaw32_1 : GoodIn lw_tbl (wsV RL 221 RX12 yX12_unarc wsPX12_unarc) := goodIn_sub ((List.forall_mem_append.mpr ⟨(mem_p ([.methodLink RL 221 yX12_unarc, .instanceMethod yX12_unarc, .selects RX12 yX12_unarc yX12_unarc, .initialized RX12] : List Cond) [(15, 238), (15, 239), (16, 0), (1, 4)] (by decide +kernel)), ml_wsPX12_unarc⟩ : ∀ w ∈ wsV RL 221 RX12 yX12_unarc wsPX12_unarc, w ∈ lw_tbl)) (by decide +kernel)
set_option maxHeartbeats 4000000 in
set_option maxRecDepth 100000 in
/-- the law's case 32: unarc -/
theorem lc_32 {p : Program} {e : Env} {s : State} {m : MethodId} {below : List Frame} {meth : Method} {c : Code} (l : Launch) (hst : l.stackTraces = false) {b : Nat} {xs : Nat → Int32} (C0 : lw_At p s m meth c b 6 xs) {A : Nat → Prop} (hA : ∀ q : Nat, s.heap.size ≤ q → A q) (hA2 : ∀ q : Nat, A q → s.heap.size ≤ q) (X0 : lx_ok A s) (dC : Nat → ClassId) (dI : Nat → Nat → Nat) {h1 h2 o : Nat} {a : Nat → Nat} {k : Nat → ClassId} {av : Nat → Nat} {kv : Nat → ClassId} {kO : ClassId} {H : Heap} {locs : List Loc} {ls : Array Slot} (hK : va_K (dC, dI) vwCl [(kO, .long)] s) (hP : va_P (dC, dI) vwCl [(h1, .inr (11, [.ref (a 0), .ref (a 1), .ref (a 3), .ref (a 14), .int 0, .null, .null, .null, .null, .null, .null])), (h2, .inr (12, fM (vM av))), (o, .inl (kO, 1, .inr (.inl (fun _ => 0))))] H) (hD : va_D A [(h1, .inr (11, [.ref (a 0), .ref (a 1), .ref (a 3), .ref (a 14), .int 0, .null, .null, .null, .null, .null, .null])), (h2, .inr (12, fM (vM av))), (o, .inl (kO, 1, .inr (.inl (fun _ => 0))))]) (hS : va_S A s.heap H locs) (hl : lv_has ls 7 [(4, .int 0), (3, .ref o), (2, .ref h2), (1, .ref h1), (0, .ref b)]) : W p l e room_1 s m #[Value.ref b] below meth c H locs 125 181434 (lw_Z below #[Value.ref b] s) (F0 m 1740 ls []) := by
  obtain ⟨hx, hb, hr, hml, hown, hts, hX, hbl, hlocks, hgv⟩ := id C0
  have hb : c.code = cL_law := hb
  have hown : s.vm.findClass RL = some m.cls := hown
  obtain ⟨hU, hN, hnX11_343, hnX11_392, hnX11_421, hncAI, hngX11_161, hngX11_79, hngX11_95⟩ := X0
  have hbA : ¬ A b := fun h => absurd (hA2 b h) (Nat.not_le.mpr hbl)
  refine lv_aload_n hx hb dL_law_1740 rfl (lv_at hl 3 rfl) ?_
  have hPc := hP.sub (ws' := [(h1, .inr (11, [.ref (a 0), .ref (a 1), .ref (a 3), .ref (a 14), .int 0, .null, .null, .null, .null, .null, .null]))]) [0] rfl
  have hDc := hD.sub (ws' := [(h1, .inr (11, [.ref (a 0), .ref (a 1), .ref (a 3), .ref (a 14), .int 0, .null, .null, .null, .null, .null, .null]))]) [0] (by decide) rfl
  have hKc := hK.sub (tys' := []) [] rfl
  have hFc := va_free (wc := [(h1, .inr (11, [.ref (a 0), .ref (a 1), .ref (a 3), .ref (a 14), .int 0, .null, .null, .null, .null, .null, .null]))]) hD hS hA [0] rfl
  refine va_calli (va_runV (As := []) (rest := []) ⟨hx, hb, hml, hown, hts⟩ (p_X11_unarc l dC dI h1 a H.size) (cwV 0 hts glaw32_0 rfl rfl rfl (by decide +kernel) ⟨by decide +kernel, by decide +kernel⟩) ⟨fun a U g mk q => by obtain ⟨q0, q1, qP, qK, qD, qhnX11_421⟩ := q; exact ⟨q0, q1, qP, va_K.moved (u := U) (U := U.calling g mk a) (Vm.Alike.refl U.vm) qK, qD, va_Nw.same (u := U) (U := U.calling g mk a) rfl rfl qhnX11_421⟩, va_recv hKc hPc (ci := 11) (q0 := 0) rfl rfl, fun U hU9 hW => ⟨rfl, by rw [hU9], by rw [hU9]; exact hPc, va_K.moved hW.alike hKc, hDc.weaken (fun _ _ _ _ => trivial), va_Nw.warmM hW hnX11_421⟩⟩ rfl rfl hl.1 rfl (lv_room (Nat.le_of_ble_eq_true rfl)) dL_law_1741 ⟨by decide +kernel, by decide +kernel⟩) hS (fun q _ h => hFc q h) hFc (fun r1741 u t H1 locs ht hvm hw hB hz1 hk1 hS => ?_)
  obtain ⟨hP1, hK1, hD1⟩ := hB
  rw [ht] at hP1
  have hK1 := va_K.moved hvm.symm hK1
  obtain ⟨hP, hD⟩ := va_join (wr := [(h2, .inr (12, fM (vM av))), (o, .inl (kO, 1, .inr (.inl (fun _ => 0))))]) (w1 := []) hP hD [0] [1, 2] rfl rfl (by decide) (by decide) hk1 hFc hP1 hD1
  generalize H1 = H at hP hS ⊢
  have hP : va_P (dC, dI) vwCl [(h2, .inr (12, fM (vM av))), (o, .inl (kO, 1, .inr (.inl (fun _ => 0))))] H := hP
  have hD : va_D A [(h2, .inr (12, fM (vM av))), (o, .inl (kO, 1, .inr (.inl (fun _ => 0))))] := hD
  refine W.widen (k := 137) (n := 182912) (by decide +kernel) (by decide +kernel) ?_
  obtain rfl := hw
  refine lv_aload_n hx hb dL_law_1744 rfl (lv_at hl 2 rfl) ?_
  have hPc := hP.sub (ws' := [(h2, .inr (12, fM (vM av)))]) [0] rfl
  have hDc := hD.sub (ws' := [(h2, .inr (12, fM (vM av)))]) [0] (by decide) rfl
  have hKc := hK.sub (tys' := []) [] rfl
  have hFc := va_free (wc := [(h2, .inr (12, fM (vM av)))]) hD hS hA [0] rfl
  refine va_calli (va_runV (As := []) (rest := [.int 0]) ⟨hx, hb, hml, hown, hts⟩ (p_X12_unarc l dC dI h2 (vM av) (rfl) H.size) (cwV 0 hts glaw32_1 rfl rfl rfl (by decide +kernel) ⟨by decide +kernel, by decide +kernel⟩) ⟨fun a U g mk q => by obtain ⟨q0, q1, qP, qK, qD⟩ := q; exact ⟨q0, q1, qP, va_K.moved (u := U) (U := U.calling g mk a) (Vm.Alike.refl U.vm) qK, qD⟩, va_recv hKc hPc (ci := 12) (q0 := 0) rfl rfl, fun U hU9 hW => ⟨rfl, by rw [hU9], by rw [hU9]; exact hPc, va_K.moved hW.alike hKc, hDc.weaken (fun _ _ _ _ => trivial)⟩⟩ rfl rfl hl.1 rfl (lv_room (Nat.le_of_ble_eq_true rfl)) dL_law_1745 ⟨by decide +kernel, by decide +kernel⟩) hS (fun q _ h => hFc q h) hFc (fun r1745 u t H1 locs ht hvm hw hB hz1 hk1 hS => ?_)
  obtain ⟨w1745, hwit1745⟩ : ∃ w9, w9 = u := ⟨u, rfl⟩
  subst hwit1745
  obtain ⟨hP1, hK1, hD1⟩ := hB
  rw [ht] at hP1
  have hK1 := va_K.moved hvm.symm hK1
  obtain ⟨hP, hD⟩ := va_join (wr := [(o, .inl (kO, 1, .inr (.inl (fun _ => 0))))]) (w1 := [(h2, .inr (12, fM w1745))]) hP hD [0] [1] rfl rfl (by decide) (by decide) hk1 hFc hP1 hD1
  generalize H1 = H at hP hS ⊢
  have hP : va_P (dC, dI) vwCl [(o, .inl (kO, 1, .inr (.inl (fun _ => 0)))), (h2, .inr (12, fM w1745))] H := hP
  have hD : va_D A [(o, .inl (kO, 1, .inr (.inl (fun _ => 0)))), (h2, .inr (12, fM w1745))] := hD
  obtain ⟨rfl, f1745_0⟩ := hw
  refine lv_icmp_eq (tgt := 2131) hx hb dL_law_1748 (by decide) (fun _ => ?_) (fun c9 => absurd (by decide) c9)
  refine lv_iinc (v := 6) (lv' := [(4, .int 6), (3, .ref o), (2, .ref h2), (1, .ref h1), (0, .ref b)]) hx hb dL_law_2131 hl (k := 0) rfl (by decide) (by decide) rfl (fun ls hl => ?_)
  refine lv_goto (tgt := 23) hx hb dL_law_2134 (by decide) ?_
  refine lv_iload hx hb dL_law_23 (lv_at hl 0 rfl) ?_
  refine lv_aload_n hx hb dL_law_25 rfl (lv_at hl 4 rfl) ?_
  refine va_slen hx hb hX hbl hbA hS dL_law_26 ?_
  refine lv_topi (fun y1 hy1 => ?_)
  obtain rfl : 6 = y1 := (hy1.trans (rfl)).symm
  refine lv_bipush (v := 6) hx hb dL_law_27 (by decide) ?_
  refine lv_isub hx hb dL_law_29 ?_
  refine lv_topi (fun y2 hy2 => ?_)
  obtain rfl : 0 = y2 := (hy2.trans (by decide)).symm
  refine lv_icmp_gt (tgt := 2137) hx hb dL_law_30 (by decide) (fun _ => ?_) (fun c9 => absurd (by decide) c9)
  refine lv_iconst (v := 1) hx hb dL_law_2137 (by decide) ?_
  refine W.widen (k := 600002) (n := 7302232) (by decide +kernel) (by decide +kernel) ?_
  refine va_forget (fun q hq => hA2 _ (hS.2.2 q hq)) ?_
  exact lw_ret hx hb hr hlocks dL_law_2138
theorem dL_law_1753 : decode cL_law 1753 = .ok (.aload_n 1, 1) := by decide +kernel
theorem dL_law_1754 : decode cL_law 1754 = .ok (.aload_n 0, 1) := by decide +kernel
theorem dL_law_1755 : decode cL_law 1755 = .ok (.iload 4, 2) := by decide +kernel
theorem dL_law_1757 : decode cL_law 1757 = .ok (.iconst 1, 1) := by decide +kernel
theorem dL_law_1758 : decode cL_law 1758 = .ok (.iadd, 1) := by decide +kernel
theorem dL_law_1759 : decode cL_law 1759 = .ok (.iaload, 1) := by decide +kernel
theorem dL_law_1760 : decode cL_law 1760 = .ok (.aload_n 0, 1) := by decide +kernel
theorem dL_law_1761 : decode cL_law 1761 = .ok (.iload 4, 2) := by decide +kernel
theorem dL_law_1763 : decode cL_law 1763 = .ok (.iconst 2, 1) := by decide +kernel
theorem dL_law_1764 : decode cL_law 1764 = .ok (.iadd, 1) := by decide +kernel
theorem dL_law_1765 : decode cL_law 1765 = .ok (.iaload, 1) := by decide +kernel
theorem dL_law_1766 : decode cL_law 1766 = .ok (.aload_n 3, 1) := by decide +kernel
theorem dL_law_1767 : decode cL_law 1767 = .ok (.invokestatic 222, 3) := by decide +kernel
theorem dL_law_1770 : decode cL_law 1770 = .ok (.istore 5, 2) := by decide +kernel
theorem dL_law_1772 : decode cL_law 1772 = .ok (.aload_n 2, 1) := by decide +kernel
theorem dL_law_1773 : decode cL_law 1773 = .ok (.aload_n 0, 1) := by decide +kernel
theorem dL_law_1774 : decode cL_law 1774 = .ok (.iload 4, 2) := by decide +kernel
theorem dL_law_1776 : decode cL_law 1776 = .ok (.iconst 1, 1) := by decide +kernel
theorem dL_law_1777 : decode cL_law 1777 = .ok (.iadd, 1) := by decide +kernel
theorem dL_law_1778 : decode cL_law 1778 = .ok (.iaload, 1) := by decide +kernel
theorem dL_law_1779 : decode cL_law 1779 = .ok (.aload_n 0, 1) := by decide +kernel
theorem dL_law_1780 : decode cL_law 1780 = .ok (.iload 4, 2) := by decide +kernel
theorem dL_law_1782 : decode cL_law 1782 = .ok (.iconst 2, 1) := by decide +kernel
theorem dL_law_1783 : decode cL_law 1783 = .ok (.iadd, 1) := by decide +kernel
theorem dL_law_1784 : decode cL_law 1784 = .ok (.iaload, 1) := by decide +kernel
theorem dL_law_1785 : decode cL_law 1785 = .ok (.invokevirtual 224, 3) := by decide +kernel
theorem dL_law_1788 : decode cL_law 1788 = .ok (.istore 6, 2) := by decide +kernel
theorem dL_law_1790 : decode cL_law 1790 = .ok (.aload_n 2, 1) := by decide +kernel
theorem dL_law_1791 : decode cL_law 1791 = .ok (.invokevirtual 111, 3) := by decide +kernel
theorem dL_law_1794 : decode cL_law 1794 = .ok (.iload 5, 2) := by decide +kernel
theorem dL_law_1796 : decode cL_law 1796 = .ok (.if_icmp .eq 5, 3) := by decide +kernel
theorem dL_law_1799 : decode cL_law 1799 = .ok (.iconst 0, 1) := by decide +kernel
theorem dL_law_1800 : decode cL_law 1800 = .ok (.ireturn, 1) := by decide +kernel
theorem dL_law_1801 : decode cL_law 1801 = .ok (.iload 5, 2) := by decide +kernel
theorem dL_law_1803 : decode cL_law 1803 = .ok (.ifCond .ne 15, 3) := by decide +kernel
theorem dL_law_1806 : decode cL_law 1806 = .ok (.aload_n 3, 1) := by decide +kernel
theorem dL_law_1807 : decode cL_law 1807 = .ok (.iconst 0, 1) := by decide +kernel
theorem dL_law_1808 : decode cL_law 1808 = .ok (.laload, 1) := by decide +kernel
theorem dL_law_1809 : decode cL_law 1809 = .ok (.iload 6, 2) := by decide +kernel
theorem dL_law_1811 : decode cL_law 1811 = .ok (.i2l, 1) := by decide +kernel
theorem dL_law_1812 : decode cL_law 1812 = .ok (.lcmp, 1) := by decide +kernel
theorem dL_law_1813 : decode cL_law 1813 = .ok (.ifCond .eq 5, 3) := by decide +kernel
theorem dL_law_1818 : decode cL_law 1818 = .ok (.goto 313, 3) := by decide +kernel
theorem glaw33_0 : GoodIn lw_tbl (va_wsS RL 222 yL_greatest wsPL_greatest) := goodIn_sub ((List.forall_mem_append.mpr ⟨(mem_p ([.methodLink RL 222 yL_greatest, .static yL_greatest, .initialized "OptimaWorksLaw"] : List Cond) [(10, 23), (10, 24), (1, 0)] (by decide +kernel)), ml_wsPL_greatest⟩ : ∀ w ∈ va_wsS RL 222 yL_greatest wsPL_greatest, w ∈ lw_tbl)) (by decide +kernel)
theorem glaw33_1 : GoodIn lw_tbl (wsV RL 224 RX12 yX12_greatest wsPX12_greatest) := goodIn_sub ((List.forall_mem_append.mpr ⟨(mem_p ([.methodLink RL 224 yX12_greatest, .instanceMethod yX12_greatest, .selects RX12 yX12_greatest yX12_greatest, .initialized RX12] : List Cond) [(16, 2), (16, 3), (16, 4), (1, 4)] (by decide +kernel)), ml_wsPX12_greatest⟩ : ∀ w ∈ wsV RL 224 RX12 yX12_greatest wsPX12_greatest, w ∈ lw_tbl)) (by decide +kernel)
theorem glaw33_2 : GoodIn lw_tbl (wsV RL 111 RX12 yX12_thrown wsPX12_thrown) := goodIn_sub ((List.forall_mem_append.mpr ⟨(mem_p ([.methodLink RL 111 yX12_thrown, .instanceMethod yX12_thrown, .selects RX12 yX12_thrown yX12_thrown, .initialized RX12] : List Cond) [(12, 139), (12, 140), (12, 141), (1, 4)] (by decide +kernel)), ml_wsPX12_thrown⟩ : ∀ w ∈ wsV RL 111 RX12 yX12_thrown wsPX12_thrown, w ∈ lw_tbl)) (by decide +kernel)
set_option maxHeartbeats 4000000 in
set_option maxRecDepth 100000 in
/-- the law's case 33: greatest -/
theorem lc_33 {p : Program} {e : Env} {s : State} {m : MethodId} {below : List Frame} {meth : Method} {c : Code} (l : Launch) (hst : l.stackTraces = false) {b : Nat} {xs : Nat → Int32} (C0 : lw_At p s m meth c b 6 xs) {A : Nat → Prop} (hA : ∀ q : Nat, s.heap.size ≤ q → A q) (hA2 : ∀ q : Nat, A q → s.heap.size ≤ q) (X0 : lx_ok A s) (dC : Nat → ClassId) (dI : Nat → Nat → Nat) {h1 h2 o : Nat} {a : Nat → Nat} {k : Nat → ClassId} {av : Nat → Nat} {kv : Nat → ClassId} {kO : ClassId} {H : Heap} {locs : List Loc} {ls : Array Slot} (hK : va_K (dC, dI) vwCl [((kv 100), .int), (kO, .long)] s) (hP : va_P (dC, dI) vwCl [(h1, .inr (11, [.ref (a 0), .ref (a 1), .ref (a 3), .ref (a 14), .int 0, .null, .null, .null, .null, .null, .null])), (h2, .inr (12, fM (vM av))), ((av 100), .inl ((kv 100), 12, .inl (fun _ => 0))), (o, .inl (kO, 1, .inr (.inl (fun _ => 0))))] H) (hD : va_D A [(h1, .inr (11, [.ref (a 0), .ref (a 1), .ref (a 3), .ref (a 14), .int 0, .null, .null, .null, .null, .null, .null])), (h2, .inr (12, fM (vM av))), ((av 100), .inl ((kv 100), 12, .inl (fun _ => 0))), (o, .inl (kO, 1, .inr (.inl (fun _ => 0))))]) (hS : va_S A s.heap H locs) (hl : lv_has ls 7 [(4, .int 0), (3, .ref o), (2, .ref h2), (1, .ref h1), (0, .ref b)]) : W p l e room_1 s m #[Value.ref b] below meth c H locs 125 181434 (lw_Z below #[Value.ref b] s) (F0 m 1753 ls []) := by
  obtain ⟨hx, hb, hr, hml, hown, hts, hX, hbl, hlocks, hgv⟩ := id C0
  have hb : c.code = cL_law := hb
  have hown : s.vm.findClass RL = some m.cls := hown
  obtain ⟨hU, hN, hnX11_343, hnX11_392, hnX11_421, hncAI, hngX11_161, hngX11_79, hngX11_95⟩ := X0
  have hbA : ¬ A b := fun h => absurd (hA2 b h) (Nat.not_le.mpr hbl)
  refine lv_aload_n hx hb dL_law_1753 rfl (lv_at hl 3 rfl) ?_
  refine lv_aload_n hx hb dL_law_1754 rfl (lv_at hl 4 rfl) ?_
  refine lv_iload hx hb dL_law_1755 (lv_at hl 0 rfl) ?_
  refine lv_iconst (v := 1) hx hb dL_law_1757 (by decide) ?_
  refine lv_iadd hx hb dL_law_1758 ?_
  refine lv_topi (fun y1 hy1 => ?_)
  obtain rfl : 1 = y1 := (hy1.trans (by decide)).symm
  refine va_sld hx hb hX hbl hbA hS (show ¬ ((1 : Int32) < 0 ∨ 6 ≤ (1 : Int32).toNatClampNeg) by decide) dL_law_1759 ?_
  refine lv_topi (fun y2 hy2 => ?_)
  obtain rfl : (xs 1) = y2 := (hy2.trans (rfl)).symm
  refine lv_aload_n hx hb dL_law_1760 rfl (lv_at hl 4 rfl) ?_
  refine lv_iload hx hb dL_law_1761 (lv_at hl 0 rfl) ?_
  refine lv_iconst (v := 2) hx hb dL_law_1763 (by decide) ?_
  refine lv_iadd hx hb dL_law_1764 ?_
  refine lv_topi (fun y3 hy3 => ?_)
  obtain rfl : 2 = y3 := (hy3.trans (by decide)).symm
  refine va_sld hx hb hX hbl hbA hS (show ¬ ((2 : Int32) < 0 ∨ 6 ≤ (2 : Int32).toNatClampNeg) by decide) dL_law_1765 ?_
  refine lv_topi (fun y4 hy4 => ?_)
  obtain rfl : (xs 2) = y4 := (hy4.trans (rfl)).symm
  refine lv_aload_n hx hb dL_law_1766 rfl (lv_at hl 1 rfl) ?_
  have hPc := hP.sub (ws' := [(h1, .inr (11, [.ref (a 0), .ref (a 1), .ref (a 3), .ref (a 14), .int 0, .null, .null, .null, .null, .null, .null])), (o, .inl (kO, 1, .inr (.inl (fun _ => 0))))]) [0, 3] rfl
  have hDc := hD.sub (ws' := [(h1, .inr (11, [.ref (a 0), .ref (a 1), .ref (a 3), .ref (a 14), .int 0, .null, .null, .null, .null, .null, .null])), (o, .inl (kO, 1, .inr (.inl (fun _ => 0))))]) [0, 3] (by decide) rfl
  have hKc := hK.sub (tys' := [(kO, .long)]) [1] rfl
  have hFc := va_free (wc := [(h1, .inr (11, [.ref (a 0), .ref (a 1), .ref (a 3), .ref (a 14), .int 0, .null, .null, .null, .null, .null, .null])), (o, .inl (kO, 1, .inr (.inl (fun _ => 0))))]) hD hS hA [0, 3] rfl
  refine va_calli (vx_runSW (As := [.ref h1, .int (xs 1), .int (xs 2), .ref o]) (rest := []) ⟨hx, hb, hml, hown, hts⟩ (p_L_greatest l hst dC dI h1 a o kO (xs 1) (xs 2) H.size) (vx_cwSW 4 hts glaw33_0 rfl rfl rfl (by decide +kernel) ⟨by decide +kernel, by decide +kernel⟩) ⟨fun a U g mk q => by obtain ⟨q0, q1, qP, qK, qD, qU, qN, qngX11_79, qngX11_95, qhnX11_421, qhncAI⟩ := q; exact ⟨q0, q1, qP, va_K.moved (u := U) (U := U.calling g mk a) (Vm.Alike.refl U.vm) qK, qD, vx_Zq.moved (u := U) (U := U.calling g mk a) (Vm.Alike.refl U.vm) qU, vx_Zq.moved (u := U) (U := U.calling g mk a) (Vm.Alike.refl U.vm) qN, fun w h => va_Nw.same (u := U) (U := U.calling g mk a) (ngX11_79_ot w h) rfl (qngX11_79 w h), fun w h => va_Nw.same (u := U) (U := U.calling g mk a) (ngX11_95_ot w h) rfl (qngX11_95 w h), va_Nw.same (u := U) (U := U.calling g mk a) rfl rfl qhnX11_421, va_Nc.moved (u := U) (U := U.calling g mk a) (Vm.Alike.refl U.vm) qhncAI⟩, fun U hU9 hW => ⟨rfl, by rw [hU9], by rw [hU9]; exact hPc, va_K.moved hW.alike hKc, hDc.weaken (fun _ _ _ _ => trivial), by rw [hU9]; exact ((hU.kept (fun a h1 h2 => hS.2.1 a h1 h2)).narrow hFc).moved hW.alike, by rw [hU9]; exact ((hN.kept (fun a h1 h2 => hS.2.1 a h1 h2)).narrow hFc).moved hW.alike, fun w h => cd_warm (ngX11_79_cd w h) hW (hngX11_79 w h), fun w h => cd_warm (ngX11_95_cd w h) hW (hngX11_95 w h), va_Nw.warmM hW hnX11_421, va_Nc.moved hW.alike hncAI⟩⟩ rfl rfl hl.1 rfl (lv_room (Nat.le_of_ble_eq_true rfl)) dL_law_1767 ⟨by decide +kernel, by decide +kernel⟩) hS (fun q _ h => hFc q h) hFc (fun r1767 u t H1 locs ht hvm hw hB hz1 hk1 hS => ?_)
  obtain ⟨go1767, hwit1767⟩ : ∃ w9, w9 = u := ⟨u, rfl⟩
  subst hwit1767
  obtain ⟨hP1, hK1, hD1⟩ := hB
  rw [ht] at hP1
  have hK1 := va_K.moved hvm.symm hK1
  obtain ⟨hP, hD⟩ := va_join (wr := [(h2, .inr (12, fM (vM av))), ((av 100), .inl ((kv 100), 12, .inl (fun _ => 0)))]) (w1 := [(o, .inl (kO, 1, .inr (.inl go1767)))]) hP hD [0, 3] [1, 2] rfl rfl (by decide) (by decide) hk1 hFc hP1 hD1
  generalize H1 = H at hP hS ⊢
  have hP : va_P (dC, dI) vwCl [(h2, .inr (12, fM (vM av))), ((av 100), .inl ((kv 100), 12, .inl (fun _ => 0))), (o, .inl (kO, 1, .inr (.inl go1767)))] H := hP
  have hD : va_D A [(h2, .inr (12, fM (vM av))), ((av 100), .inl ((kv 100), 12, .inl (fun _ => 0))), (o, .inl (kO, 1, .inr (.inl go1767)))] := hD
  refine W.widen (k := 138) (n := 182918) (by decide +kernel) (by decide +kernel) ?_
  rcases hw with ⟨rfl, f1767_0, f1767_1⟩ | ⟨rfl, f1767_0⟩ | ⟨rfl, f1767_0⟩
  · refine lv_istore (lv' := [(5, .int 0), (4, .int 0), (3, .ref o), (2, .ref h2), (1, .ref h1), (0, .ref b)]) hx hb dL_law_1770 hl (by decide) rfl (fun ls hl => ?_)
    refine lv_aload_n hx hb dL_law_1772 rfl (lv_at hl 3 rfl) ?_
    refine lv_aload_n hx hb dL_law_1773 rfl (lv_at hl 5 rfl) ?_
    refine lv_iload hx hb dL_law_1774 (lv_at hl 1 rfl) ?_
    refine lv_iconst (v := 1) hx hb dL_law_1776 (by decide) ?_
    refine lv_iadd hx hb dL_law_1777 ?_
    refine lv_topi (fun y5 hy5 => ?_)
    obtain rfl : 1 = y5 := (hy5.trans (by decide)).symm
    refine va_sld hx hb hX hbl hbA hS (show ¬ ((1 : Int32) < 0 ∨ 6 ≤ (1 : Int32).toNatClampNeg) by decide) dL_law_1778 ?_
    refine lv_topi (fun y6 hy6 => ?_)
    obtain rfl : (xs 1) = y6 := (hy6.trans (rfl)).symm
    refine lv_aload_n hx hb dL_law_1779 rfl (lv_at hl 5 rfl) ?_
    refine lv_iload hx hb dL_law_1780 (lv_at hl 1 rfl) ?_
    refine lv_iconst (v := 2) hx hb dL_law_1782 (by decide) ?_
    refine lv_iadd hx hb dL_law_1783 ?_
    refine lv_topi (fun y7 hy7 => ?_)
    obtain rfl : 2 = y7 := (hy7.trans (by decide)).symm
    refine va_sld hx hb hX hbl hbA hS (show ¬ ((2 : Int32) < 0 ∨ 6 ≤ (2 : Int32).toNatClampNeg) by decide) dL_law_1784 ?_
    refine lv_topi (fun y8 hy8 => ?_)
    obtain rfl : (xs 2) = y8 := (hy8.trans (rfl)).symm
    have hPc := hP.sub (ws' := [(h2, .inr (12, fM (vM av))), ((av 100), .inl ((kv 100), 12, .inl (fun _ => 0)))]) [0, 1] rfl
    have hDc := hD.sub (ws' := [(h2, .inr (12, fM (vM av))), ((av 100), .inl ((kv 100), 12, .inl (fun _ => 0)))]) [0, 1] (by decide) rfl
    have hKc := hK.sub (tys' := [((kv 100), .int)]) [0] rfl
    have hFc := va_free (wc := [(h2, .inr (12, fM (vM av))), ((av 100), .inl ((kv 100), 12, .inl (fun _ => 0)))]) hD hS hA [0, 1] rfl
    refine va_calli (va_runV (As := [.int (xs 1), .int (xs 2)]) (rest := []) ⟨hx, hb, hml, hown, hts⟩ (p_X12_greatest l dC dI h2 (vM av) (rfl) (av 100) (rfl) (kv 100) (fun _ => 0) (xs 1) (xs 2) H.size) (cwV 2 hts glaw33_1 rfl rfl rfl (by decide +kernel) ⟨by decide +kernel, by decide +kernel⟩) ⟨fun a U g mk q => by obtain ⟨q0, q1, qP, qK, qD⟩ := q; exact ⟨q0, q1, qP, va_K.moved (u := U) (U := U.calling g mk a) (Vm.Alike.refl U.vm) qK, qD⟩, va_recv hKc hPc (ci := 12) (q0 := 0) rfl rfl, fun U hU9 hW => ⟨rfl, by rw [hU9], by rw [hU9]; exact hPc, va_K.moved hW.alike hKc, hDc.weaken (fun _ _ _ _ => trivial)⟩⟩ rfl rfl hl.1 rfl (lv_room (Nat.le_of_ble_eq_true rfl)) dL_law_1785 ⟨by decide +kernel, by decide +kernel⟩) hS (fun q _ h => hFc q h) hFc (fun r1785 u t H1 locs ht hvm hw hB hz1 hk1 hS => ?_)
    obtain ⟨w1785, hwit1785⟩ : ∃ w9, w9 = u := ⟨u, rfl⟩
    subst hwit1785
    obtain ⟨hP1, hK1, hD1⟩ := hB
    rw [ht] at hP1
    have hK1 := va_K.moved hvm.symm hK1
    obtain ⟨hP, hD⟩ := va_join (wr := [(o, .inl (kO, 1, .inr (.inl go1767)))]) (w1 := [(h2, .inr (12, fM w1785))]) hP hD [0, 1] [2] rfl rfl (by decide) (by decide) hk1 hFc hP1 hD1
    generalize H1 = H at hP hS ⊢
    have hP : va_P (dC, dI) vwCl [(o, .inl (kO, 1, .inr (.inl go1767))), (h2, .inr (12, fM w1785))] H := hP
    have hD : va_D A [(o, .inl (kO, 1, .inr (.inl go1767))), (h2, .inr (12, fM w1785))] := hD
    rcases hw with ⟨rfl, f1785_0, f1785_1⟩ | ⟨rfl, f1785_0, f1785_1⟩ | ⟨rfl, f1785_0, f1785_1⟩
    · refine lv_istore (lv' := [(6, .int 0), (5, .int 0), (4, .int 0), (3, .ref o), (2, .ref h2), (1, .ref h1), (0, .ref b)]) hx hb dL_law_1788 hl (by decide) rfl (fun ls hl => ?_)
      refine lv_aload_n hx hb dL_law_1790 rfl (lv_at hl 4 rfl) ?_
      have hPc := hP.sub (ws' := [(h2, .inr (12, fM w1785))]) [1] rfl
      have hDc := hD.sub (ws' := [(h2, .inr (12, fM w1785))]) [1] (by decide) rfl
      have hKc := hK.sub (tys' := []) [] rfl
      have hFc := va_free (wc := [(h2, .inr (12, fM w1785))]) hD hS hA [1] rfl
      refine va_calli (va_runV (As := []) (rest := []) ⟨hx, hb, hml, hown, hts⟩ (p_X12_thrown l dC dI h2 w1785 0 (f1785_1) H.size) (cwV 0 hts glaw33_2 rfl rfl rfl (by decide +kernel) ⟨by decide +kernel, by decide +kernel⟩) ⟨fun a U g mk q => by obtain ⟨q0, q1, qP, qK, qD⟩ := q; exact ⟨q0, q1, qP, va_K.moved (u := U) (U := U.calling g mk a) (Vm.Alike.refl U.vm) qK, qD⟩, va_recv hKc hPc (ci := 12) (q0 := 0) rfl rfl, fun U hU9 hW => ⟨rfl, by rw [hU9], by rw [hU9]; exact hPc, va_K.moved hW.alike hKc, hDc.weaken (fun _ _ _ _ => trivial)⟩⟩ rfl rfl hl.1 rfl (lv_room (Nat.le_of_ble_eq_true rfl)) dL_law_1791 ⟨by decide +kernel, by decide +kernel⟩) hS (fun q _ h => hFc q h) hFc (fun r1791 u t H1 locs ht hvm hw hB hz1 hk1 hS => ?_)
      obtain ⟨hP1, hK1, hD1⟩ := hB
      rw [ht] at hP1
      have hK1 := va_K.moved hvm.symm hK1
      obtain ⟨hP, hD⟩ := va_join (wr := [(o, .inl (kO, 1, .inr (.inl go1767)))]) (w1 := []) hP hD [1] [0] rfl rfl (by decide) (by decide) hk1 hFc hP1 hD1
      generalize H1 = H at hP hS ⊢
      have hP : va_P (dC, dI) vwCl [(o, .inl (kO, 1, .inr (.inl go1767)))] H := hP
      have hD : va_D A [(o, .inl (kO, 1, .inr (.inl go1767)))] := hD
      obtain rfl := hw
      refine lv_iload hx hb dL_law_1794 (lv_at hl 1 rfl) ?_
      refine lv_icmp_eq (tgt := 1801) hx hb dL_law_1796 (by decide) (fun _ => ?_) (fun c9 => absurd (by decide) c9)
      refine lv_iload hx hb dL_law_1801 (lv_at hl 1 rfl) ?_
      refine lv_if_ne (tgt := 1818) hx hb dL_law_1803 (by decide) (fun c9 => absurd c9 (by decide)) (fun _ => ?_)
      refine lv_aload_n hx hb dL_law_1806 rfl (lv_at hl 3 rfl) ?_
      refine lv_iconst (v := 0) hx hb dL_law_1807 (by decide) ?_
      refine va_lald hx hb hK hP 0 1 rfl rfl (show ¬ ((0 : Int32) < 0 ∨ 1 ≤ (0 : Int32).toNatClampNeg) by decide) dL_law_1808 ?_
      refine lv_topl (fun y9 hy9 => ?_)
      obtain rfl : 0 = y9 := (hy9.trans (f1767_1)).symm
      refine lv_iload hx hb dL_law_1809 (lv_at hl 0 rfl) ?_
      refine lv_i2l hx hb dL_law_1811 rfl ?_
      refine lv_topl (fun y10 hy10 => ?_)
      obtain rfl : 0 = y10 := (hy10.trans (by decide)).symm
      refine W.lcmp hx hb dL_law_1812 ?_
      refine lv_topi (fun y11 hy11 => ?_)
      obtain rfl : 0 = y11 := (hy11.trans (by decide)).symm
      refine lv_if_eq (tgt := 1818) hx hb dL_law_1813 (by decide) (fun _ => ?_) (fun c9 => absurd (by decide) c9)
      refine lv_goto (tgt := 2131) hx hb dL_law_1818 (by decide) ?_
      refine lv_iinc (v := 6) (lv' := [(4, .int 6), (6, .int 0), (5, .int 0), (3, .ref o), (2, .ref h2), (1, .ref h1), (0, .ref b)]) hx hb dL_law_2131 hl (k := 2) rfl (by decide) (by decide) rfl (fun ls hl => ?_)
      refine lv_goto (tgt := 23) hx hb dL_law_2134 (by decide) ?_
      refine lv_iload hx hb dL_law_23 (lv_at hl 0 rfl) ?_
      refine lv_aload_n hx hb dL_law_25 rfl (lv_at hl 6 rfl) ?_
      refine va_slen hx hb hX hbl hbA hS dL_law_26 ?_
      refine lv_topi (fun y12 hy12 => ?_)
      obtain rfl : 6 = y12 := (hy12.trans (rfl)).symm
      refine lv_bipush (v := 6) hx hb dL_law_27 (by decide) ?_
      refine lv_isub hx hb dL_law_29 ?_
      refine lv_topi (fun y13 hy13 => ?_)
      obtain rfl : 0 = y13 := (hy13.trans (by decide)).symm
      refine lv_icmp_gt (tgt := 2137) hx hb dL_law_30 (by decide) (fun _ => ?_) (fun c9 => absurd (by decide) c9)
      refine lv_iconst (v := 1) hx hb dL_law_2137 (by decide) ?_
      refine W.widen (k := 600002) (n := 7302232) (by decide +kernel) (by decide +kernel) ?_
      refine va_forget (fun q hq => hA2 _ (hS.2.2 q hq)) ?_
      exact lw_ret hx hb hr hlocks dL_law_2138
    · refine lv_istore (lv' := [(6, .int 0), (5, .int 0), (4, .int 0), (3, .ref o), (2, .ref h2), (1, .ref h1), (0, .ref b)]) hx hb dL_law_1788 hl (by decide) rfl (fun ls hl => ?_)
      refine lv_aload_n hx hb dL_law_1790 rfl (lv_at hl 4 rfl) ?_
      have hPc := hP.sub (ws' := [(h2, .inr (12, fM w1785))]) [1] rfl
      have hDc := hD.sub (ws' := [(h2, .inr (12, fM w1785))]) [1] (by decide) rfl
      have hKc := hK.sub (tys' := []) [] rfl
      have hFc := va_free (wc := [(h2, .inr (12, fM w1785))]) hD hS hA [1] rfl
      refine va_calli (va_runV (As := []) (rest := []) ⟨hx, hb, hml, hown, hts⟩ (p_X12_thrown l dC dI h2 w1785 1 (f1785_1) H.size) (cwV 0 hts glaw33_2 rfl rfl rfl (by decide +kernel) ⟨by decide +kernel, by decide +kernel⟩) ⟨fun a U g mk q => by obtain ⟨q0, q1, qP, qK, qD⟩ := q; exact ⟨q0, q1, qP, va_K.moved (u := U) (U := U.calling g mk a) (Vm.Alike.refl U.vm) qK, qD⟩, va_recv hKc hPc (ci := 12) (q0 := 0) rfl rfl, fun U hU9 hW => ⟨rfl, by rw [hU9], by rw [hU9]; exact hPc, va_K.moved hW.alike hKc, hDc.weaken (fun _ _ _ _ => trivial)⟩⟩ rfl rfl hl.1 rfl (lv_room (Nat.le_of_ble_eq_true rfl)) dL_law_1791 ⟨by decide +kernel, by decide +kernel⟩) hS (fun q _ h => hFc q h) hFc (fun r1791_1 u t H1 locs ht hvm hw hB hz1 hk1 hS => ?_)
      obtain ⟨hP1, hK1, hD1⟩ := hB
      rw [ht] at hP1
      have hK1 := va_K.moved hvm.symm hK1
      obtain ⟨hP, hD⟩ := va_join (wr := [(o, .inl (kO, 1, .inr (.inl go1767)))]) (w1 := []) hP hD [1] [0] rfl rfl (by decide) (by decide) hk1 hFc hP1 hD1
      generalize H1 = H at hP hS ⊢
      have hP : va_P (dC, dI) vwCl [(o, .inl (kO, 1, .inr (.inl go1767)))] H := hP
      have hD : va_D A [(o, .inl (kO, 1, .inr (.inl go1767)))] := hD
      obtain rfl := hw
      refine lv_iload hx hb dL_law_1794 (lv_at hl 1 rfl) ?_
      refine lv_icmp_eq (tgt := 1801) hx hb dL_law_1796 (by decide) (fun c9 => absurd c9 (by decide)) (fun _ => ?_)
      refine lv_iconst (v := 0) hx hb dL_law_1799 (by decide) ?_
      refine W.widen (k := 600002) (n := 7302232) (by decide +kernel) (by decide +kernel) ?_
      exact False.elim (by omega)
    · refine lv_istore (lv' := [(6, .int 0), (5, .int 0), (4, .int 0), (3, .ref o), (2, .ref h2), (1, .ref h1), (0, .ref b)]) hx hb dL_law_1788 hl (by decide) rfl (fun ls hl => ?_)
      refine lv_aload_n hx hb dL_law_1790 rfl (lv_at hl 4 rfl) ?_
      have hPc := hP.sub (ws' := [(h2, .inr (12, fM w1785))]) [1] rfl
      have hDc := hD.sub (ws' := [(h2, .inr (12, fM w1785))]) [1] (by decide) rfl
      have hKc := hK.sub (tys' := []) [] rfl
      have hFc := va_free (wc := [(h2, .inr (12, fM w1785))]) hD hS hA [1] rfl
      refine va_calli (va_runV (As := []) (rest := []) ⟨hx, hb, hml, hown, hts⟩ (p_X12_thrown l dC dI h2 w1785 2 (f1785_1) H.size) (cwV 0 hts glaw33_2 rfl rfl rfl (by decide +kernel) ⟨by decide +kernel, by decide +kernel⟩) ⟨fun a U g mk q => by obtain ⟨q0, q1, qP, qK, qD⟩ := q; exact ⟨q0, q1, qP, va_K.moved (u := U) (U := U.calling g mk a) (Vm.Alike.refl U.vm) qK, qD⟩, va_recv hKc hPc (ci := 12) (q0 := 0) rfl rfl, fun U hU9 hW => ⟨rfl, by rw [hU9], by rw [hU9]; exact hPc, va_K.moved hW.alike hKc, hDc.weaken (fun _ _ _ _ => trivial)⟩⟩ rfl rfl hl.1 rfl (lv_room (Nat.le_of_ble_eq_true rfl)) dL_law_1791 ⟨by decide +kernel, by decide +kernel⟩) hS (fun q _ h => hFc q h) hFc (fun r1791_2 u t H1 locs ht hvm hw hB hz1 hk1 hS => ?_)
      obtain ⟨hP1, hK1, hD1⟩ := hB
      rw [ht] at hP1
      have hK1 := va_K.moved hvm.symm hK1
      obtain ⟨hP, hD⟩ := va_join (wr := [(o, .inl (kO, 1, .inr (.inl go1767)))]) (w1 := []) hP hD [1] [0] rfl rfl (by decide) (by decide) hk1 hFc hP1 hD1
      generalize H1 = H at hP hS ⊢
      have hP : va_P (dC, dI) vwCl [(o, .inl (kO, 1, .inr (.inl go1767)))] H := hP
      have hD : va_D A [(o, .inl (kO, 1, .inr (.inl go1767)))] := hD
      obtain rfl := hw
      refine lv_iload hx hb dL_law_1794 (lv_at hl 1 rfl) ?_
      refine lv_icmp_eq (tgt := 1801) hx hb dL_law_1796 (by decide) (fun c9 => absurd c9 (by decide)) (fun _ => ?_)
      refine lv_iconst (v := 0) hx hb dL_law_1799 (by decide) ?_
      refine W.widen (k := 600002) (n := 7302232) (by decide +kernel) (by decide +kernel) ?_
      exact False.elim (by omega)
  · refine lv_istore (lv' := [(5, .int 1), (4, .int 0), (3, .ref o), (2, .ref h2), (1, .ref h1), (0, .ref b)]) hx hb dL_law_1770 hl (by decide) rfl (fun ls hl => ?_)
    refine lv_aload_n hx hb dL_law_1772 rfl (lv_at hl 3 rfl) ?_
    refine lv_aload_n hx hb dL_law_1773 rfl (lv_at hl 5 rfl) ?_
    refine lv_iload hx hb dL_law_1774 (lv_at hl 1 rfl) ?_
    refine lv_iconst (v := 1) hx hb dL_law_1776 (by decide) ?_
    refine lv_iadd hx hb dL_law_1777 ?_
    refine lv_topi (fun y14 hy14 => ?_)
    obtain rfl : 1 = y14 := (hy14.trans (by decide)).symm
    refine va_sld hx hb hX hbl hbA hS (show ¬ ((1 : Int32) < 0 ∨ 6 ≤ (1 : Int32).toNatClampNeg) by decide) dL_law_1778 ?_
    refine lv_topi (fun y15 hy15 => ?_)
    obtain rfl : (xs 1) = y15 := (hy15.trans (rfl)).symm
    refine lv_aload_n hx hb dL_law_1779 rfl (lv_at hl 5 rfl) ?_
    refine lv_iload hx hb dL_law_1780 (lv_at hl 1 rfl) ?_
    refine lv_iconst (v := 2) hx hb dL_law_1782 (by decide) ?_
    refine lv_iadd hx hb dL_law_1783 ?_
    refine lv_topi (fun y16 hy16 => ?_)
    obtain rfl : 2 = y16 := (hy16.trans (by decide)).symm
    refine va_sld hx hb hX hbl hbA hS (show ¬ ((2 : Int32) < 0 ∨ 6 ≤ (2 : Int32).toNatClampNeg) by decide) dL_law_1784 ?_
    refine lv_topi (fun y17 hy17 => ?_)
    obtain rfl : (xs 2) = y17 := (hy17.trans (rfl)).symm
    have hPc := hP.sub (ws' := [(h2, .inr (12, fM (vM av))), ((av 100), .inl ((kv 100), 12, .inl (fun _ => 0)))]) [0, 1] rfl
    have hDc := hD.sub (ws' := [(h2, .inr (12, fM (vM av))), ((av 100), .inl ((kv 100), 12, .inl (fun _ => 0)))]) [0, 1] (by decide) rfl
    have hKc := hK.sub (tys' := [((kv 100), .int)]) [0] rfl
    have hFc := va_free (wc := [(h2, .inr (12, fM (vM av))), ((av 100), .inl ((kv 100), 12, .inl (fun _ => 0)))]) hD hS hA [0, 1] rfl
    refine va_calli (va_runV (As := [.int (xs 1), .int (xs 2)]) (rest := []) ⟨hx, hb, hml, hown, hts⟩ (p_X12_greatest l dC dI h2 (vM av) (rfl) (av 100) (rfl) (kv 100) (fun _ => 0) (xs 1) (xs 2) H.size) (cwV 2 hts glaw33_1 rfl rfl rfl (by decide +kernel) ⟨by decide +kernel, by decide +kernel⟩) ⟨fun a U g mk q => by obtain ⟨q0, q1, qP, qK, qD⟩ := q; exact ⟨q0, q1, qP, va_K.moved (u := U) (U := U.calling g mk a) (Vm.Alike.refl U.vm) qK, qD⟩, va_recv hKc hPc (ci := 12) (q0 := 0) rfl rfl, fun U hU9 hW => ⟨rfl, by rw [hU9], by rw [hU9]; exact hPc, va_K.moved hW.alike hKc, hDc.weaken (fun _ _ _ _ => trivial)⟩⟩ rfl rfl hl.1 rfl (lv_room (Nat.le_of_ble_eq_true rfl)) dL_law_1785 ⟨by decide +kernel, by decide +kernel⟩) hS (fun q _ h => hFc q h) hFc (fun r1785_1 u t H1 locs ht hvm hw hB hz1 hk1 hS => ?_)
    obtain ⟨w1785_1, hwit1785_1⟩ : ∃ w9, w9 = u := ⟨u, rfl⟩
    subst hwit1785_1
    obtain ⟨hP1, hK1, hD1⟩ := hB
    rw [ht] at hP1
    have hK1 := va_K.moved hvm.symm hK1
    obtain ⟨hP, hD⟩ := va_join (wr := [(o, .inl (kO, 1, .inr (.inl go1767)))]) (w1 := [(h2, .inr (12, fM w1785_1))]) hP hD [0, 1] [2] rfl rfl (by decide) (by decide) hk1 hFc hP1 hD1
    generalize H1 = H at hP hS ⊢
    have hP : va_P (dC, dI) vwCl [(o, .inl (kO, 1, .inr (.inl go1767))), (h2, .inr (12, fM w1785_1))] H := hP
    have hD : va_D A [(o, .inl (kO, 1, .inr (.inl go1767))), (h2, .inr (12, fM w1785_1))] := hD
    rcases hw with ⟨rfl, f1785_1_0, f1785_1_1⟩ | ⟨rfl, f1785_1_0, f1785_1_1⟩ | ⟨rfl, f1785_1_0, f1785_1_1⟩
    · refine lv_istore (lv' := [(6, .int 0), (5, .int 1), (4, .int 0), (3, .ref o), (2, .ref h2), (1, .ref h1), (0, .ref b)]) hx hb dL_law_1788 hl (by decide) rfl (fun ls hl => ?_)
      refine lv_aload_n hx hb dL_law_1790 rfl (lv_at hl 4 rfl) ?_
      have hPc := hP.sub (ws' := [(h2, .inr (12, fM w1785_1))]) [1] rfl
      have hDc := hD.sub (ws' := [(h2, .inr (12, fM w1785_1))]) [1] (by decide) rfl
      have hKc := hK.sub (tys' := []) [] rfl
      have hFc := va_free (wc := [(h2, .inr (12, fM w1785_1))]) hD hS hA [1] rfl
      refine va_calli (va_runV (As := []) (rest := []) ⟨hx, hb, hml, hown, hts⟩ (p_X12_thrown l dC dI h2 w1785_1 0 (f1785_1_1) H.size) (cwV 0 hts glaw33_2 rfl rfl rfl (by decide +kernel) ⟨by decide +kernel, by decide +kernel⟩) ⟨fun a U g mk q => by obtain ⟨q0, q1, qP, qK, qD⟩ := q; exact ⟨q0, q1, qP, va_K.moved (u := U) (U := U.calling g mk a) (Vm.Alike.refl U.vm) qK, qD⟩, va_recv hKc hPc (ci := 12) (q0 := 0) rfl rfl, fun U hU9 hW => ⟨rfl, by rw [hU9], by rw [hU9]; exact hPc, va_K.moved hW.alike hKc, hDc.weaken (fun _ _ _ _ => trivial)⟩⟩ rfl rfl hl.1 rfl (lv_room (Nat.le_of_ble_eq_true rfl)) dL_law_1791 ⟨by decide +kernel, by decide +kernel⟩) hS (fun q _ h => hFc q h) hFc (fun r1791_3 u t H1 locs ht hvm hw hB hz1 hk1 hS => ?_)
      obtain ⟨hP1, hK1, hD1⟩ := hB
      rw [ht] at hP1
      have hK1 := va_K.moved hvm.symm hK1
      obtain ⟨hP, hD⟩ := va_join (wr := [(o, .inl (kO, 1, .inr (.inl go1767)))]) (w1 := []) hP hD [1] [0] rfl rfl (by decide) (by decide) hk1 hFc hP1 hD1
      generalize H1 = H at hP hS ⊢
      have hP : va_P (dC, dI) vwCl [(o, .inl (kO, 1, .inr (.inl go1767)))] H := hP
      have hD : va_D A [(o, .inl (kO, 1, .inr (.inl go1767)))] := hD
      obtain rfl := hw
      refine lv_iload hx hb dL_law_1794 (lv_at hl 1 rfl) ?_
      refine lv_icmp_eq (tgt := 1801) hx hb dL_law_1796 (by decide) (fun c9 => absurd c9 (by decide)) (fun _ => ?_)
      refine lv_iconst (v := 0) hx hb dL_law_1799 (by decide) ?_
      refine W.widen (k := 600002) (n := 7302232) (by decide +kernel) (by decide +kernel) ?_
      exact False.elim (by omega)
    · refine lv_istore (lv' := [(6, .int 0), (5, .int 1), (4, .int 0), (3, .ref o), (2, .ref h2), (1, .ref h1), (0, .ref b)]) hx hb dL_law_1788 hl (by decide) rfl (fun ls hl => ?_)
      refine lv_aload_n hx hb dL_law_1790 rfl (lv_at hl 4 rfl) ?_
      have hPc := hP.sub (ws' := [(h2, .inr (12, fM w1785_1))]) [1] rfl
      have hDc := hD.sub (ws' := [(h2, .inr (12, fM w1785_1))]) [1] (by decide) rfl
      have hKc := hK.sub (tys' := []) [] rfl
      have hFc := va_free (wc := [(h2, .inr (12, fM w1785_1))]) hD hS hA [1] rfl
      refine va_calli (va_runV (As := []) (rest := []) ⟨hx, hb, hml, hown, hts⟩ (p_X12_thrown l dC dI h2 w1785_1 1 (f1785_1_1) H.size) (cwV 0 hts glaw33_2 rfl rfl rfl (by decide +kernel) ⟨by decide +kernel, by decide +kernel⟩) ⟨fun a U g mk q => by obtain ⟨q0, q1, qP, qK, qD⟩ := q; exact ⟨q0, q1, qP, va_K.moved (u := U) (U := U.calling g mk a) (Vm.Alike.refl U.vm) qK, qD⟩, va_recv hKc hPc (ci := 12) (q0 := 0) rfl rfl, fun U hU9 hW => ⟨rfl, by rw [hU9], by rw [hU9]; exact hPc, va_K.moved hW.alike hKc, hDc.weaken (fun _ _ _ _ => trivial)⟩⟩ rfl rfl hl.1 rfl (lv_room (Nat.le_of_ble_eq_true rfl)) dL_law_1791 ⟨by decide +kernel, by decide +kernel⟩) hS (fun q _ h => hFc q h) hFc (fun r1791_4 u t H1 locs ht hvm hw hB hz1 hk1 hS => ?_)
      obtain ⟨hP1, hK1, hD1⟩ := hB
      rw [ht] at hP1
      have hK1 := va_K.moved hvm.symm hK1
      obtain ⟨hP, hD⟩ := va_join (wr := [(o, .inl (kO, 1, .inr (.inl go1767)))]) (w1 := []) hP hD [1] [0] rfl rfl (by decide) (by decide) hk1 hFc hP1 hD1
      generalize H1 = H at hP hS ⊢
      have hP : va_P (dC, dI) vwCl [(o, .inl (kO, 1, .inr (.inl go1767)))] H := hP
      have hD : va_D A [(o, .inl (kO, 1, .inr (.inl go1767)))] := hD
      obtain rfl := hw
      refine lv_iload hx hb dL_law_1794 (lv_at hl 1 rfl) ?_
      refine lv_icmp_eq (tgt := 1801) hx hb dL_law_1796 (by decide) (fun _ => ?_) (fun c9 => absurd (by decide) c9)
      refine lv_iload hx hb dL_law_1801 (lv_at hl 1 rfl) ?_
      refine lv_if_ne (tgt := 1818) hx hb dL_law_1803 (by decide) (fun _ => ?_) (fun c9 => absurd c9 (by decide))
      refine lv_goto (tgt := 2131) hx hb dL_law_1818 (by decide) ?_
      refine lv_iinc (v := 6) (lv' := [(4, .int 6), (6, .int 0), (5, .int 1), (3, .ref o), (2, .ref h2), (1, .ref h1), (0, .ref b)]) hx hb dL_law_2131 hl (k := 2) rfl (by decide) (by decide) rfl (fun ls hl => ?_)
      refine lv_goto (tgt := 23) hx hb dL_law_2134 (by decide) ?_
      refine lv_iload hx hb dL_law_23 (lv_at hl 0 rfl) ?_
      refine lv_aload_n hx hb dL_law_25 rfl (lv_at hl 6 rfl) ?_
      refine va_slen hx hb hX hbl hbA hS dL_law_26 ?_
      refine lv_topi (fun y18 hy18 => ?_)
      obtain rfl : 6 = y18 := (hy18.trans (rfl)).symm
      refine lv_bipush (v := 6) hx hb dL_law_27 (by decide) ?_
      refine lv_isub hx hb dL_law_29 ?_
      refine lv_topi (fun y19 hy19 => ?_)
      obtain rfl : 0 = y19 := (hy19.trans (by decide)).symm
      refine lv_icmp_gt (tgt := 2137) hx hb dL_law_30 (by decide) (fun _ => ?_) (fun c9 => absurd (by decide) c9)
      refine lv_iconst (v := 1) hx hb dL_law_2137 (by decide) ?_
      refine W.widen (k := 600002) (n := 7302232) (by decide +kernel) (by decide +kernel) ?_
      refine va_forget (fun q hq => hA2 _ (hS.2.2 q hq)) ?_
      exact lw_ret hx hb hr hlocks dL_law_2138
    · refine lv_istore (lv' := [(6, .int 0), (5, .int 1), (4, .int 0), (3, .ref o), (2, .ref h2), (1, .ref h1), (0, .ref b)]) hx hb dL_law_1788 hl (by decide) rfl (fun ls hl => ?_)
      refine lv_aload_n hx hb dL_law_1790 rfl (lv_at hl 4 rfl) ?_
      have hPc := hP.sub (ws' := [(h2, .inr (12, fM w1785_1))]) [1] rfl
      have hDc := hD.sub (ws' := [(h2, .inr (12, fM w1785_1))]) [1] (by decide) rfl
      have hKc := hK.sub (tys' := []) [] rfl
      have hFc := va_free (wc := [(h2, .inr (12, fM w1785_1))]) hD hS hA [1] rfl
      refine va_calli (va_runV (As := []) (rest := []) ⟨hx, hb, hml, hown, hts⟩ (p_X12_thrown l dC dI h2 w1785_1 2 (f1785_1_1) H.size) (cwV 0 hts glaw33_2 rfl rfl rfl (by decide +kernel) ⟨by decide +kernel, by decide +kernel⟩) ⟨fun a U g mk q => by obtain ⟨q0, q1, qP, qK, qD⟩ := q; exact ⟨q0, q1, qP, va_K.moved (u := U) (U := U.calling g mk a) (Vm.Alike.refl U.vm) qK, qD⟩, va_recv hKc hPc (ci := 12) (q0 := 0) rfl rfl, fun U hU9 hW => ⟨rfl, by rw [hU9], by rw [hU9]; exact hPc, va_K.moved hW.alike hKc, hDc.weaken (fun _ _ _ _ => trivial)⟩⟩ rfl rfl hl.1 rfl (lv_room (Nat.le_of_ble_eq_true rfl)) dL_law_1791 ⟨by decide +kernel, by decide +kernel⟩) hS (fun q _ h => hFc q h) hFc (fun r1791_5 u t H1 locs ht hvm hw hB hz1 hk1 hS => ?_)
      obtain ⟨hP1, hK1, hD1⟩ := hB
      rw [ht] at hP1
      have hK1 := va_K.moved hvm.symm hK1
      obtain ⟨hP, hD⟩ := va_join (wr := [(o, .inl (kO, 1, .inr (.inl go1767)))]) (w1 := []) hP hD [1] [0] rfl rfl (by decide) (by decide) hk1 hFc hP1 hD1
      generalize H1 = H at hP hS ⊢
      have hP : va_P (dC, dI) vwCl [(o, .inl (kO, 1, .inr (.inl go1767)))] H := hP
      have hD : va_D A [(o, .inl (kO, 1, .inr (.inl go1767)))] := hD
      obtain rfl := hw
      refine lv_iload hx hb dL_law_1794 (lv_at hl 1 rfl) ?_
      refine lv_icmp_eq (tgt := 1801) hx hb dL_law_1796 (by decide) (fun c9 => absurd c9 (by decide)) (fun _ => ?_)
      refine lv_iconst (v := 0) hx hb dL_law_1799 (by decide) ?_
      refine W.widen (k := 600002) (n := 7302232) (by decide +kernel) (by decide +kernel) ?_
      exact False.elim (by omega)
  · refine lv_istore (lv' := [(5, .int 2), (4, .int 0), (3, .ref o), (2, .ref h2), (1, .ref h1), (0, .ref b)]) hx hb dL_law_1770 hl (by decide) rfl (fun ls hl => ?_)
    refine lv_aload_n hx hb dL_law_1772 rfl (lv_at hl 3 rfl) ?_
    refine lv_aload_n hx hb dL_law_1773 rfl (lv_at hl 5 rfl) ?_
    refine lv_iload hx hb dL_law_1774 (lv_at hl 1 rfl) ?_
    refine lv_iconst (v := 1) hx hb dL_law_1776 (by decide) ?_
    refine lv_iadd hx hb dL_law_1777 ?_
    refine lv_topi (fun y20 hy20 => ?_)
    obtain rfl : 1 = y20 := (hy20.trans (by decide)).symm
    refine va_sld hx hb hX hbl hbA hS (show ¬ ((1 : Int32) < 0 ∨ 6 ≤ (1 : Int32).toNatClampNeg) by decide) dL_law_1778 ?_
    refine lv_topi (fun y21 hy21 => ?_)
    obtain rfl : (xs 1) = y21 := (hy21.trans (rfl)).symm
    refine lv_aload_n hx hb dL_law_1779 rfl (lv_at hl 5 rfl) ?_
    refine lv_iload hx hb dL_law_1780 (lv_at hl 1 rfl) ?_
    refine lv_iconst (v := 2) hx hb dL_law_1782 (by decide) ?_
    refine lv_iadd hx hb dL_law_1783 ?_
    refine lv_topi (fun y22 hy22 => ?_)
    obtain rfl : 2 = y22 := (hy22.trans (by decide)).symm
    refine va_sld hx hb hX hbl hbA hS (show ¬ ((2 : Int32) < 0 ∨ 6 ≤ (2 : Int32).toNatClampNeg) by decide) dL_law_1784 ?_
    refine lv_topi (fun y23 hy23 => ?_)
    obtain rfl : (xs 2) = y23 := (hy23.trans (rfl)).symm
    have hPc := hP.sub (ws' := [(h2, .inr (12, fM (vM av))), ((av 100), .inl ((kv 100), 12, .inl (fun _ => 0)))]) [0, 1] rfl
    have hDc := hD.sub (ws' := [(h2, .inr (12, fM (vM av))), ((av 100), .inl ((kv 100), 12, .inl (fun _ => 0)))]) [0, 1] (by decide) rfl
    have hKc := hK.sub (tys' := [((kv 100), .int)]) [0] rfl
    have hFc := va_free (wc := [(h2, .inr (12, fM (vM av))), ((av 100), .inl ((kv 100), 12, .inl (fun _ => 0)))]) hD hS hA [0, 1] rfl
    refine va_calli (va_runV (As := [.int (xs 1), .int (xs 2)]) (rest := []) ⟨hx, hb, hml, hown, hts⟩ (p_X12_greatest l dC dI h2 (vM av) (rfl) (av 100) (rfl) (kv 100) (fun _ => 0) (xs 1) (xs 2) H.size) (cwV 2 hts glaw33_1 rfl rfl rfl (by decide +kernel) ⟨by decide +kernel, by decide +kernel⟩) ⟨fun a U g mk q => by obtain ⟨q0, q1, qP, qK, qD⟩ := q; exact ⟨q0, q1, qP, va_K.moved (u := U) (U := U.calling g mk a) (Vm.Alike.refl U.vm) qK, qD⟩, va_recv hKc hPc (ci := 12) (q0 := 0) rfl rfl, fun U hU9 hW => ⟨rfl, by rw [hU9], by rw [hU9]; exact hPc, va_K.moved hW.alike hKc, hDc.weaken (fun _ _ _ _ => trivial)⟩⟩ rfl rfl hl.1 rfl (lv_room (Nat.le_of_ble_eq_true rfl)) dL_law_1785 ⟨by decide +kernel, by decide +kernel⟩) hS (fun q _ h => hFc q h) hFc (fun r1785_2 u t H1 locs ht hvm hw hB hz1 hk1 hS => ?_)
    obtain ⟨w1785_2, hwit1785_2⟩ : ∃ w9, w9 = u := ⟨u, rfl⟩
    subst hwit1785_2
    obtain ⟨hP1, hK1, hD1⟩ := hB
    rw [ht] at hP1
    have hK1 := va_K.moved hvm.symm hK1
    obtain ⟨hP, hD⟩ := va_join (wr := [(o, .inl (kO, 1, .inr (.inl go1767)))]) (w1 := [(h2, .inr (12, fM w1785_2))]) hP hD [0, 1] [2] rfl rfl (by decide) (by decide) hk1 hFc hP1 hD1
    generalize H1 = H at hP hS ⊢
    have hP : va_P (dC, dI) vwCl [(o, .inl (kO, 1, .inr (.inl go1767))), (h2, .inr (12, fM w1785_2))] H := hP
    have hD : va_D A [(o, .inl (kO, 1, .inr (.inl go1767))), (h2, .inr (12, fM w1785_2))] := hD
    rcases hw with ⟨rfl, f1785_2_0, f1785_2_1⟩ | ⟨rfl, f1785_2_0, f1785_2_1⟩ | ⟨rfl, f1785_2_0, f1785_2_1⟩
    · refine lv_istore (lv' := [(6, .int 0), (5, .int 2), (4, .int 0), (3, .ref o), (2, .ref h2), (1, .ref h1), (0, .ref b)]) hx hb dL_law_1788 hl (by decide) rfl (fun ls hl => ?_)
      refine lv_aload_n hx hb dL_law_1790 rfl (lv_at hl 4 rfl) ?_
      have hPc := hP.sub (ws' := [(h2, .inr (12, fM w1785_2))]) [1] rfl
      have hDc := hD.sub (ws' := [(h2, .inr (12, fM w1785_2))]) [1] (by decide) rfl
      have hKc := hK.sub (tys' := []) [] rfl
      have hFc := va_free (wc := [(h2, .inr (12, fM w1785_2))]) hD hS hA [1] rfl
      refine va_calli (va_runV (As := []) (rest := []) ⟨hx, hb, hml, hown, hts⟩ (p_X12_thrown l dC dI h2 w1785_2 0 (f1785_2_1) H.size) (cwV 0 hts glaw33_2 rfl rfl rfl (by decide +kernel) ⟨by decide +kernel, by decide +kernel⟩) ⟨fun a U g mk q => by obtain ⟨q0, q1, qP, qK, qD⟩ := q; exact ⟨q0, q1, qP, va_K.moved (u := U) (U := U.calling g mk a) (Vm.Alike.refl U.vm) qK, qD⟩, va_recv hKc hPc (ci := 12) (q0 := 0) rfl rfl, fun U hU9 hW => ⟨rfl, by rw [hU9], by rw [hU9]; exact hPc, va_K.moved hW.alike hKc, hDc.weaken (fun _ _ _ _ => trivial)⟩⟩ rfl rfl hl.1 rfl (lv_room (Nat.le_of_ble_eq_true rfl)) dL_law_1791 ⟨by decide +kernel, by decide +kernel⟩) hS (fun q _ h => hFc q h) hFc (fun r1791_6 u t H1 locs ht hvm hw hB hz1 hk1 hS => ?_)
      obtain ⟨hP1, hK1, hD1⟩ := hB
      rw [ht] at hP1
      have hK1 := va_K.moved hvm.symm hK1
      obtain ⟨hP, hD⟩ := va_join (wr := [(o, .inl (kO, 1, .inr (.inl go1767)))]) (w1 := []) hP hD [1] [0] rfl rfl (by decide) (by decide) hk1 hFc hP1 hD1
      generalize H1 = H at hP hS ⊢
      have hP : va_P (dC, dI) vwCl [(o, .inl (kO, 1, .inr (.inl go1767)))] H := hP
      have hD : va_D A [(o, .inl (kO, 1, .inr (.inl go1767)))] := hD
      obtain rfl := hw
      refine lv_iload hx hb dL_law_1794 (lv_at hl 1 rfl) ?_
      refine lv_icmp_eq (tgt := 1801) hx hb dL_law_1796 (by decide) (fun c9 => absurd c9 (by decide)) (fun _ => ?_)
      refine lv_iconst (v := 0) hx hb dL_law_1799 (by decide) ?_
      refine W.widen (k := 600002) (n := 7302232) (by decide +kernel) (by decide +kernel) ?_
      exact False.elim (by omega)
    · refine lv_istore (lv' := [(6, .int 0), (5, .int 2), (4, .int 0), (3, .ref o), (2, .ref h2), (1, .ref h1), (0, .ref b)]) hx hb dL_law_1788 hl (by decide) rfl (fun ls hl => ?_)
      refine lv_aload_n hx hb dL_law_1790 rfl (lv_at hl 4 rfl) ?_
      have hPc := hP.sub (ws' := [(h2, .inr (12, fM w1785_2))]) [1] rfl
      have hDc := hD.sub (ws' := [(h2, .inr (12, fM w1785_2))]) [1] (by decide) rfl
      have hKc := hK.sub (tys' := []) [] rfl
      have hFc := va_free (wc := [(h2, .inr (12, fM w1785_2))]) hD hS hA [1] rfl
      refine va_calli (va_runV (As := []) (rest := []) ⟨hx, hb, hml, hown, hts⟩ (p_X12_thrown l dC dI h2 w1785_2 1 (f1785_2_1) H.size) (cwV 0 hts glaw33_2 rfl rfl rfl (by decide +kernel) ⟨by decide +kernel, by decide +kernel⟩) ⟨fun a U g mk q => by obtain ⟨q0, q1, qP, qK, qD⟩ := q; exact ⟨q0, q1, qP, va_K.moved (u := U) (U := U.calling g mk a) (Vm.Alike.refl U.vm) qK, qD⟩, va_recv hKc hPc (ci := 12) (q0 := 0) rfl rfl, fun U hU9 hW => ⟨rfl, by rw [hU9], by rw [hU9]; exact hPc, va_K.moved hW.alike hKc, hDc.weaken (fun _ _ _ _ => trivial)⟩⟩ rfl rfl hl.1 rfl (lv_room (Nat.le_of_ble_eq_true rfl)) dL_law_1791 ⟨by decide +kernel, by decide +kernel⟩) hS (fun q _ h => hFc q h) hFc (fun r1791_7 u t H1 locs ht hvm hw hB hz1 hk1 hS => ?_)
      obtain ⟨hP1, hK1, hD1⟩ := hB
      rw [ht] at hP1
      have hK1 := va_K.moved hvm.symm hK1
      obtain ⟨hP, hD⟩ := va_join (wr := [(o, .inl (kO, 1, .inr (.inl go1767)))]) (w1 := []) hP hD [1] [0] rfl rfl (by decide) (by decide) hk1 hFc hP1 hD1
      generalize H1 = H at hP hS ⊢
      have hP : va_P (dC, dI) vwCl [(o, .inl (kO, 1, .inr (.inl go1767)))] H := hP
      have hD : va_D A [(o, .inl (kO, 1, .inr (.inl go1767)))] := hD
      obtain rfl := hw
      refine lv_iload hx hb dL_law_1794 (lv_at hl 1 rfl) ?_
      refine lv_icmp_eq (tgt := 1801) hx hb dL_law_1796 (by decide) (fun c9 => absurd c9 (by decide)) (fun _ => ?_)
      refine lv_iconst (v := 0) hx hb dL_law_1799 (by decide) ?_
      refine W.widen (k := 600002) (n := 7302232) (by decide +kernel) (by decide +kernel) ?_
      exact False.elim (by omega)
    · refine lv_istore (lv' := [(6, .int 0), (5, .int 2), (4, .int 0), (3, .ref o), (2, .ref h2), (1, .ref h1), (0, .ref b)]) hx hb dL_law_1788 hl (by decide) rfl (fun ls hl => ?_)
      refine lv_aload_n hx hb dL_law_1790 rfl (lv_at hl 4 rfl) ?_
      have hPc := hP.sub (ws' := [(h2, .inr (12, fM w1785_2))]) [1] rfl
      have hDc := hD.sub (ws' := [(h2, .inr (12, fM w1785_2))]) [1] (by decide) rfl
      have hKc := hK.sub (tys' := []) [] rfl
      have hFc := va_free (wc := [(h2, .inr (12, fM w1785_2))]) hD hS hA [1] rfl
      refine va_calli (va_runV (As := []) (rest := []) ⟨hx, hb, hml, hown, hts⟩ (p_X12_thrown l dC dI h2 w1785_2 2 (f1785_2_1) H.size) (cwV 0 hts glaw33_2 rfl rfl rfl (by decide +kernel) ⟨by decide +kernel, by decide +kernel⟩) ⟨fun a U g mk q => by obtain ⟨q0, q1, qP, qK, qD⟩ := q; exact ⟨q0, q1, qP, va_K.moved (u := U) (U := U.calling g mk a) (Vm.Alike.refl U.vm) qK, qD⟩, va_recv hKc hPc (ci := 12) (q0 := 0) rfl rfl, fun U hU9 hW => ⟨rfl, by rw [hU9], by rw [hU9]; exact hPc, va_K.moved hW.alike hKc, hDc.weaken (fun _ _ _ _ => trivial)⟩⟩ rfl rfl hl.1 rfl (lv_room (Nat.le_of_ble_eq_true rfl)) dL_law_1791 ⟨by decide +kernel, by decide +kernel⟩) hS (fun q _ h => hFc q h) hFc (fun r1791_8 u t H1 locs ht hvm hw hB hz1 hk1 hS => ?_)
      obtain ⟨hP1, hK1, hD1⟩ := hB
      rw [ht] at hP1
      have hK1 := va_K.moved hvm.symm hK1
      obtain ⟨hP, hD⟩ := va_join (wr := [(o, .inl (kO, 1, .inr (.inl go1767)))]) (w1 := []) hP hD [1] [0] rfl rfl (by decide) (by decide) hk1 hFc hP1 hD1
      generalize H1 = H at hP hS ⊢
      have hP : va_P (dC, dI) vwCl [(o, .inl (kO, 1, .inr (.inl go1767)))] H := hP
      have hD : va_D A [(o, .inl (kO, 1, .inr (.inl go1767)))] := hD
      obtain rfl := hw
      refine lv_iload hx hb dL_law_1794 (lv_at hl 1 rfl) ?_
      refine lv_icmp_eq (tgt := 1801) hx hb dL_law_1796 (by decide) (fun _ => ?_) (fun c9 => absurd (by decide) c9)
      refine lv_iload hx hb dL_law_1801 (lv_at hl 1 rfl) ?_
      refine lv_if_ne (tgt := 1818) hx hb dL_law_1803 (by decide) (fun _ => ?_) (fun c9 => absurd c9 (by decide))
      refine lv_goto (tgt := 2131) hx hb dL_law_1818 (by decide) ?_
      refine lv_iinc (v := 6) (lv' := [(4, .int 6), (6, .int 0), (5, .int 2), (3, .ref o), (2, .ref h2), (1, .ref h1), (0, .ref b)]) hx hb dL_law_2131 hl (k := 2) rfl (by decide) (by decide) rfl (fun ls hl => ?_)
      refine lv_goto (tgt := 23) hx hb dL_law_2134 (by decide) ?_
      refine lv_iload hx hb dL_law_23 (lv_at hl 0 rfl) ?_
      refine lv_aload_n hx hb dL_law_25 rfl (lv_at hl 6 rfl) ?_
      refine va_slen hx hb hX hbl hbA hS dL_law_26 ?_
      refine lv_topi (fun y24 hy24 => ?_)
      obtain rfl : 6 = y24 := (hy24.trans (rfl)).symm
      refine lv_bipush (v := 6) hx hb dL_law_27 (by decide) ?_
      refine lv_isub hx hb dL_law_29 ?_
      refine lv_topi (fun y25 hy25 => ?_)
      obtain rfl : 0 = y25 := (hy25.trans (by decide)).symm
      refine lv_icmp_gt (tgt := 2137) hx hb dL_law_30 (by decide) (fun _ => ?_) (fun c9 => absurd (by decide) c9)
      refine lv_iconst (v := 1) hx hb dL_law_2137 (by decide) ?_
      refine W.widen (k := 600002) (n := 7302232) (by decide +kernel) (by decide +kernel) ?_
      refine va_forget (fun q hq => hA2 _ (hS.2.2 q hq)) ?_
      exact lw_ret hx hb hr hlocks dL_law_2138

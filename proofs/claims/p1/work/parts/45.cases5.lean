theorem dL_law_1821 : decode cL_law 1821 = .ok (.aload_n 1, 1) := by decide +kernel
theorem dL_law_1822 : decode cL_law 1822 = .ok (.aload_n 0, 1) := by decide +kernel
theorem dL_law_1823 : decode cL_law 1823 = .ok (.iload 4, 2) := by decide +kernel
theorem dL_law_1825 : decode cL_law 1825 = .ok (.iconst 1, 1) := by decide +kernel
theorem dL_law_1826 : decode cL_law 1826 = .ok (.iadd, 1) := by decide +kernel
theorem dL_law_1827 : decode cL_law 1827 = .ok (.iaload, 1) := by decide +kernel
theorem dL_law_1828 : decode cL_law 1828 = .ok (.aload_n 0, 1) := by decide +kernel
theorem dL_law_1829 : decode cL_law 1829 = .ok (.iload 4, 2) := by decide +kernel
theorem dL_law_1831 : decode cL_law 1831 = .ok (.iconst 2, 1) := by decide +kernel
theorem dL_law_1832 : decode cL_law 1832 = .ok (.iadd, 1) := by decide +kernel
theorem dL_law_1833 : decode cL_law 1833 = .ok (.iaload, 1) := by decide +kernel
theorem dL_law_1834 : decode cL_law 1834 = .ok (.aload_n 3, 1) := by decide +kernel
theorem dL_law_1835 : decode cL_law 1835 = .ok (.invokestatic 225, 3) := by decide +kernel
theorem dL_law_1838 : decode cL_law 1838 = .ok (.istore 5, 2) := by decide +kernel
theorem dL_law_1840 : decode cL_law 1840 = .ok (.aload_n 2, 1) := by decide +kernel
theorem dL_law_1841 : decode cL_law 1841 = .ok (.aload_n 0, 1) := by decide +kernel
theorem dL_law_1842 : decode cL_law 1842 = .ok (.iload 4, 2) := by decide +kernel
theorem dL_law_1844 : decode cL_law 1844 = .ok (.iconst 1, 1) := by decide +kernel
theorem dL_law_1845 : decode cL_law 1845 = .ok (.iadd, 1) := by decide +kernel
theorem dL_law_1846 : decode cL_law 1846 = .ok (.iaload, 1) := by decide +kernel
theorem dL_law_1847 : decode cL_law 1847 = .ok (.aload_n 0, 1) := by decide +kernel
theorem dL_law_1848 : decode cL_law 1848 = .ok (.iload 4, 2) := by decide +kernel
theorem dL_law_1850 : decode cL_law 1850 = .ok (.iconst 2, 1) := by decide +kernel
theorem dL_law_1851 : decode cL_law 1851 = .ok (.iadd, 1) := by decide +kernel
theorem dL_law_1852 : decode cL_law 1852 = .ok (.iaload, 1) := by decide +kernel
theorem dL_law_1853 : decode cL_law 1853 = .ok (.invokevirtual 227, 3) := by decide +kernel
theorem dL_law_1856 : decode cL_law 1856 = .ok (.istore 6, 2) := by decide +kernel
theorem dL_law_1858 : decode cL_law 1858 = .ok (.aload_n 2, 1) := by decide +kernel
theorem dL_law_1859 : decode cL_law 1859 = .ok (.invokevirtual 111, 3) := by decide +kernel
theorem dL_law_1862 : decode cL_law 1862 = .ok (.iload 5, 2) := by decide +kernel
theorem dL_law_1864 : decode cL_law 1864 = .ok (.if_icmp .eq 5, 3) := by decide +kernel
theorem dL_law_1867 : decode cL_law 1867 = .ok (.iconst 0, 1) := by decide +kernel
theorem dL_law_1868 : decode cL_law 1868 = .ok (.ireturn, 1) := by decide +kernel
theorem dL_law_1869 : decode cL_law 1869 = .ok (.iload 5, 2) := by decide +kernel
theorem dL_law_1871 : decode cL_law 1871 = .ok (.ifCond .ne 15, 3) := by decide +kernel
theorem dL_law_1874 : decode cL_law 1874 = .ok (.aload_n 3, 1) := by decide +kernel
theorem dL_law_1875 : decode cL_law 1875 = .ok (.iconst 0, 1) := by decide +kernel
theorem dL_law_1876 : decode cL_law 1876 = .ok (.laload, 1) := by decide +kernel
theorem dL_law_1877 : decode cL_law 1877 = .ok (.iload 6, 2) := by decide +kernel
theorem dL_law_1879 : decode cL_law 1879 = .ok (.i2l, 1) := by decide +kernel
theorem dL_law_1880 : decode cL_law 1880 = .ok (.lcmp, 1) := by decide +kernel
theorem dL_law_1881 : decode cL_law 1881 = .ok (.ifCond .eq 5, 3) := by decide +kernel
theorem dL_law_1886 : decode cL_law 1886 = .ok (.goto 245, 3) := by decide +kernel
theorem glaw34_0 : GoodIn lw_tbl (va_wsS RL 225 yL_cut wsPL_cut) := goodIn_sub ((List.forall_mem_append.mpr ⟨(mem_p ([.methodLink RL 225 yL_cut, .static yL_cut, .initialized "OptimaWorksLaw"] : List Cond) [(10, 45), (10, 46), (1, 0)] (by decide +kernel)), ml_wsPL_cut⟩ : ∀ w ∈ va_wsS RL 225 yL_cut wsPL_cut, w ∈ lw_tbl)) (by decide +kernel)
theorem glaw34_1 : GoodIn lw_tbl (wsV RL 227 RX12 yX12_cut wsPX12_cut) := goodIn_sub ((List.forall_mem_append.mpr ⟨(mem_p ([.methodLink RL 227 yX12_cut, .instanceMethod yX12_cut, .selects RX12 yX12_cut yX12_cut, .initialized RX12] : List Cond) [(16, 24), (16, 25), (16, 26), (1, 4)] (by decide +kernel)), ml_wsPX12_cut⟩ : ∀ w ∈ wsV RL 227 RX12 yX12_cut wsPX12_cut, w ∈ lw_tbl)) (by decide +kernel)
theorem glaw34_2 : GoodIn lw_tbl (wsV RL 111 RX12 yX12_thrown wsPX12_thrown) := goodIn_sub ((List.forall_mem_append.mpr ⟨(mem_p ([.methodLink RL 111 yX12_thrown, .instanceMethod yX12_thrown, .selects RX12 yX12_thrown yX12_thrown, .initialized RX12] : List Cond) [(12, 139), (12, 140), (12, 141), (1, 4)] (by decide +kernel)), ml_wsPX12_thrown⟩ : ∀ w ∈ wsV RL 111 RX12 yX12_thrown wsPX12_thrown, w ∈ lw_tbl)) (by decide +kernel)
set_option maxHeartbeats 4000000 in
set_option maxRecDepth 100000 in
/-- the law's case 34: cut -/
theorem lc_34 {p : Program} {e : Env} {s : State} {m : MethodId} {below : List Frame} {meth : Method} {c : Code} (l : Launch) (hst : l.stackTraces = false) {b : Nat} {xs : Nat → Int32} (C0 : lw_At p s m meth c b 6 xs) {A : Nat → Prop} (hA : ∀ q : Nat, s.heap.size ≤ q → A q) (hA2 : ∀ q : Nat, A q → s.heap.size ≤ q) (X0 : lx_ok A s) (dC : Nat → ClassId) (dI : Nat → Nat → Nat) {h1 h2 o : Nat} {a : Nat → Nat} {k : Nat → ClassId} {av : Nat → Nat} {kv : Nat → ClassId} {kO : ClassId} {H : Heap} {locs : List Loc} {ls : Array Slot} (hK : va_K (dC, dI) vwCl [((kv 100), .int), (kO, .long)] s) (hP : va_P (dC, dI) vwCl [(h1, .inr (11, [.ref (a 0), .ref (a 1), .ref (a 3), .ref (a 14), .int 0, .null, .null, .null, .null, .null, .null])), (h2, .inr (12, fM (vM av))), ((av 100), .inl ((kv 100), 12, .inl (fun _ => 0))), (o, .inl (kO, 1, .inr (.inl (fun _ => 0))))] H) (hD : va_D A [(h1, .inr (11, [.ref (a 0), .ref (a 1), .ref (a 3), .ref (a 14), .int 0, .null, .null, .null, .null, .null, .null])), (h2, .inr (12, fM (vM av))), ((av 100), .inl ((kv 100), 12, .inl (fun _ => 0))), (o, .inl (kO, 1, .inr (.inl (fun _ => 0))))]) (hS : va_S A s.heap H locs) (hl : lv_has ls 7 [(4, .int 0), (3, .ref o), (2, .ref h2), (1, .ref h1), (0, .ref b)]) : W p l e room_1 s m #[Value.ref b] below meth c H locs 125 181434 (lw_Z below #[Value.ref b] s) (F0 m 1821 ls []) := by
  obtain ⟨hx, hb, hr, hml, hown, hts, hX, hbl, hlocks, hgv⟩ := id C0
  have hb : c.code = cL_law := hb
  have hown : s.vm.findClass RL = some m.cls := hown
  obtain ⟨hU, hN, hnX11_343, hnX11_392, hnX11_421, hncAI, hngX11_161, hngX11_79, hngX11_95⟩ := X0
  have hbA : ¬ A b := fun h => absurd (hA2 b h) (Nat.not_le.mpr hbl)
  refine lv_aload_n hx hb dL_law_1821 rfl (lv_at hl 3 rfl) ?_
  refine lv_aload_n hx hb dL_law_1822 rfl (lv_at hl 4 rfl) ?_
  refine lv_iload hx hb dL_law_1823 (lv_at hl 0 rfl) ?_
  refine lv_iconst (v := 1) hx hb dL_law_1825 (by decide) ?_
  refine lv_iadd hx hb dL_law_1826 ?_
  refine lv_topi (fun y1 hy1 => ?_)
  obtain rfl : 1 = y1 := (hy1.trans (by decide)).symm
  refine va_sld hx hb hX hbl hbA hS (show ¬ ((1 : Int32) < 0 ∨ 6 ≤ (1 : Int32).toNatClampNeg) by decide) dL_law_1827 ?_
  refine lv_topi (fun y2 hy2 => ?_)
  obtain rfl : (xs 1) = y2 := (hy2.trans (rfl)).symm
  refine lv_aload_n hx hb dL_law_1828 rfl (lv_at hl 4 rfl) ?_
  refine lv_iload hx hb dL_law_1829 (lv_at hl 0 rfl) ?_
  refine lv_iconst (v := 2) hx hb dL_law_1831 (by decide) ?_
  refine lv_iadd hx hb dL_law_1832 ?_
  refine lv_topi (fun y3 hy3 => ?_)
  obtain rfl : 2 = y3 := (hy3.trans (by decide)).symm
  refine va_sld hx hb hX hbl hbA hS (show ¬ ((2 : Int32) < 0 ∨ 6 ≤ (2 : Int32).toNatClampNeg) by decide) dL_law_1833 ?_
  refine lv_topi (fun y4 hy4 => ?_)
  obtain rfl : (xs 2) = y4 := (hy4.trans (rfl)).symm
  refine lv_aload_n hx hb dL_law_1834 rfl (lv_at hl 1 rfl) ?_
  have hPc := hP.sub (ws' := [(h1, .inr (11, [.ref (a 0), .ref (a 1), .ref (a 3), .ref (a 14), .int 0, .null, .null, .null, .null, .null, .null])), (o, .inl (kO, 1, .inr (.inl (fun _ => 0))))]) [0, 3] rfl
  have hDc := hD.sub (ws' := [(h1, .inr (11, [.ref (a 0), .ref (a 1), .ref (a 3), .ref (a 14), .int 0, .null, .null, .null, .null, .null, .null])), (o, .inl (kO, 1, .inr (.inl (fun _ => 0))))]) [0, 3] (by decide) rfl
  have hKc := hK.sub (tys' := [(kO, .long)]) [1] rfl
  have hFc := va_free (wc := [(h1, .inr (11, [.ref (a 0), .ref (a 1), .ref (a 3), .ref (a 14), .int 0, .null, .null, .null, .null, .null, .null])), (o, .inl (kO, 1, .inr (.inl (fun _ => 0))))]) hD hS hA [0, 3] rfl
  refine va_calli (vx_runSW (As := [.ref h1, .int (xs 1), .int (xs 2), .ref o]) (rest := []) ⟨hx, hb, hml, hown, hts⟩ (p_L_cut l hst dC dI h1 a o kO (xs 1) (xs 2) H.size) (vx_cwSW 4 hts glaw34_0 rfl rfl rfl (by decide +kernel) ⟨by decide +kernel, by decide +kernel⟩) ⟨fun a U g mk q => by obtain ⟨q0, q1, qP, qK, qD, qU, qN, qngX11_79, qngX11_95, qhnX11_421, qhncAI⟩ := q; exact ⟨q0, q1, qP, va_K.moved (u := U) (U := U.calling g mk a) (Vm.Alike.refl U.vm) qK, qD, vx_Zq.moved (u := U) (U := U.calling g mk a) (Vm.Alike.refl U.vm) qU, vx_Zq.moved (u := U) (U := U.calling g mk a) (Vm.Alike.refl U.vm) qN, fun w h => va_Nw.same (u := U) (U := U.calling g mk a) (ngX11_79_ot w h) rfl (qngX11_79 w h), fun w h => va_Nw.same (u := U) (U := U.calling g mk a) (ngX11_95_ot w h) rfl (qngX11_95 w h), va_Nw.same (u := U) (U := U.calling g mk a) rfl rfl qhnX11_421, va_Nc.moved (u := U) (U := U.calling g mk a) (Vm.Alike.refl U.vm) qhncAI⟩, fun U hU9 hW => ⟨rfl, by rw [hU9], by rw [hU9]; exact hPc, va_K.moved hW.alike hKc, hDc.weaken (fun _ _ _ _ => trivial), by rw [hU9]; exact ((hU.kept (fun a h1 h2 => hS.2.1 a h1 h2)).narrow hFc).moved hW.alike, by rw [hU9]; exact ((hN.kept (fun a h1 h2 => hS.2.1 a h1 h2)).narrow hFc).moved hW.alike, fun w h => cd_warm (ngX11_79_cd w h) hW (hngX11_79 w h), fun w h => cd_warm (ngX11_95_cd w h) hW (hngX11_95 w h), va_Nw.warmM hW hnX11_421, va_Nc.moved hW.alike hncAI⟩⟩ rfl rfl hl.1 rfl (lv_room (Nat.le_of_ble_eq_true rfl)) dL_law_1835 ⟨by decide +kernel, by decide +kernel⟩) hS (fun q _ h => hFc q h) hFc (fun r1835 u t H1 locs ht hvm hw hB hz1 hk1 hS => ?_)
  obtain ⟨go1835, hwit1835⟩ : ∃ w9, w9 = u := ⟨u, rfl⟩
  subst hwit1835
  obtain ⟨hP1, hK1, hD1⟩ := hB
  rw [ht] at hP1
  have hK1 := va_K.moved hvm.symm hK1
  obtain ⟨hP, hD⟩ := va_join (wr := [(h2, .inr (12, fM (vM av))), ((av 100), .inl ((kv 100), 12, .inl (fun _ => 0)))]) (w1 := [(o, .inl (kO, 1, .inr (.inl go1835)))]) hP hD [0, 3] [1, 2] rfl rfl (by decide) (by decide) hk1 hFc hP1 hD1
  generalize H1 = H at hP hS ⊢
  have hP : va_P (dC, dI) vwCl [(h2, .inr (12, fM (vM av))), ((av 100), .inl ((kv 100), 12, .inl (fun _ => 0))), (o, .inl (kO, 1, .inr (.inl go1835)))] H := hP
  have hD : va_D A [(h2, .inr (12, fM (vM av))), ((av 100), .inl ((kv 100), 12, .inl (fun _ => 0))), (o, .inl (kO, 1, .inr (.inl go1835)))] := hD
  refine W.widen (k := 138) (n := 182918) (by decide +kernel) (by decide +kernel) ?_
  rcases hw with ⟨rfl, f1835_0, f1835_1⟩ | ⟨rfl, f1835_0⟩ | ⟨rfl, f1835_0⟩
  · refine lv_istore (lv' := [(5, .int 0), (4, .int 0), (3, .ref o), (2, .ref h2), (1, .ref h1), (0, .ref b)]) hx hb dL_law_1838 hl (by decide) rfl (fun ls hl => ?_)
    refine lv_aload_n hx hb dL_law_1840 rfl (lv_at hl 3 rfl) ?_
    refine lv_aload_n hx hb dL_law_1841 rfl (lv_at hl 5 rfl) ?_
    refine lv_iload hx hb dL_law_1842 (lv_at hl 1 rfl) ?_
    refine lv_iconst (v := 1) hx hb dL_law_1844 (by decide) ?_
    refine lv_iadd hx hb dL_law_1845 ?_
    refine lv_topi (fun y5 hy5 => ?_)
    obtain rfl : 1 = y5 := (hy5.trans (by decide)).symm
    refine va_sld hx hb hX hbl hbA hS (show ¬ ((1 : Int32) < 0 ∨ 6 ≤ (1 : Int32).toNatClampNeg) by decide) dL_law_1846 ?_
    refine lv_topi (fun y6 hy6 => ?_)
    obtain rfl : (xs 1) = y6 := (hy6.trans (rfl)).symm
    refine lv_aload_n hx hb dL_law_1847 rfl (lv_at hl 5 rfl) ?_
    refine lv_iload hx hb dL_law_1848 (lv_at hl 1 rfl) ?_
    refine lv_iconst (v := 2) hx hb dL_law_1850 (by decide) ?_
    refine lv_iadd hx hb dL_law_1851 ?_
    refine lv_topi (fun y7 hy7 => ?_)
    obtain rfl : 2 = y7 := (hy7.trans (by decide)).symm
    refine va_sld hx hb hX hbl hbA hS (show ¬ ((2 : Int32) < 0 ∨ 6 ≤ (2 : Int32).toNatClampNeg) by decide) dL_law_1852 ?_
    refine lv_topi (fun y8 hy8 => ?_)
    obtain rfl : (xs 2) = y8 := (hy8.trans (rfl)).symm
    have hPc := hP.sub (ws' := [(h2, .inr (12, fM (vM av))), ((av 100), .inl ((kv 100), 12, .inl (fun _ => 0)))]) [0, 1] rfl
    have hDc := hD.sub (ws' := [(h2, .inr (12, fM (vM av))), ((av 100), .inl ((kv 100), 12, .inl (fun _ => 0)))]) [0, 1] (by decide) rfl
    have hKc := hK.sub (tys' := [((kv 100), .int)]) [0] rfl
    have hFc := va_free (wc := [(h2, .inr (12, fM (vM av))), ((av 100), .inl ((kv 100), 12, .inl (fun _ => 0)))]) hD hS hA [0, 1] rfl
    refine va_calli (va_runV (As := [.int (xs 1), .int (xs 2)]) (rest := []) ⟨hx, hb, hml, hown, hts⟩ (p_X12_cut l dC dI h2 (vM av) (rfl) (av 100) (rfl) (kv 100) (fun _ => 0) (xs 1) (xs 2) H.size) (cwV 2 hts glaw34_1 rfl rfl rfl (by decide +kernel) ⟨by decide +kernel, by decide +kernel⟩) ⟨fun a U g mk q => by obtain ⟨q0, q1, qP, qK, qD⟩ := q; exact ⟨q0, q1, qP, va_K.moved (u := U) (U := U.calling g mk a) (Vm.Alike.refl U.vm) qK, qD⟩, va_recv hKc hPc (ci := 12) (q0 := 0) rfl rfl, fun U hU9 hW => ⟨rfl, by rw [hU9], by rw [hU9]; exact hPc, va_K.moved hW.alike hKc, hDc.weaken (fun _ _ _ _ => trivial)⟩⟩ rfl rfl hl.1 rfl (lv_room (Nat.le_of_ble_eq_true rfl)) dL_law_1853 ⟨by decide +kernel, by decide +kernel⟩) hS (fun q _ h => hFc q h) hFc (fun r1853 u t H1 locs ht hvm hw hB hz1 hk1 hS => ?_)
    obtain ⟨w1853, hwit1853⟩ : ∃ w9, w9 = u := ⟨u, rfl⟩
    subst hwit1853
    obtain ⟨hP1, hK1, hD1⟩ := hB
    rw [ht] at hP1
    have hK1 := va_K.moved hvm.symm hK1
    obtain ⟨hP, hD⟩ := va_join (wr := [(o, .inl (kO, 1, .inr (.inl go1835)))]) (w1 := [(h2, .inr (12, fM w1853))]) hP hD [0, 1] [2] rfl rfl (by decide) (by decide) hk1 hFc hP1 hD1
    generalize H1 = H at hP hS ⊢
    have hP : va_P (dC, dI) vwCl [(o, .inl (kO, 1, .inr (.inl go1835))), (h2, .inr (12, fM w1853))] H := hP
    have hD : va_D A [(o, .inl (kO, 1, .inr (.inl go1835))), (h2, .inr (12, fM w1853))] := hD
    rcases hw with ⟨rfl, f1853_0, f1853_1⟩ | ⟨rfl, f1853_0, f1853_1⟩ | ⟨rfl, f1853_0, f1853_1⟩
    · refine lv_istore (lv' := [(6, .int ((1 : Int32) <<< ((xs 1) &&& 31))), (5, .int 0), (4, .int 0), (3, .ref o), (2, .ref h2), (1, .ref h1), (0, .ref b)]) hx hb dL_law_1856 hl (by decide) rfl (fun ls hl => ?_)
      refine lv_aload_n hx hb dL_law_1858 rfl (lv_at hl 4 rfl) ?_
      have hPc := hP.sub (ws' := [(h2, .inr (12, fM w1853))]) [1] rfl
      have hDc := hD.sub (ws' := [(h2, .inr (12, fM w1853))]) [1] (by decide) rfl
      have hKc := hK.sub (tys' := []) [] rfl
      have hFc := va_free (wc := [(h2, .inr (12, fM w1853))]) hD hS hA [1] rfl
      refine va_calli (va_runV (As := []) (rest := []) ⟨hx, hb, hml, hown, hts⟩ (p_X12_thrown l dC dI h2 w1853 0 (f1853_1) H.size) (cwV 0 hts glaw34_2 rfl rfl rfl (by decide +kernel) ⟨by decide +kernel, by decide +kernel⟩) ⟨fun a U g mk q => by obtain ⟨q0, q1, qP, qK, qD⟩ := q; exact ⟨q0, q1, qP, va_K.moved (u := U) (U := U.calling g mk a) (Vm.Alike.refl U.vm) qK, qD⟩, va_recv hKc hPc (ci := 12) (q0 := 0) rfl rfl, fun U hU9 hW => ⟨rfl, by rw [hU9], by rw [hU9]; exact hPc, va_K.moved hW.alike hKc, hDc.weaken (fun _ _ _ _ => trivial)⟩⟩ rfl rfl hl.1 rfl (lv_room (Nat.le_of_ble_eq_true rfl)) dL_law_1859 ⟨by decide +kernel, by decide +kernel⟩) hS (fun q _ h => hFc q h) hFc (fun r1859 u t H1 locs ht hvm hw hB hz1 hk1 hS => ?_)
      obtain ⟨hP1, hK1, hD1⟩ := hB
      rw [ht] at hP1
      have hK1 := va_K.moved hvm.symm hK1
      obtain ⟨hP, hD⟩ := va_join (wr := [(o, .inl (kO, 1, .inr (.inl go1835)))]) (w1 := []) hP hD [1] [0] rfl rfl (by decide) (by decide) hk1 hFc hP1 hD1
      generalize H1 = H at hP hS ⊢
      have hP : va_P (dC, dI) vwCl [(o, .inl (kO, 1, .inr (.inl go1835)))] H := hP
      have hD : va_D A [(o, .inl (kO, 1, .inr (.inl go1835)))] := hD
      obtain rfl := hw
      refine lv_iload hx hb dL_law_1862 (lv_at hl 1 rfl) ?_
      refine lv_icmp_eq (tgt := 1869) hx hb dL_law_1864 (by decide) (fun _ => ?_) (fun c9 => absurd (by decide) c9)
      refine lv_iload hx hb dL_law_1869 (lv_at hl 1 rfl) ?_
      refine lv_if_ne (tgt := 1886) hx hb dL_law_1871 (by decide) (fun c9 => absurd c9 (by decide)) (fun _ => ?_)
      refine lv_aload_n hx hb dL_law_1874 rfl (lv_at hl 3 rfl) ?_
      refine lv_iconst (v := 0) hx hb dL_law_1875 (by decide) ?_
      refine va_lald hx hb hK hP 0 1 rfl rfl (show ¬ ((0 : Int32) < 0 ∨ 1 ≤ (0 : Int32).toNatClampNeg) by decide) dL_law_1876 ?_
      refine lv_topl (fun y9 hy9 => ?_)
      obtain rfl : (((1 : Int32) <<< ((xs 1) &&& 31)).toInt64) = y9 := (hy9.trans (f1835_1)).symm
      refine lv_iload hx hb dL_law_1877 (lv_at hl 0 rfl) ?_
      refine lv_i2l hx hb dL_law_1879 rfl ?_
      refine W.lcmp hx hb dL_law_1880 ?_
      refine lv_topi (fun y10 hy10 => ?_)
      obtain rfl : 0 = y10 := (hy10.trans (cmp_same _)).symm
      refine lv_if_eq (tgt := 1886) hx hb dL_law_1881 (by decide) (fun _ => ?_) (fun c9 => absurd (by decide) c9)
      refine lv_goto (tgt := 2131) hx hb dL_law_1886 (by decide) ?_
      refine lv_iinc (v := 6) (lv' := [(4, .int 6), (6, .int ((1 : Int32) <<< ((xs 1) &&& 31))), (5, .int 0), (3, .ref o), (2, .ref h2), (1, .ref h1), (0, .ref b)]) hx hb dL_law_2131 hl (k := 2) rfl (by decide) (by decide) rfl (fun ls hl => ?_)
      refine lv_goto (tgt := 23) hx hb dL_law_2134 (by decide) ?_
      refine lv_iload hx hb dL_law_23 (lv_at hl 0 rfl) ?_
      refine lv_aload_n hx hb dL_law_25 rfl (lv_at hl 6 rfl) ?_
      refine va_slen hx hb hX hbl hbA hS dL_law_26 ?_
      refine lv_topi (fun y11 hy11 => ?_)
      obtain rfl : 6 = y11 := (hy11.trans (rfl)).symm
      refine lv_bipush (v := 6) hx hb dL_law_27 (by decide) ?_
      refine lv_isub hx hb dL_law_29 ?_
      refine lv_topi (fun y12 hy12 => ?_)
      obtain rfl : 0 = y12 := (hy12.trans (by decide)).symm
      refine lv_icmp_gt (tgt := 2137) hx hb dL_law_30 (by decide) (fun _ => ?_) (fun c9 => absurd (by decide) c9)
      refine lv_iconst (v := 1) hx hb dL_law_2137 (by decide) ?_
      refine W.widen (k := 600002) (n := 7302232) (by decide +kernel) (by decide +kernel) ?_
      refine va_forget (fun q hq => hA2 _ (hS.2.2 q hq)) ?_
      exact lw_ret hx hb hr hlocks dL_law_2138
    · refine lv_istore (lv' := [(6, .int 0), (5, .int 0), (4, .int 0), (3, .ref o), (2, .ref h2), (1, .ref h1), (0, .ref b)]) hx hb dL_law_1856 hl (by decide) rfl (fun ls hl => ?_)
      refine lv_aload_n hx hb dL_law_1858 rfl (lv_at hl 4 rfl) ?_
      have hPc := hP.sub (ws' := [(h2, .inr (12, fM w1853))]) [1] rfl
      have hDc := hD.sub (ws' := [(h2, .inr (12, fM w1853))]) [1] (by decide) rfl
      have hKc := hK.sub (tys' := []) [] rfl
      have hFc := va_free (wc := [(h2, .inr (12, fM w1853))]) hD hS hA [1] rfl
      refine va_calli (va_runV (As := []) (rest := []) ⟨hx, hb, hml, hown, hts⟩ (p_X12_thrown l dC dI h2 w1853 1 (f1853_1) H.size) (cwV 0 hts glaw34_2 rfl rfl rfl (by decide +kernel) ⟨by decide +kernel, by decide +kernel⟩) ⟨fun a U g mk q => by obtain ⟨q0, q1, qP, qK, qD⟩ := q; exact ⟨q0, q1, qP, va_K.moved (u := U) (U := U.calling g mk a) (Vm.Alike.refl U.vm) qK, qD⟩, va_recv hKc hPc (ci := 12) (q0 := 0) rfl rfl, fun U hU9 hW => ⟨rfl, by rw [hU9], by rw [hU9]; exact hPc, va_K.moved hW.alike hKc, hDc.weaken (fun _ _ _ _ => trivial)⟩⟩ rfl rfl hl.1 rfl (lv_room (Nat.le_of_ble_eq_true rfl)) dL_law_1859 ⟨by decide +kernel, by decide +kernel⟩) hS (fun q _ h => hFc q h) hFc (fun r1859_1 u t H1 locs ht hvm hw hB hz1 hk1 hS => ?_)
      obtain ⟨hP1, hK1, hD1⟩ := hB
      rw [ht] at hP1
      have hK1 := va_K.moved hvm.symm hK1
      obtain ⟨hP, hD⟩ := va_join (wr := [(o, .inl (kO, 1, .inr (.inl go1835)))]) (w1 := []) hP hD [1] [0] rfl rfl (by decide) (by decide) hk1 hFc hP1 hD1
      generalize H1 = H at hP hS ⊢
      have hP : va_P (dC, dI) vwCl [(o, .inl (kO, 1, .inr (.inl go1835)))] H := hP
      have hD : va_D A [(o, .inl (kO, 1, .inr (.inl go1835)))] := hD
      obtain rfl := hw
      refine lv_iload hx hb dL_law_1862 (lv_at hl 1 rfl) ?_
      refine lv_icmp_eq (tgt := 1869) hx hb dL_law_1864 (by decide) (fun c9 => absurd c9 (by decide)) (fun _ => ?_)
      refine lv_iconst (v := 0) hx hb dL_law_1867 (by decide) ?_
      refine W.widen (k := 600002) (n := 7302232) (by decide +kernel) (by decide +kernel) ?_
      exact False.elim (by omega)
    · refine lv_istore (lv' := [(6, .int 0), (5, .int 0), (4, .int 0), (3, .ref o), (2, .ref h2), (1, .ref h1), (0, .ref b)]) hx hb dL_law_1856 hl (by decide) rfl (fun ls hl => ?_)
      refine lv_aload_n hx hb dL_law_1858 rfl (lv_at hl 4 rfl) ?_
      have hPc := hP.sub (ws' := [(h2, .inr (12, fM w1853))]) [1] rfl
      have hDc := hD.sub (ws' := [(h2, .inr (12, fM w1853))]) [1] (by decide) rfl
      have hKc := hK.sub (tys' := []) [] rfl
      have hFc := va_free (wc := [(h2, .inr (12, fM w1853))]) hD hS hA [1] rfl
      refine va_calli (va_runV (As := []) (rest := []) ⟨hx, hb, hml, hown, hts⟩ (p_X12_thrown l dC dI h2 w1853 2 (f1853_1) H.size) (cwV 0 hts glaw34_2 rfl rfl rfl (by decide +kernel) ⟨by decide +kernel, by decide +kernel⟩) ⟨fun a U g mk q => by obtain ⟨q0, q1, qP, qK, qD⟩ := q; exact ⟨q0, q1, qP, va_K.moved (u := U) (U := U.calling g mk a) (Vm.Alike.refl U.vm) qK, qD⟩, va_recv hKc hPc (ci := 12) (q0 := 0) rfl rfl, fun U hU9 hW => ⟨rfl, by rw [hU9], by rw [hU9]; exact hPc, va_K.moved hW.alike hKc, hDc.weaken (fun _ _ _ _ => trivial)⟩⟩ rfl rfl hl.1 rfl (lv_room (Nat.le_of_ble_eq_true rfl)) dL_law_1859 ⟨by decide +kernel, by decide +kernel⟩) hS (fun q _ h => hFc q h) hFc (fun r1859_2 u t H1 locs ht hvm hw hB hz1 hk1 hS => ?_)
      obtain ⟨hP1, hK1, hD1⟩ := hB
      rw [ht] at hP1
      have hK1 := va_K.moved hvm.symm hK1
      obtain ⟨hP, hD⟩ := va_join (wr := [(o, .inl (kO, 1, .inr (.inl go1835)))]) (w1 := []) hP hD [1] [0] rfl rfl (by decide) (by decide) hk1 hFc hP1 hD1
      generalize H1 = H at hP hS ⊢
      have hP : va_P (dC, dI) vwCl [(o, .inl (kO, 1, .inr (.inl go1835)))] H := hP
      have hD : va_D A [(o, .inl (kO, 1, .inr (.inl go1835)))] := hD
      obtain rfl := hw
      refine lv_iload hx hb dL_law_1862 (lv_at hl 1 rfl) ?_
      refine lv_icmp_eq (tgt := 1869) hx hb dL_law_1864 (by decide) (fun c9 => absurd c9 (by decide)) (fun _ => ?_)
      refine lv_iconst (v := 0) hx hb dL_law_1867 (by decide) ?_
      refine W.widen (k := 600002) (n := 7302232) (by decide +kernel) (by decide +kernel) ?_
      exact False.elim (by omega)
  · refine lv_istore (lv' := [(5, .int 1), (4, .int 0), (3, .ref o), (2, .ref h2), (1, .ref h1), (0, .ref b)]) hx hb dL_law_1838 hl (by decide) rfl (fun ls hl => ?_)
    refine lv_aload_n hx hb dL_law_1840 rfl (lv_at hl 3 rfl) ?_
    refine lv_aload_n hx hb dL_law_1841 rfl (lv_at hl 5 rfl) ?_
    refine lv_iload hx hb dL_law_1842 (lv_at hl 1 rfl) ?_
    refine lv_iconst (v := 1) hx hb dL_law_1844 (by decide) ?_
    refine lv_iadd hx hb dL_law_1845 ?_
    refine lv_topi (fun y13 hy13 => ?_)
    obtain rfl : 1 = y13 := (hy13.trans (by decide)).symm
    refine va_sld hx hb hX hbl hbA hS (show ¬ ((1 : Int32) < 0 ∨ 6 ≤ (1 : Int32).toNatClampNeg) by decide) dL_law_1846 ?_
    refine lv_topi (fun y14 hy14 => ?_)
    obtain rfl : (xs 1) = y14 := (hy14.trans (rfl)).symm
    refine lv_aload_n hx hb dL_law_1847 rfl (lv_at hl 5 rfl) ?_
    refine lv_iload hx hb dL_law_1848 (lv_at hl 1 rfl) ?_
    refine lv_iconst (v := 2) hx hb dL_law_1850 (by decide) ?_
    refine lv_iadd hx hb dL_law_1851 ?_
    refine lv_topi (fun y15 hy15 => ?_)
    obtain rfl : 2 = y15 := (hy15.trans (by decide)).symm
    refine va_sld hx hb hX hbl hbA hS (show ¬ ((2 : Int32) < 0 ∨ 6 ≤ (2 : Int32).toNatClampNeg) by decide) dL_law_1852 ?_
    refine lv_topi (fun y16 hy16 => ?_)
    obtain rfl : (xs 2) = y16 := (hy16.trans (rfl)).symm
    have hPc := hP.sub (ws' := [(h2, .inr (12, fM (vM av))), ((av 100), .inl ((kv 100), 12, .inl (fun _ => 0)))]) [0, 1] rfl
    have hDc := hD.sub (ws' := [(h2, .inr (12, fM (vM av))), ((av 100), .inl ((kv 100), 12, .inl (fun _ => 0)))]) [0, 1] (by decide) rfl
    have hKc := hK.sub (tys' := [((kv 100), .int)]) [0] rfl
    have hFc := va_free (wc := [(h2, .inr (12, fM (vM av))), ((av 100), .inl ((kv 100), 12, .inl (fun _ => 0)))]) hD hS hA [0, 1] rfl
    refine va_calli (va_runV (As := [.int (xs 1), .int (xs 2)]) (rest := []) ⟨hx, hb, hml, hown, hts⟩ (p_X12_cut l dC dI h2 (vM av) (rfl) (av 100) (rfl) (kv 100) (fun _ => 0) (xs 1) (xs 2) H.size) (cwV 2 hts glaw34_1 rfl rfl rfl (by decide +kernel) ⟨by decide +kernel, by decide +kernel⟩) ⟨fun a U g mk q => by obtain ⟨q0, q1, qP, qK, qD⟩ := q; exact ⟨q0, q1, qP, va_K.moved (u := U) (U := U.calling g mk a) (Vm.Alike.refl U.vm) qK, qD⟩, va_recv hKc hPc (ci := 12) (q0 := 0) rfl rfl, fun U hU9 hW => ⟨rfl, by rw [hU9], by rw [hU9]; exact hPc, va_K.moved hW.alike hKc, hDc.weaken (fun _ _ _ _ => trivial)⟩⟩ rfl rfl hl.1 rfl (lv_room (Nat.le_of_ble_eq_true rfl)) dL_law_1853 ⟨by decide +kernel, by decide +kernel⟩) hS (fun q _ h => hFc q h) hFc (fun r1853_1 u t H1 locs ht hvm hw hB hz1 hk1 hS => ?_)
    obtain ⟨w1853_1, hwit1853_1⟩ : ∃ w9, w9 = u := ⟨u, rfl⟩
    subst hwit1853_1
    obtain ⟨hP1, hK1, hD1⟩ := hB
    rw [ht] at hP1
    have hK1 := va_K.moved hvm.symm hK1
    obtain ⟨hP, hD⟩ := va_join (wr := [(o, .inl (kO, 1, .inr (.inl go1835)))]) (w1 := [(h2, .inr (12, fM w1853_1))]) hP hD [0, 1] [2] rfl rfl (by decide) (by decide) hk1 hFc hP1 hD1
    generalize H1 = H at hP hS ⊢
    have hP : va_P (dC, dI) vwCl [(o, .inl (kO, 1, .inr (.inl go1835))), (h2, .inr (12, fM w1853_1))] H := hP
    have hD : va_D A [(o, .inl (kO, 1, .inr (.inl go1835))), (h2, .inr (12, fM w1853_1))] := hD
    rcases hw with ⟨rfl, f1853_1_0, f1853_1_1⟩ | ⟨rfl, f1853_1_0, f1853_1_1⟩ | ⟨rfl, f1853_1_0, f1853_1_1⟩
    · refine lv_istore (lv' := [(6, .int ((1 : Int32) <<< ((xs 1) &&& 31))), (5, .int 1), (4, .int 0), (3, .ref o), (2, .ref h2), (1, .ref h1), (0, .ref b)]) hx hb dL_law_1856 hl (by decide) rfl (fun ls hl => ?_)
      refine lv_aload_n hx hb dL_law_1858 rfl (lv_at hl 4 rfl) ?_
      have hPc := hP.sub (ws' := [(h2, .inr (12, fM w1853_1))]) [1] rfl
      have hDc := hD.sub (ws' := [(h2, .inr (12, fM w1853_1))]) [1] (by decide) rfl
      have hKc := hK.sub (tys' := []) [] rfl
      have hFc := va_free (wc := [(h2, .inr (12, fM w1853_1))]) hD hS hA [1] rfl
      refine va_calli (va_runV (As := []) (rest := []) ⟨hx, hb, hml, hown, hts⟩ (p_X12_thrown l dC dI h2 w1853_1 0 (f1853_1_1) H.size) (cwV 0 hts glaw34_2 rfl rfl rfl (by decide +kernel) ⟨by decide +kernel, by decide +kernel⟩) ⟨fun a U g mk q => by obtain ⟨q0, q1, qP, qK, qD⟩ := q; exact ⟨q0, q1, qP, va_K.moved (u := U) (U := U.calling g mk a) (Vm.Alike.refl U.vm) qK, qD⟩, va_recv hKc hPc (ci := 12) (q0 := 0) rfl rfl, fun U hU9 hW => ⟨rfl, by rw [hU9], by rw [hU9]; exact hPc, va_K.moved hW.alike hKc, hDc.weaken (fun _ _ _ _ => trivial)⟩⟩ rfl rfl hl.1 rfl (lv_room (Nat.le_of_ble_eq_true rfl)) dL_law_1859 ⟨by decide +kernel, by decide +kernel⟩) hS (fun q _ h => hFc q h) hFc (fun r1859_3 u t H1 locs ht hvm hw hB hz1 hk1 hS => ?_)
      obtain ⟨hP1, hK1, hD1⟩ := hB
      rw [ht] at hP1
      have hK1 := va_K.moved hvm.symm hK1
      obtain ⟨hP, hD⟩ := va_join (wr := [(o, .inl (kO, 1, .inr (.inl go1835)))]) (w1 := []) hP hD [1] [0] rfl rfl (by decide) (by decide) hk1 hFc hP1 hD1
      generalize H1 = H at hP hS ⊢
      have hP : va_P (dC, dI) vwCl [(o, .inl (kO, 1, .inr (.inl go1835)))] H := hP
      have hD : va_D A [(o, .inl (kO, 1, .inr (.inl go1835)))] := hD
      obtain rfl := hw
      refine lv_iload hx hb dL_law_1862 (lv_at hl 1 rfl) ?_
      refine lv_icmp_eq (tgt := 1869) hx hb dL_law_1864 (by decide) (fun c9 => absurd c9 (by decide)) (fun _ => ?_)
      refine lv_iconst (v := 0) hx hb dL_law_1867 (by decide) ?_
      refine W.widen (k := 600002) (n := 7302232) (by decide +kernel) (by decide +kernel) ?_
      exact False.elim (by omega)
    · refine lv_istore (lv' := [(6, .int 0), (5, .int 1), (4, .int 0), (3, .ref o), (2, .ref h2), (1, .ref h1), (0, .ref b)]) hx hb dL_law_1856 hl (by decide) rfl (fun ls hl => ?_)
      refine lv_aload_n hx hb dL_law_1858 rfl (lv_at hl 4 rfl) ?_
      have hPc := hP.sub (ws' := [(h2, .inr (12, fM w1853_1))]) [1] rfl
      have hDc := hD.sub (ws' := [(h2, .inr (12, fM w1853_1))]) [1] (by decide) rfl
      have hKc := hK.sub (tys' := []) [] rfl
      have hFc := va_free (wc := [(h2, .inr (12, fM w1853_1))]) hD hS hA [1] rfl
      refine va_calli (va_runV (As := []) (rest := []) ⟨hx, hb, hml, hown, hts⟩ (p_X12_thrown l dC dI h2 w1853_1 1 (f1853_1_1) H.size) (cwV 0 hts glaw34_2 rfl rfl rfl (by decide +kernel) ⟨by decide +kernel, by decide +kernel⟩) ⟨fun a U g mk q => by obtain ⟨q0, q1, qP, qK, qD⟩ := q; exact ⟨q0, q1, qP, va_K.moved (u := U) (U := U.calling g mk a) (Vm.Alike.refl U.vm) qK, qD⟩, va_recv hKc hPc (ci := 12) (q0 := 0) rfl rfl, fun U hU9 hW => ⟨rfl, by rw [hU9], by rw [hU9]; exact hPc, va_K.moved hW.alike hKc, hDc.weaken (fun _ _ _ _ => trivial)⟩⟩ rfl rfl hl.1 rfl (lv_room (Nat.le_of_ble_eq_true rfl)) dL_law_1859 ⟨by decide +kernel, by decide +kernel⟩) hS (fun q _ h => hFc q h) hFc (fun r1859_4 u t H1 locs ht hvm hw hB hz1 hk1 hS => ?_)
      obtain ⟨hP1, hK1, hD1⟩ := hB
      rw [ht] at hP1
      have hK1 := va_K.moved hvm.symm hK1
      obtain ⟨hP, hD⟩ := va_join (wr := [(o, .inl (kO, 1, .inr (.inl go1835)))]) (w1 := []) hP hD [1] [0] rfl rfl (by decide) (by decide) hk1 hFc hP1 hD1
      generalize H1 = H at hP hS ⊢
      have hP : va_P (dC, dI) vwCl [(o, .inl (kO, 1, .inr (.inl go1835)))] H := hP
      have hD : va_D A [(o, .inl (kO, 1, .inr (.inl go1835)))] := hD
      obtain rfl := hw
      refine lv_iload hx hb dL_law_1862 (lv_at hl 1 rfl) ?_
      refine lv_icmp_eq (tgt := 1869) hx hb dL_law_1864 (by decide) (fun _ => ?_) (fun c9 => absurd (by decide) c9)
      refine lv_iload hx hb dL_law_1869 (lv_at hl 1 rfl) ?_
      refine lv_if_ne (tgt := 1886) hx hb dL_law_1871 (by decide) (fun _ => ?_) (fun c9 => absurd c9 (by decide))
      refine lv_goto (tgt := 2131) hx hb dL_law_1886 (by decide) ?_
      refine lv_iinc (v := 6) (lv' := [(4, .int 6), (6, .int 0), (5, .int 1), (3, .ref o), (2, .ref h2), (1, .ref h1), (0, .ref b)]) hx hb dL_law_2131 hl (k := 2) rfl (by decide) (by decide) rfl (fun ls hl => ?_)
      refine lv_goto (tgt := 23) hx hb dL_law_2134 (by decide) ?_
      refine lv_iload hx hb dL_law_23 (lv_at hl 0 rfl) ?_
      refine lv_aload_n hx hb dL_law_25 rfl (lv_at hl 6 rfl) ?_
      refine va_slen hx hb hX hbl hbA hS dL_law_26 ?_
      refine lv_topi (fun y17 hy17 => ?_)
      obtain rfl : 6 = y17 := (hy17.trans (rfl)).symm
      refine lv_bipush (v := 6) hx hb dL_law_27 (by decide) ?_
      refine lv_isub hx hb dL_law_29 ?_
      refine lv_topi (fun y18 hy18 => ?_)
      obtain rfl : 0 = y18 := (hy18.trans (by decide)).symm
      refine lv_icmp_gt (tgt := 2137) hx hb dL_law_30 (by decide) (fun _ => ?_) (fun c9 => absurd (by decide) c9)
      refine lv_iconst (v := 1) hx hb dL_law_2137 (by decide) ?_
      refine W.widen (k := 600002) (n := 7302232) (by decide +kernel) (by decide +kernel) ?_
      refine va_forget (fun q hq => hA2 _ (hS.2.2 q hq)) ?_
      exact lw_ret hx hb hr hlocks dL_law_2138
    · refine lv_istore (lv' := [(6, .int 0), (5, .int 1), (4, .int 0), (3, .ref o), (2, .ref h2), (1, .ref h1), (0, .ref b)]) hx hb dL_law_1856 hl (by decide) rfl (fun ls hl => ?_)
      refine lv_aload_n hx hb dL_law_1858 rfl (lv_at hl 4 rfl) ?_
      have hPc := hP.sub (ws' := [(h2, .inr (12, fM w1853_1))]) [1] rfl
      have hDc := hD.sub (ws' := [(h2, .inr (12, fM w1853_1))]) [1] (by decide) rfl
      have hKc := hK.sub (tys' := []) [] rfl
      have hFc := va_free (wc := [(h2, .inr (12, fM w1853_1))]) hD hS hA [1] rfl
      refine va_calli (va_runV (As := []) (rest := []) ⟨hx, hb, hml, hown, hts⟩ (p_X12_thrown l dC dI h2 w1853_1 2 (f1853_1_1) H.size) (cwV 0 hts glaw34_2 rfl rfl rfl (by decide +kernel) ⟨by decide +kernel, by decide +kernel⟩) ⟨fun a U g mk q => by obtain ⟨q0, q1, qP, qK, qD⟩ := q; exact ⟨q0, q1, qP, va_K.moved (u := U) (U := U.calling g mk a) (Vm.Alike.refl U.vm) qK, qD⟩, va_recv hKc hPc (ci := 12) (q0 := 0) rfl rfl, fun U hU9 hW => ⟨rfl, by rw [hU9], by rw [hU9]; exact hPc, va_K.moved hW.alike hKc, hDc.weaken (fun _ _ _ _ => trivial)⟩⟩ rfl rfl hl.1 rfl (lv_room (Nat.le_of_ble_eq_true rfl)) dL_law_1859 ⟨by decide +kernel, by decide +kernel⟩) hS (fun q _ h => hFc q h) hFc (fun r1859_5 u t H1 locs ht hvm hw hB hz1 hk1 hS => ?_)
      obtain ⟨hP1, hK1, hD1⟩ := hB
      rw [ht] at hP1
      have hK1 := va_K.moved hvm.symm hK1
      obtain ⟨hP, hD⟩ := va_join (wr := [(o, .inl (kO, 1, .inr (.inl go1835)))]) (w1 := []) hP hD [1] [0] rfl rfl (by decide) (by decide) hk1 hFc hP1 hD1
      generalize H1 = H at hP hS ⊢
      have hP : va_P (dC, dI) vwCl [(o, .inl (kO, 1, .inr (.inl go1835)))] H := hP
      have hD : va_D A [(o, .inl (kO, 1, .inr (.inl go1835)))] := hD
      obtain rfl := hw
      refine lv_iload hx hb dL_law_1862 (lv_at hl 1 rfl) ?_
      refine lv_icmp_eq (tgt := 1869) hx hb dL_law_1864 (by decide) (fun c9 => absurd c9 (by decide)) (fun _ => ?_)
      refine lv_iconst (v := 0) hx hb dL_law_1867 (by decide) ?_
      refine W.widen (k := 600002) (n := 7302232) (by decide +kernel) (by decide +kernel) ?_
      exact False.elim (by omega)
  · refine lv_istore (lv' := [(5, .int 2), (4, .int 0), (3, .ref o), (2, .ref h2), (1, .ref h1), (0, .ref b)]) hx hb dL_law_1838 hl (by decide) rfl (fun ls hl => ?_)
    refine lv_aload_n hx hb dL_law_1840 rfl (lv_at hl 3 rfl) ?_
    refine lv_aload_n hx hb dL_law_1841 rfl (lv_at hl 5 rfl) ?_
    refine lv_iload hx hb dL_law_1842 (lv_at hl 1 rfl) ?_
    refine lv_iconst (v := 1) hx hb dL_law_1844 (by decide) ?_
    refine lv_iadd hx hb dL_law_1845 ?_
    refine lv_topi (fun y19 hy19 => ?_)
    obtain rfl : 1 = y19 := (hy19.trans (by decide)).symm
    refine va_sld hx hb hX hbl hbA hS (show ¬ ((1 : Int32) < 0 ∨ 6 ≤ (1 : Int32).toNatClampNeg) by decide) dL_law_1846 ?_
    refine lv_topi (fun y20 hy20 => ?_)
    obtain rfl : (xs 1) = y20 := (hy20.trans (rfl)).symm
    refine lv_aload_n hx hb dL_law_1847 rfl (lv_at hl 5 rfl) ?_
    refine lv_iload hx hb dL_law_1848 (lv_at hl 1 rfl) ?_
    refine lv_iconst (v := 2) hx hb dL_law_1850 (by decide) ?_
    refine lv_iadd hx hb dL_law_1851 ?_
    refine lv_topi (fun y21 hy21 => ?_)
    obtain rfl : 2 = y21 := (hy21.trans (by decide)).symm
    refine va_sld hx hb hX hbl hbA hS (show ¬ ((2 : Int32) < 0 ∨ 6 ≤ (2 : Int32).toNatClampNeg) by decide) dL_law_1852 ?_
    refine lv_topi (fun y22 hy22 => ?_)
    obtain rfl : (xs 2) = y22 := (hy22.trans (rfl)).symm
    have hPc := hP.sub (ws' := [(h2, .inr (12, fM (vM av))), ((av 100), .inl ((kv 100), 12, .inl (fun _ => 0)))]) [0, 1] rfl
    have hDc := hD.sub (ws' := [(h2, .inr (12, fM (vM av))), ((av 100), .inl ((kv 100), 12, .inl (fun _ => 0)))]) [0, 1] (by decide) rfl
    have hKc := hK.sub (tys' := [((kv 100), .int)]) [0] rfl
    have hFc := va_free (wc := [(h2, .inr (12, fM (vM av))), ((av 100), .inl ((kv 100), 12, .inl (fun _ => 0)))]) hD hS hA [0, 1] rfl
    refine va_calli (va_runV (As := [.int (xs 1), .int (xs 2)]) (rest := []) ⟨hx, hb, hml, hown, hts⟩ (p_X12_cut l dC dI h2 (vM av) (rfl) (av 100) (rfl) (kv 100) (fun _ => 0) (xs 1) (xs 2) H.size) (cwV 2 hts glaw34_1 rfl rfl rfl (by decide +kernel) ⟨by decide +kernel, by decide +kernel⟩) ⟨fun a U g mk q => by obtain ⟨q0, q1, qP, qK, qD⟩ := q; exact ⟨q0, q1, qP, va_K.moved (u := U) (U := U.calling g mk a) (Vm.Alike.refl U.vm) qK, qD⟩, va_recv hKc hPc (ci := 12) (q0 := 0) rfl rfl, fun U hU9 hW => ⟨rfl, by rw [hU9], by rw [hU9]; exact hPc, va_K.moved hW.alike hKc, hDc.weaken (fun _ _ _ _ => trivial)⟩⟩ rfl rfl hl.1 rfl (lv_room (Nat.le_of_ble_eq_true rfl)) dL_law_1853 ⟨by decide +kernel, by decide +kernel⟩) hS (fun q _ h => hFc q h) hFc (fun r1853_2 u t H1 locs ht hvm hw hB hz1 hk1 hS => ?_)
    obtain ⟨w1853_2, hwit1853_2⟩ : ∃ w9, w9 = u := ⟨u, rfl⟩
    subst hwit1853_2
    obtain ⟨hP1, hK1, hD1⟩ := hB
    rw [ht] at hP1
    have hK1 := va_K.moved hvm.symm hK1
    obtain ⟨hP, hD⟩ := va_join (wr := [(o, .inl (kO, 1, .inr (.inl go1835)))]) (w1 := [(h2, .inr (12, fM w1853_2))]) hP hD [0, 1] [2] rfl rfl (by decide) (by decide) hk1 hFc hP1 hD1
    generalize H1 = H at hP hS ⊢
    have hP : va_P (dC, dI) vwCl [(o, .inl (kO, 1, .inr (.inl go1835))), (h2, .inr (12, fM w1853_2))] H := hP
    have hD : va_D A [(o, .inl (kO, 1, .inr (.inl go1835))), (h2, .inr (12, fM w1853_2))] := hD
    rcases hw with ⟨rfl, f1853_2_0, f1853_2_1⟩ | ⟨rfl, f1853_2_0, f1853_2_1⟩ | ⟨rfl, f1853_2_0, f1853_2_1⟩
    · refine lv_istore (lv' := [(6, .int ((1 : Int32) <<< ((xs 1) &&& 31))), (5, .int 2), (4, .int 0), (3, .ref o), (2, .ref h2), (1, .ref h1), (0, .ref b)]) hx hb dL_law_1856 hl (by decide) rfl (fun ls hl => ?_)
      refine lv_aload_n hx hb dL_law_1858 rfl (lv_at hl 4 rfl) ?_
      have hPc := hP.sub (ws' := [(h2, .inr (12, fM w1853_2))]) [1] rfl
      have hDc := hD.sub (ws' := [(h2, .inr (12, fM w1853_2))]) [1] (by decide) rfl
      have hKc := hK.sub (tys' := []) [] rfl
      have hFc := va_free (wc := [(h2, .inr (12, fM w1853_2))]) hD hS hA [1] rfl
      refine va_calli (va_runV (As := []) (rest := []) ⟨hx, hb, hml, hown, hts⟩ (p_X12_thrown l dC dI h2 w1853_2 0 (f1853_2_1) H.size) (cwV 0 hts glaw34_2 rfl rfl rfl (by decide +kernel) ⟨by decide +kernel, by decide +kernel⟩) ⟨fun a U g mk q => by obtain ⟨q0, q1, qP, qK, qD⟩ := q; exact ⟨q0, q1, qP, va_K.moved (u := U) (U := U.calling g mk a) (Vm.Alike.refl U.vm) qK, qD⟩, va_recv hKc hPc (ci := 12) (q0 := 0) rfl rfl, fun U hU9 hW => ⟨rfl, by rw [hU9], by rw [hU9]; exact hPc, va_K.moved hW.alike hKc, hDc.weaken (fun _ _ _ _ => trivial)⟩⟩ rfl rfl hl.1 rfl (lv_room (Nat.le_of_ble_eq_true rfl)) dL_law_1859 ⟨by decide +kernel, by decide +kernel⟩) hS (fun q _ h => hFc q h) hFc (fun r1859_6 u t H1 locs ht hvm hw hB hz1 hk1 hS => ?_)
      obtain ⟨hP1, hK1, hD1⟩ := hB
      rw [ht] at hP1
      have hK1 := va_K.moved hvm.symm hK1
      obtain ⟨hP, hD⟩ := va_join (wr := [(o, .inl (kO, 1, .inr (.inl go1835)))]) (w1 := []) hP hD [1] [0] rfl rfl (by decide) (by decide) hk1 hFc hP1 hD1
      generalize H1 = H at hP hS ⊢
      have hP : va_P (dC, dI) vwCl [(o, .inl (kO, 1, .inr (.inl go1835)))] H := hP
      have hD : va_D A [(o, .inl (kO, 1, .inr (.inl go1835)))] := hD
      obtain rfl := hw
      refine lv_iload hx hb dL_law_1862 (lv_at hl 1 rfl) ?_
      refine lv_icmp_eq (tgt := 1869) hx hb dL_law_1864 (by decide) (fun c9 => absurd c9 (by decide)) (fun _ => ?_)
      refine lv_iconst (v := 0) hx hb dL_law_1867 (by decide) ?_
      refine W.widen (k := 600002) (n := 7302232) (by decide +kernel) (by decide +kernel) ?_
      exact False.elim (by omega)
    · refine lv_istore (lv' := [(6, .int 0), (5, .int 2), (4, .int 0), (3, .ref o), (2, .ref h2), (1, .ref h1), (0, .ref b)]) hx hb dL_law_1856 hl (by decide) rfl (fun ls hl => ?_)
      refine lv_aload_n hx hb dL_law_1858 rfl (lv_at hl 4 rfl) ?_
      have hPc := hP.sub (ws' := [(h2, .inr (12, fM w1853_2))]) [1] rfl
      have hDc := hD.sub (ws' := [(h2, .inr (12, fM w1853_2))]) [1] (by decide) rfl
      have hKc := hK.sub (tys' := []) [] rfl
      have hFc := va_free (wc := [(h2, .inr (12, fM w1853_2))]) hD hS hA [1] rfl
      refine va_calli (va_runV (As := []) (rest := []) ⟨hx, hb, hml, hown, hts⟩ (p_X12_thrown l dC dI h2 w1853_2 1 (f1853_2_1) H.size) (cwV 0 hts glaw34_2 rfl rfl rfl (by decide +kernel) ⟨by decide +kernel, by decide +kernel⟩) ⟨fun a U g mk q => by obtain ⟨q0, q1, qP, qK, qD⟩ := q; exact ⟨q0, q1, qP, va_K.moved (u := U) (U := U.calling g mk a) (Vm.Alike.refl U.vm) qK, qD⟩, va_recv hKc hPc (ci := 12) (q0 := 0) rfl rfl, fun U hU9 hW => ⟨rfl, by rw [hU9], by rw [hU9]; exact hPc, va_K.moved hW.alike hKc, hDc.weaken (fun _ _ _ _ => trivial)⟩⟩ rfl rfl hl.1 rfl (lv_room (Nat.le_of_ble_eq_true rfl)) dL_law_1859 ⟨by decide +kernel, by decide +kernel⟩) hS (fun q _ h => hFc q h) hFc (fun r1859_7 u t H1 locs ht hvm hw hB hz1 hk1 hS => ?_)
      obtain ⟨hP1, hK1, hD1⟩ := hB
      rw [ht] at hP1
      have hK1 := va_K.moved hvm.symm hK1
      obtain ⟨hP, hD⟩ := va_join (wr := [(o, .inl (kO, 1, .inr (.inl go1835)))]) (w1 := []) hP hD [1] [0] rfl rfl (by decide) (by decide) hk1 hFc hP1 hD1
      generalize H1 = H at hP hS ⊢
      have hP : va_P (dC, dI) vwCl [(o, .inl (kO, 1, .inr (.inl go1835)))] H := hP
      have hD : va_D A [(o, .inl (kO, 1, .inr (.inl go1835)))] := hD
      obtain rfl := hw
      refine lv_iload hx hb dL_law_1862 (lv_at hl 1 rfl) ?_
      refine lv_icmp_eq (tgt := 1869) hx hb dL_law_1864 (by decide) (fun c9 => absurd c9 (by decide)) (fun _ => ?_)
      refine lv_iconst (v := 0) hx hb dL_law_1867 (by decide) ?_
      refine W.widen (k := 600002) (n := 7302232) (by decide +kernel) (by decide +kernel) ?_
      exact False.elim (by omega)
    · refine lv_istore (lv' := [(6, .int 0), (5, .int 2), (4, .int 0), (3, .ref o), (2, .ref h2), (1, .ref h1), (0, .ref b)]) hx hb dL_law_1856 hl (by decide) rfl (fun ls hl => ?_)
      refine lv_aload_n hx hb dL_law_1858 rfl (lv_at hl 4 rfl) ?_
      have hPc := hP.sub (ws' := [(h2, .inr (12, fM w1853_2))]) [1] rfl
      have hDc := hD.sub (ws' := [(h2, .inr (12, fM w1853_2))]) [1] (by decide) rfl
      have hKc := hK.sub (tys' := []) [] rfl
      have hFc := va_free (wc := [(h2, .inr (12, fM w1853_2))]) hD hS hA [1] rfl
      refine va_calli (va_runV (As := []) (rest := []) ⟨hx, hb, hml, hown, hts⟩ (p_X12_thrown l dC dI h2 w1853_2 2 (f1853_2_1) H.size) (cwV 0 hts glaw34_2 rfl rfl rfl (by decide +kernel) ⟨by decide +kernel, by decide +kernel⟩) ⟨fun a U g mk q => by obtain ⟨q0, q1, qP, qK, qD⟩ := q; exact ⟨q0, q1, qP, va_K.moved (u := U) (U := U.calling g mk a) (Vm.Alike.refl U.vm) qK, qD⟩, va_recv hKc hPc (ci := 12) (q0 := 0) rfl rfl, fun U hU9 hW => ⟨rfl, by rw [hU9], by rw [hU9]; exact hPc, va_K.moved hW.alike hKc, hDc.weaken (fun _ _ _ _ => trivial)⟩⟩ rfl rfl hl.1 rfl (lv_room (Nat.le_of_ble_eq_true rfl)) dL_law_1859 ⟨by decide +kernel, by decide +kernel⟩) hS (fun q _ h => hFc q h) hFc (fun r1859_8 u t H1 locs ht hvm hw hB hz1 hk1 hS => ?_)
      obtain ⟨hP1, hK1, hD1⟩ := hB
      rw [ht] at hP1
      have hK1 := va_K.moved hvm.symm hK1
      obtain ⟨hP, hD⟩ := va_join (wr := [(o, .inl (kO, 1, .inr (.inl go1835)))]) (w1 := []) hP hD [1] [0] rfl rfl (by decide) (by decide) hk1 hFc hP1 hD1
      generalize H1 = H at hP hS ⊢
      have hP : va_P (dC, dI) vwCl [(o, .inl (kO, 1, .inr (.inl go1835)))] H := hP
      have hD : va_D A [(o, .inl (kO, 1, .inr (.inl go1835)))] := hD
      obtain rfl := hw
      refine lv_iload hx hb dL_law_1862 (lv_at hl 1 rfl) ?_
      refine lv_icmp_eq (tgt := 1869) hx hb dL_law_1864 (by decide) (fun _ => ?_) (fun c9 => absurd (by decide) c9)
      refine lv_iload hx hb dL_law_1869 (lv_at hl 1 rfl) ?_
      refine lv_if_ne (tgt := 1886) hx hb dL_law_1871 (by decide) (fun _ => ?_) (fun c9 => absurd c9 (by decide))
      refine lv_goto (tgt := 2131) hx hb dL_law_1886 (by decide) ?_
      refine lv_iinc (v := 6) (lv' := [(4, .int 6), (6, .int 0), (5, .int 2), (3, .ref o), (2, .ref h2), (1, .ref h1), (0, .ref b)]) hx hb dL_law_2131 hl (k := 2) rfl (by decide) (by decide) rfl (fun ls hl => ?_)
      refine lv_goto (tgt := 23) hx hb dL_law_2134 (by decide) ?_
      refine lv_iload hx hb dL_law_23 (lv_at hl 0 rfl) ?_
      refine lv_aload_n hx hb dL_law_25 rfl (lv_at hl 6 rfl) ?_
      refine va_slen hx hb hX hbl hbA hS dL_law_26 ?_
      refine lv_topi (fun y23 hy23 => ?_)
      obtain rfl : 6 = y23 := (hy23.trans (rfl)).symm
      refine lv_bipush (v := 6) hx hb dL_law_27 (by decide) ?_
      refine lv_isub hx hb dL_law_29 ?_
      refine lv_topi (fun y24 hy24 => ?_)
      obtain rfl : 0 = y24 := (hy24.trans (by decide)).symm
      refine lv_icmp_gt (tgt := 2137) hx hb dL_law_30 (by decide) (fun _ => ?_) (fun c9 => absurd (by decide) c9)
      refine lv_iconst (v := 1) hx hb dL_law_2137 (by decide) ?_
      refine W.widen (k := 600002) (n := 7302232) (by decide +kernel) (by decide +kernel) ?_
      refine va_forget (fun q hq => hA2 _ (hS.2.2 q hq)) ?_
      exact lw_ret hx hb hr hlocks dL_law_2138
theorem dL_law_1889 : decode cL_law 1889 = .ok (.aload_n 1, 1) := by decide +kernel
theorem dL_law_1890 : decode cL_law 1890 = .ok (.aload_n 0, 1) := by decide +kernel
theorem dL_law_1891 : decode cL_law 1891 = .ok (.iload 4, 2) := by decide +kernel
theorem dL_law_1893 : decode cL_law 1893 = .ok (.iconst 1, 1) := by decide +kernel
theorem dL_law_1894 : decode cL_law 1894 = .ok (.iadd, 1) := by decide +kernel
theorem dL_law_1895 : decode cL_law 1895 = .ok (.iaload, 1) := by decide +kernel
theorem dL_law_1896 : decode cL_law 1896 = .ok (.aload_n 0, 1) := by decide +kernel
theorem dL_law_1897 : decode cL_law 1897 = .ok (.iload 4, 2) := by decide +kernel
theorem dL_law_1899 : decode cL_law 1899 = .ok (.iconst 2, 1) := by decide +kernel
theorem dL_law_1900 : decode cL_law 1900 = .ok (.iadd, 1) := by decide +kernel
theorem dL_law_1901 : decode cL_law 1901 = .ok (.iaload, 1) := by decide +kernel
theorem dL_law_1902 : decode cL_law 1902 = .ok (.aload_n 0, 1) := by decide +kernel
theorem dL_law_1903 : decode cL_law 1903 = .ok (.iload 4, 2) := by decide +kernel
theorem dL_law_1905 : decode cL_law 1905 = .ok (.iconst 3, 1) := by decide +kernel
theorem dL_law_1906 : decode cL_law 1906 = .ok (.iadd, 1) := by decide +kernel
theorem dL_law_1907 : decode cL_law 1907 = .ok (.iaload, 1) := by decide +kernel
theorem dL_law_1908 : decode cL_law 1908 = .ok (.aload_n 3, 1) := by decide +kernel
theorem dL_law_1909 : decode cL_law 1909 = .ok (.invokestatic 228, 3) := by decide +kernel
theorem dL_law_1912 : decode cL_law 1912 = .ok (.istore 5, 2) := by decide +kernel
theorem dL_law_1914 : decode cL_law 1914 = .ok (.aload_n 2, 1) := by decide +kernel
theorem dL_law_1915 : decode cL_law 1915 = .ok (.aload_n 0, 1) := by decide +kernel
theorem dL_law_1916 : decode cL_law 1916 = .ok (.iload 4, 2) := by decide +kernel
theorem dL_law_1918 : decode cL_law 1918 = .ok (.iconst 1, 1) := by decide +kernel
theorem dL_law_1919 : decode cL_law 1919 = .ok (.iadd, 1) := by decide +kernel
theorem dL_law_1920 : decode cL_law 1920 = .ok (.iaload, 1) := by decide +kernel
theorem dL_law_1921 : decode cL_law 1921 = .ok (.aload_n 0, 1) := by decide +kernel
theorem dL_law_1922 : decode cL_law 1922 = .ok (.iload 4, 2) := by decide +kernel
theorem dL_law_1924 : decode cL_law 1924 = .ok (.iconst 2, 1) := by decide +kernel
theorem dL_law_1925 : decode cL_law 1925 = .ok (.iadd, 1) := by decide +kernel
theorem dL_law_1926 : decode cL_law 1926 = .ok (.iaload, 1) := by decide +kernel
theorem dL_law_1927 : decode cL_law 1927 = .ok (.aload_n 0, 1) := by decide +kernel
theorem dL_law_1928 : decode cL_law 1928 = .ok (.iload 4, 2) := by decide +kernel
theorem dL_law_1930 : decode cL_law 1930 = .ok (.iconst 3, 1) := by decide +kernel
theorem dL_law_1931 : decode cL_law 1931 = .ok (.iadd, 1) := by decide +kernel
theorem dL_law_1932 : decode cL_law 1932 = .ok (.iaload, 1) := by decide +kernel
theorem dL_law_1933 : decode cL_law 1933 = .ok (.invokevirtual 230, 3) := by decide +kernel
theorem dL_law_1936 : decode cL_law 1936 = .ok (.istore 6, 2) := by decide +kernel
theorem dL_law_1938 : decode cL_law 1938 = .ok (.aload_n 2, 1) := by decide +kernel
theorem dL_law_1939 : decode cL_law 1939 = .ok (.invokevirtual 111, 3) := by decide +kernel
theorem dL_law_1942 : decode cL_law 1942 = .ok (.iload 5, 2) := by decide +kernel
theorem dL_law_1944 : decode cL_law 1944 = .ok (.if_icmp .eq 5, 3) := by decide +kernel
theorem dL_law_1947 : decode cL_law 1947 = .ok (.iconst 0, 1) := by decide +kernel
theorem dL_law_1948 : decode cL_law 1948 = .ok (.ireturn, 1) := by decide +kernel
theorem dL_law_1949 : decode cL_law 1949 = .ok (.iload 5, 2) := by decide +kernel
theorem dL_law_1951 : decode cL_law 1951 = .ok (.ifCond .ne 15, 3) := by decide +kernel
theorem dL_law_1954 : decode cL_law 1954 = .ok (.aload_n 3, 1) := by decide +kernel
theorem dL_law_1955 : decode cL_law 1955 = .ok (.iconst 0, 1) := by decide +kernel
theorem dL_law_1956 : decode cL_law 1956 = .ok (.laload, 1) := by decide +kernel
theorem dL_law_1957 : decode cL_law 1957 = .ok (.iload 6, 2) := by decide +kernel
theorem dL_law_1959 : decode cL_law 1959 = .ok (.i2l, 1) := by decide +kernel
theorem dL_law_1960 : decode cL_law 1960 = .ok (.lcmp, 1) := by decide +kernel
theorem dL_law_1961 : decode cL_law 1961 = .ok (.ifCond .eq 5, 3) := by decide +kernel
theorem dL_law_1964 : decode cL_law 1964 = .ok (.iconst 0, 1) := by decide +kernel
theorem dL_law_1965 : decode cL_law 1965 = .ok (.ireturn, 1) := by decide +kernel
theorem dL_law_1966 : decode cL_law 1966 = .ok (.goto 165, 3) := by decide +kernel
theorem glaw35_0 : GoodIn lw_tbl (va_wsS RL 228 yL_cheapest wsPL_cheapest) := goodIn_sub ((List.forall_mem_append.mpr ⟨(mem_p ([.methodLink RL 228 yL_cheapest, .static yL_cheapest, .initialized "OptimaWorksLaw"] : List Cond) [(10, 52), (10, 53), (1, 0)] (by decide +kernel)), ml_wsPL_cheapest⟩ : ∀ w ∈ va_wsS RL 228 yL_cheapest wsPL_cheapest, w ∈ lw_tbl)) (by decide +kernel)
theorem glaw35_1 : GoodIn lw_tbl (wsV RL 230 RX12 yX12_cheapest wsPX12_cheapest) := goodIn_sub ((List.forall_mem_append.mpr ⟨(mem_p ([.methodLink RL 230 yX12_cheapest, .instanceMethod yX12_cheapest, .selects RX12 yX12_cheapest yX12_cheapest, .initialized RX12] : List Cond) [(16, 28), (16, 29), (16, 30), (1, 4)] (by decide +kernel)), ml_wsPX12_cheapest⟩ : ∀ w ∈ wsV RL 230 RX12 yX12_cheapest wsPX12_cheapest, w ∈ lw_tbl)) (by decide +kernel)
theorem glaw35_2 : GoodIn lw_tbl (wsV RL 111 RX12 yX12_thrown wsPX12_thrown) := goodIn_sub ((List.forall_mem_append.mpr ⟨(mem_p ([.methodLink RL 111 yX12_thrown, .instanceMethod yX12_thrown, .selects RX12 yX12_thrown yX12_thrown, .initialized RX12] : List Cond) [(12, 139), (12, 140), (12, 141), (1, 4)] (by decide +kernel)), ml_wsPX12_thrown⟩ : ∀ w ∈ wsV RL 111 RX12 yX12_thrown wsPX12_thrown, w ∈ lw_tbl)) (by decide +kernel)
set_option maxHeartbeats 4000000 in
set_option maxRecDepth 100000 in
/-- the law's case 35: cheapest -/
theorem lc_35 {p : Program} {e : Env} {s : State} {m : MethodId} {below : List Frame} {meth : Method} {c : Code} (l : Launch) (hst : l.stackTraces = false) {b : Nat} {xs : Nat → Int32} (C0 : lw_At p s m meth c b 6 xs) {A : Nat → Prop} (hA : ∀ q : Nat, s.heap.size ≤ q → A q) (hA2 : ∀ q : Nat, A q → s.heap.size ≤ q) (X0 : lx_ok A s) (dC : Nat → ClassId) (dI : Nat → Nat → Nat) {h1 h2 o : Nat} {a : Nat → Nat} {k : Nat → ClassId} {av : Nat → Nat} {kv : Nat → ClassId} {kO : ClassId} {H : Heap} {locs : List Loc} {ls : Array Slot} (hK : va_K (dC, dI) vwCl [((kv 100), .int), (kO, .long)] s) (hP : va_P (dC, dI) vwCl [(h1, .inr (11, [.ref (a 0), .ref (a 1), .ref (a 3), .ref (a 14), .int 0, .null, .null, .null, .null, .null, .null])), (h2, .inr (12, fM (vM av))), ((av 100), .inl ((kv 100), 12, .inl (fun _ => 0))), (o, .inl (kO, 1, .inr (.inl (fun _ => 0))))] H) (hD : va_D A [(h1, .inr (11, [.ref (a 0), .ref (a 1), .ref (a 3), .ref (a 14), .int 0, .null, .null, .null, .null, .null, .null])), (h2, .inr (12, fM (vM av))), ((av 100), .inl ((kv 100), 12, .inl (fun _ => 0))), (o, .inl (kO, 1, .inr (.inl (fun _ => 0))))]) (hS : va_S A s.heap H locs) (hl : lv_has ls 7 [(4, .int 0), (3, .ref o), (2, .ref h2), (1, .ref h1), (0, .ref b)]) : W p l e room_1 s m #[Value.ref b] below meth c H locs 125 181434 (lw_Z below #[Value.ref b] s) (F0 m 1889 ls []) := by
  obtain ⟨hx, hb, hr, hml, hown, hts, hX, hbl, hlocks, hgv⟩ := id C0
  have hb : c.code = cL_law := hb
  have hown : s.vm.findClass RL = some m.cls := hown
  obtain ⟨hU, hN, hnX11_343, hnX11_392, hnX11_421, hncAI, hngX11_161, hngX11_79, hngX11_95⟩ := X0
  have hbA : ¬ A b := fun h => absurd (hA2 b h) (Nat.not_le.mpr hbl)
  refine lv_aload_n hx hb dL_law_1889 rfl (lv_at hl 3 rfl) ?_
  refine lv_aload_n hx hb dL_law_1890 rfl (lv_at hl 4 rfl) ?_
  refine lv_iload hx hb dL_law_1891 (lv_at hl 0 rfl) ?_
  refine lv_iconst (v := 1) hx hb dL_law_1893 (by decide) ?_
  refine lv_iadd hx hb dL_law_1894 ?_
  refine lv_topi (fun y1 hy1 => ?_)
  obtain rfl : 1 = y1 := (hy1.trans (by decide)).symm
  refine va_sld hx hb hX hbl hbA hS (show ¬ ((1 : Int32) < 0 ∨ 6 ≤ (1 : Int32).toNatClampNeg) by decide) dL_law_1895 ?_
  refine lv_topi (fun y2 hy2 => ?_)
  obtain rfl : (xs 1) = y2 := (hy2.trans (rfl)).symm
  refine lv_aload_n hx hb dL_law_1896 rfl (lv_at hl 4 rfl) ?_
  refine lv_iload hx hb dL_law_1897 (lv_at hl 0 rfl) ?_
  refine lv_iconst (v := 2) hx hb dL_law_1899 (by decide) ?_
  refine lv_iadd hx hb dL_law_1900 ?_
  refine lv_topi (fun y3 hy3 => ?_)
  obtain rfl : 2 = y3 := (hy3.trans (by decide)).symm
  refine va_sld hx hb hX hbl hbA hS (show ¬ ((2 : Int32) < 0 ∨ 6 ≤ (2 : Int32).toNatClampNeg) by decide) dL_law_1901 ?_
  refine lv_topi (fun y4 hy4 => ?_)
  obtain rfl : (xs 2) = y4 := (hy4.trans (rfl)).symm
  refine lv_aload_n hx hb dL_law_1902 rfl (lv_at hl 4 rfl) ?_
  refine lv_iload hx hb dL_law_1903 (lv_at hl 0 rfl) ?_
  refine lv_iconst (v := 3) hx hb dL_law_1905 (by decide) ?_
  refine lv_iadd hx hb dL_law_1906 ?_
  refine lv_topi (fun y5 hy5 => ?_)
  obtain rfl : 3 = y5 := (hy5.trans (by decide)).symm
  refine va_sld hx hb hX hbl hbA hS (show ¬ ((3 : Int32) < 0 ∨ 6 ≤ (3 : Int32).toNatClampNeg) by decide) dL_law_1907 ?_
  refine lv_topi (fun y6 hy6 => ?_)
  obtain rfl : (xs 3) = y6 := (hy6.trans (rfl)).symm
  refine lv_aload_n hx hb dL_law_1908 rfl (lv_at hl 1 rfl) ?_
  have hPc := hP.sub (ws' := [(h1, .inr (11, [.ref (a 0), .ref (a 1), .ref (a 3), .ref (a 14), .int 0, .null, .null, .null, .null, .null, .null])), (o, .inl (kO, 1, .inr (.inl (fun _ => 0))))]) [0, 3] rfl
  have hDc := hD.sub (ws' := [(h1, .inr (11, [.ref (a 0), .ref (a 1), .ref (a 3), .ref (a 14), .int 0, .null, .null, .null, .null, .null, .null])), (o, .inl (kO, 1, .inr (.inl (fun _ => 0))))]) [0, 3] (by decide) rfl
  have hKc := hK.sub (tys' := [(kO, .long)]) [1] rfl
  have hFc := va_free (wc := [(h1, .inr (11, [.ref (a 0), .ref (a 1), .ref (a 3), .ref (a 14), .int 0, .null, .null, .null, .null, .null, .null])), (o, .inl (kO, 1, .inr (.inl (fun _ => 0))))]) hD hS hA [0, 3] rfl
  refine va_calli (vx_runSW (As := [.ref h1, .int (xs 1), .int (xs 2), .int (xs 3), .ref o]) (rest := []) ⟨hx, hb, hml, hown, hts⟩ (p_L_cheapest l hst dC dI h1 a o kO (xs 1) (xs 2) (xs 3) H.size) (vx_cwSW 5 hts glaw35_0 rfl rfl rfl (by decide +kernel) ⟨by decide +kernel, by decide +kernel⟩) ⟨fun a U g mk q => by obtain ⟨q0, q1, qP, qK, qD, qU, qN, qngX11_79, qngX11_95, qhnX11_421, qhncAI⟩ := q; exact ⟨q0, q1, qP, va_K.moved (u := U) (U := U.calling g mk a) (Vm.Alike.refl U.vm) qK, qD, vx_Zq.moved (u := U) (U := U.calling g mk a) (Vm.Alike.refl U.vm) qU, vx_Zq.moved (u := U) (U := U.calling g mk a) (Vm.Alike.refl U.vm) qN, fun w h => va_Nw.same (u := U) (U := U.calling g mk a) (ngX11_79_ot w h) rfl (qngX11_79 w h), fun w h => va_Nw.same (u := U) (U := U.calling g mk a) (ngX11_95_ot w h) rfl (qngX11_95 w h), va_Nw.same (u := U) (U := U.calling g mk a) rfl rfl qhnX11_421, va_Nc.moved (u := U) (U := U.calling g mk a) (Vm.Alike.refl U.vm) qhncAI⟩, fun U hU9 hW => ⟨rfl, by rw [hU9], by rw [hU9]; exact hPc, va_K.moved hW.alike hKc, hDc.weaken (fun _ _ _ _ => trivial), by rw [hU9]; exact ((hU.kept (fun a h1 h2 => hS.2.1 a h1 h2)).narrow hFc).moved hW.alike, by rw [hU9]; exact ((hN.kept (fun a h1 h2 => hS.2.1 a h1 h2)).narrow hFc).moved hW.alike, fun w h => cd_warm (ngX11_79_cd w h) hW (hngX11_79 w h), fun w h => cd_warm (ngX11_95_cd w h) hW (hngX11_95 w h), va_Nw.warmM hW hnX11_421, va_Nc.moved hW.alike hncAI⟩⟩ rfl rfl hl.1 rfl (lv_room (Nat.le_of_ble_eq_true rfl)) dL_law_1909 ⟨by decide +kernel, by decide +kernel⟩) hS (fun q _ h => hFc q h) hFc (fun r1909 u t H1 locs ht hvm hw hB hz1 hk1 hS => ?_)
  obtain ⟨go1909, hwit1909⟩ : ∃ w9, w9 = u := ⟨u, rfl⟩
  subst hwit1909
  obtain ⟨hP1, hK1, hD1⟩ := hB
  rw [ht] at hP1
  have hK1 := va_K.moved hvm.symm hK1
  obtain ⟨hP, hD⟩ := va_join (wr := [(h2, .inr (12, fM (vM av))), ((av 100), .inl ((kv 100), 12, .inl (fun _ => 0)))]) (w1 := [(o, .inl (kO, 1, .inr (.inl go1909)))]) hP hD [0, 3] [1, 2] rfl rfl (by decide) (by decide) hk1 hFc hP1 hD1
  generalize H1 = H at hP hS ⊢
  have hP : va_P (dC, dI) vwCl [(h2, .inr (12, fM (vM av))), ((av 100), .inl ((kv 100), 12, .inl (fun _ => 0))), (o, .inl (kO, 1, .inr (.inl go1909)))] H := hP
  have hD : va_D A [(h2, .inr (12, fM (vM av))), ((av 100), .inl ((kv 100), 12, .inl (fun _ => 0))), (o, .inl (kO, 1, .inr (.inl go1909)))] := hD
  refine W.widen (k := 138) (n := 182918) (by decide +kernel) (by decide +kernel) ?_
  rcases hw with ⟨rfl, f1909_0, f1909_1, f1909_2⟩ | ⟨rfl, f1909_0, f1909_1, f1909_2⟩ | ⟨rfl, f1909_0⟩ | ⟨rfl, f1909_0⟩
  · refine lv_istore (lv' := [(5, .int 0), (4, .int 0), (3, .ref o), (2, .ref h2), (1, .ref h1), (0, .ref b)]) hx hb dL_law_1912 hl (by decide) rfl (fun ls hl => ?_)
    refine lv_aload_n hx hb dL_law_1914 rfl (lv_at hl 3 rfl) ?_
    refine lv_aload_n hx hb dL_law_1915 rfl (lv_at hl 5 rfl) ?_
    refine lv_iload hx hb dL_law_1916 (lv_at hl 1 rfl) ?_
    refine lv_iconst (v := 1) hx hb dL_law_1918 (by decide) ?_
    refine lv_iadd hx hb dL_law_1919 ?_
    refine lv_topi (fun y7 hy7 => ?_)
    obtain rfl : 1 = y7 := (hy7.trans (by decide)).symm
    refine va_sld hx hb hX hbl hbA hS (show ¬ ((1 : Int32) < 0 ∨ 6 ≤ (1 : Int32).toNatClampNeg) by decide) dL_law_1920 ?_
    refine lv_topi (fun y8 hy8 => ?_)
    obtain rfl : (xs 1) = y8 := (hy8.trans (rfl)).symm
    refine lv_aload_n hx hb dL_law_1921 rfl (lv_at hl 5 rfl) ?_
    refine lv_iload hx hb dL_law_1922 (lv_at hl 1 rfl) ?_
    refine lv_iconst (v := 2) hx hb dL_law_1924 (by decide) ?_
    refine lv_iadd hx hb dL_law_1925 ?_
    refine lv_topi (fun y9 hy9 => ?_)
    obtain rfl : 2 = y9 := (hy9.trans (by decide)).symm
    refine va_sld hx hb hX hbl hbA hS (show ¬ ((2 : Int32) < 0 ∨ 6 ≤ (2 : Int32).toNatClampNeg) by decide) dL_law_1926 ?_
    refine lv_topi (fun y10 hy10 => ?_)
    obtain rfl : (xs 2) = y10 := (hy10.trans (rfl)).symm
    refine lv_aload_n hx hb dL_law_1927 rfl (lv_at hl 5 rfl) ?_
    refine lv_iload hx hb dL_law_1928 (lv_at hl 1 rfl) ?_
    refine lv_iconst (v := 3) hx hb dL_law_1930 (by decide) ?_
    refine lv_iadd hx hb dL_law_1931 ?_
    refine lv_topi (fun y11 hy11 => ?_)
    obtain rfl : 3 = y11 := (hy11.trans (by decide)).symm
    refine va_sld hx hb hX hbl hbA hS (show ¬ ((3 : Int32) < 0 ∨ 6 ≤ (3 : Int32).toNatClampNeg) by decide) dL_law_1932 ?_
    refine lv_topi (fun y12 hy12 => ?_)
    obtain rfl : (xs 3) = y12 := (hy12.trans (rfl)).symm
    have hPc := hP.sub (ws' := [(h2, .inr (12, fM (vM av))), ((av 100), .inl ((kv 100), 12, .inl (fun _ => 0)))]) [0, 1] rfl
    have hDc := hD.sub (ws' := [(h2, .inr (12, fM (vM av))), ((av 100), .inl ((kv 100), 12, .inl (fun _ => 0)))]) [0, 1] (by decide) rfl
    have hKc := hK.sub (tys' := [((kv 100), .int)]) [0] rfl
    have hFc := va_free (wc := [(h2, .inr (12, fM (vM av))), ((av 100), .inl ((kv 100), 12, .inl (fun _ => 0)))]) hD hS hA [0, 1] rfl
    refine va_calli (va_runV (As := [.int (xs 1), .int (xs 2), .int (xs 3)]) (rest := []) ⟨hx, hb, hml, hown, hts⟩ (p_X12_cheapest l dC dI h2 (vM av) (rfl) (av 100) (rfl) (kv 100) (fun _ => 0) (xs 1) (xs 2) (xs 3) H.size) (cwV 3 hts glaw35_1 rfl rfl rfl (by decide +kernel) ⟨by decide +kernel, by decide +kernel⟩) ⟨fun a U g mk q => by obtain ⟨q0, q1, qP, qK, qD⟩ := q; exact ⟨q0, q1, qP, va_K.moved (u := U) (U := U.calling g mk a) (Vm.Alike.refl U.vm) qK, qD⟩, va_recv hKc hPc (ci := 12) (q0 := 0) rfl rfl, fun U hU9 hW => ⟨rfl, by rw [hU9], by rw [hU9]; exact hPc, va_K.moved hW.alike hKc, hDc.weaken (fun _ _ _ _ => trivial)⟩⟩ rfl rfl hl.1 rfl (lv_room (Nat.le_of_ble_eq_true rfl)) dL_law_1933 ⟨by decide +kernel, by decide +kernel⟩) hS (fun q _ h => hFc q h) hFc (fun r1933 u t H1 locs ht hvm hw hB hz1 hk1 hS => ?_)
    obtain ⟨w1933, hwit1933⟩ : ∃ w9, w9 = u := ⟨u, rfl⟩
    subst hwit1933
    obtain ⟨hP1, hK1, hD1⟩ := hB
    rw [ht] at hP1
    have hK1 := va_K.moved hvm.symm hK1
    obtain ⟨hP, hD⟩ := va_join (wr := [(o, .inl (kO, 1, .inr (.inl go1909)))]) (w1 := [(h2, .inr (12, fM w1933))]) hP hD [0, 1] [2] rfl rfl (by decide) (by decide) hk1 hFc hP1 hD1
    generalize H1 = H at hP hS ⊢
    have hP : va_P (dC, dI) vwCl [(o, .inl (kO, 1, .inr (.inl go1909))), (h2, .inr (12, fM w1933))] H := hP
    have hD : va_D A [(o, .inl (kO, 1, .inr (.inl go1909))), (h2, .inr (12, fM w1933))] := hD
    rcases hw with ⟨rfl, f1933_0, f1933_1, f1933_2⟩ | ⟨rfl, f1933_0, f1933_1, f1933_2⟩ | ⟨rfl, f1933_0, f1933_1⟩ | ⟨rfl, f1933_0, f1933_1⟩
    · refine lv_istore (lv' := [(6, .int 0), (5, .int 0), (4, .int 0), (3, .ref o), (2, .ref h2), (1, .ref h1), (0, .ref b)]) hx hb dL_law_1936 hl (by decide) rfl (fun ls hl => ?_)
      refine lv_aload_n hx hb dL_law_1938 rfl (lv_at hl 4 rfl) ?_
      have hPc := hP.sub (ws' := [(h2, .inr (12, fM w1933))]) [1] rfl
      have hDc := hD.sub (ws' := [(h2, .inr (12, fM w1933))]) [1] (by decide) rfl
      have hKc := hK.sub (tys' := []) [] rfl
      have hFc := va_free (wc := [(h2, .inr (12, fM w1933))]) hD hS hA [1] rfl
      refine va_calli (va_runV (As := []) (rest := []) ⟨hx, hb, hml, hown, hts⟩ (p_X12_thrown l dC dI h2 w1933 0 (f1933_2) H.size) (cwV 0 hts glaw35_2 rfl rfl rfl (by decide +kernel) ⟨by decide +kernel, by decide +kernel⟩) ⟨fun a U g mk q => by obtain ⟨q0, q1, qP, qK, qD⟩ := q; exact ⟨q0, q1, qP, va_K.moved (u := U) (U := U.calling g mk a) (Vm.Alike.refl U.vm) qK, qD⟩, va_recv hKc hPc (ci := 12) (q0 := 0) rfl rfl, fun U hU9 hW => ⟨rfl, by rw [hU9], by rw [hU9]; exact hPc, va_K.moved hW.alike hKc, hDc.weaken (fun _ _ _ _ => trivial)⟩⟩ rfl rfl hl.1 rfl (lv_room (Nat.le_of_ble_eq_true rfl)) dL_law_1939 ⟨by decide +kernel, by decide +kernel⟩) hS (fun q _ h => hFc q h) hFc (fun r1939 u t H1 locs ht hvm hw hB hz1 hk1 hS => ?_)
      obtain ⟨hP1, hK1, hD1⟩ := hB
      rw [ht] at hP1
      have hK1 := va_K.moved hvm.symm hK1
      obtain ⟨hP, hD⟩ := va_join (wr := [(o, .inl (kO, 1, .inr (.inl go1909)))]) (w1 := []) hP hD [1] [0] rfl rfl (by decide) (by decide) hk1 hFc hP1 hD1
      generalize H1 = H at hP hS ⊢
      have hP : va_P (dC, dI) vwCl [(o, .inl (kO, 1, .inr (.inl go1909)))] H := hP
      have hD : va_D A [(o, .inl (kO, 1, .inr (.inl go1909)))] := hD
      obtain rfl := hw
      refine lv_iload hx hb dL_law_1942 (lv_at hl 1 rfl) ?_
      refine lv_icmp_eq (tgt := 1949) hx hb dL_law_1944 (by decide) (fun _ => ?_) (fun c9 => absurd (by decide) c9)
      refine lv_iload hx hb dL_law_1949 (lv_at hl 1 rfl) ?_
      refine lv_if_ne (tgt := 1966) hx hb dL_law_1951 (by decide) (fun c9 => absurd c9 (by decide)) (fun _ => ?_)
      refine lv_aload_n hx hb dL_law_1954 rfl (lv_at hl 3 rfl) ?_
      refine lv_iconst (v := 0) hx hb dL_law_1955 (by decide) ?_
      refine va_lald hx hb hK hP 0 1 rfl rfl (show ¬ ((0 : Int32) < 0 ∨ 1 ≤ (0 : Int32).toNatClampNeg) by decide) dL_law_1956 ?_
      refine lv_topl (fun y13 hy13 => ?_)
      obtain rfl : 0 = y13 := (hy13.trans (f1909_2)).symm
      refine lv_iload hx hb dL_law_1957 (lv_at hl 0 rfl) ?_
      refine lv_i2l hx hb dL_law_1959 rfl ?_
      refine lv_topl (fun y14 hy14 => ?_)
      obtain rfl : 0 = y14 := (hy14.trans (by decide)).symm
      refine W.lcmp hx hb dL_law_1960 ?_
      refine lv_topi (fun y15 hy15 => ?_)
      obtain rfl : 0 = y15 := (hy15.trans (by decide)).symm
      refine lv_if_eq (tgt := 1966) hx hb dL_law_1961 (by decide) (fun _ => ?_) (fun c9 => absurd (by decide) c9)
      refine lv_goto (tgt := 2131) hx hb dL_law_1966 (by decide) ?_
      refine lv_iinc (v := 6) (lv' := [(4, .int 6), (6, .int 0), (5, .int 0), (3, .ref o), (2, .ref h2), (1, .ref h1), (0, .ref b)]) hx hb dL_law_2131 hl (k := 2) rfl (by decide) (by decide) rfl (fun ls hl => ?_)
      refine lv_goto (tgt := 23) hx hb dL_law_2134 (by decide) ?_
      refine lv_iload hx hb dL_law_23 (lv_at hl 0 rfl) ?_
      refine lv_aload_n hx hb dL_law_25 rfl (lv_at hl 6 rfl) ?_
      refine va_slen hx hb hX hbl hbA hS dL_law_26 ?_
      refine lv_topi (fun y16 hy16 => ?_)
      obtain rfl : 6 = y16 := (hy16.trans (rfl)).symm
      refine lv_bipush (v := 6) hx hb dL_law_27 (by decide) ?_
      refine lv_isub hx hb dL_law_29 ?_
      refine lv_topi (fun y17 hy17 => ?_)
      obtain rfl : 0 = y17 := (hy17.trans (by decide)).symm
      refine lv_icmp_gt (tgt := 2137) hx hb dL_law_30 (by decide) (fun _ => ?_) (fun c9 => absurd (by decide) c9)
      refine lv_iconst (v := 1) hx hb dL_law_2137 (by decide) ?_
      refine W.widen (k := 600002) (n := 7302232) (by decide +kernel) (by decide +kernel) ?_
      refine va_forget (fun q hq => hA2 _ (hS.2.2 q hq)) ?_
      exact lw_ret hx hb hr hlocks dL_law_2138
    · refine lv_istore (lv' := [(6, .int (-1)), (5, .int 0), (4, .int 0), (3, .ref o), (2, .ref h2), (1, .ref h1), (0, .ref b)]) hx hb dL_law_1936 hl (by decide) rfl (fun ls hl => ?_)
      refine lv_aload_n hx hb dL_law_1938 rfl (lv_at hl 4 rfl) ?_
      have hPc := hP.sub (ws' := [(h2, .inr (12, fM w1933))]) [1] rfl
      have hDc := hD.sub (ws' := [(h2, .inr (12, fM w1933))]) [1] (by decide) rfl
      have hKc := hK.sub (tys' := []) [] rfl
      have hFc := va_free (wc := [(h2, .inr (12, fM w1933))]) hD hS hA [1] rfl
      refine va_calli (va_runV (As := []) (rest := []) ⟨hx, hb, hml, hown, hts⟩ (p_X12_thrown l dC dI h2 w1933 0 (f1933_2) H.size) (cwV 0 hts glaw35_2 rfl rfl rfl (by decide +kernel) ⟨by decide +kernel, by decide +kernel⟩) ⟨fun a U g mk q => by obtain ⟨q0, q1, qP, qK, qD⟩ := q; exact ⟨q0, q1, qP, va_K.moved (u := U) (U := U.calling g mk a) (Vm.Alike.refl U.vm) qK, qD⟩, va_recv hKc hPc (ci := 12) (q0 := 0) rfl rfl, fun U hU9 hW => ⟨rfl, by rw [hU9], by rw [hU9]; exact hPc, va_K.moved hW.alike hKc, hDc.weaken (fun _ _ _ _ => trivial)⟩⟩ rfl rfl hl.1 rfl (lv_room (Nat.le_of_ble_eq_true rfl)) dL_law_1939 ⟨by decide +kernel, by decide +kernel⟩) hS (fun q _ h => hFc q h) hFc (fun r1939_1 u t H1 locs ht hvm hw hB hz1 hk1 hS => ?_)
      obtain ⟨hP1, hK1, hD1⟩ := hB
      rw [ht] at hP1
      have hK1 := va_K.moved hvm.symm hK1
      obtain ⟨hP, hD⟩ := va_join (wr := [(o, .inl (kO, 1, .inr (.inl go1909)))]) (w1 := []) hP hD [1] [0] rfl rfl (by decide) (by decide) hk1 hFc hP1 hD1
      generalize H1 = H at hP hS ⊢
      have hP : va_P (dC, dI) vwCl [(o, .inl (kO, 1, .inr (.inl go1909)))] H := hP
      have hD : va_D A [(o, .inl (kO, 1, .inr (.inl go1909)))] := hD
      obtain rfl := hw
      refine lv_iload hx hb dL_law_1942 (lv_at hl 1 rfl) ?_
      refine lv_icmp_eq (tgt := 1949) hx hb dL_law_1944 (by decide) (fun _ => ?_) (fun c9 => absurd (by decide) c9)
      refine lv_iload hx hb dL_law_1949 (lv_at hl 1 rfl) ?_
      refine lv_if_ne (tgt := 1966) hx hb dL_law_1951 (by decide) (fun c9 => absurd c9 (by decide)) (fun _ => ?_)
      refine lv_aload_n hx hb dL_law_1954 rfl (lv_at hl 3 rfl) ?_
      refine lv_iconst (v := 0) hx hb dL_law_1955 (by decide) ?_
      refine va_lald hx hb hK hP 0 1 rfl rfl (show ¬ ((0 : Int32) < 0 ∨ 1 ≤ (0 : Int32).toNatClampNeg) by decide) dL_law_1956 ?_
      refine lv_topl (fun y18 hy18 => ?_)
      obtain rfl : 0 = y18 := (hy18.trans (f1909_2)).symm
      refine lv_iload hx hb dL_law_1957 (lv_at hl 0 rfl) ?_
      refine lv_i2l hx hb dL_law_1959 rfl ?_
      refine lv_topl (fun y19 hy19 => ?_)
      obtain rfl : (-1) = y19 := (hy19.trans (by decide)).symm
      refine W.lcmp hx hb dL_law_1960 ?_
      refine lv_topi (fun y20 hy20 => ?_)
      obtain rfl : 1 = y20 := (hy20.trans (by decide)).symm
      refine lv_if_eq (tgt := 1966) hx hb dL_law_1961 (by decide) (fun c9 => absurd c9 (by decide)) (fun _ => ?_)
      refine lv_iconst (v := 0) hx hb dL_law_1964 (by decide) ?_
      refine W.widen (k := 600002) (n := 7302232) (by decide +kernel) (by decide +kernel) ?_
      exact False.elim (by omega)
    · refine lv_istore (lv' := [(6, .int 0), (5, .int 0), (4, .int 0), (3, .ref o), (2, .ref h2), (1, .ref h1), (0, .ref b)]) hx hb dL_law_1936 hl (by decide) rfl (fun ls hl => ?_)
      refine lv_aload_n hx hb dL_law_1938 rfl (lv_at hl 4 rfl) ?_
      have hPc := hP.sub (ws' := [(h2, .inr (12, fM w1933))]) [1] rfl
      have hDc := hD.sub (ws' := [(h2, .inr (12, fM w1933))]) [1] (by decide) rfl
      have hKc := hK.sub (tys' := []) [] rfl
      have hFc := va_free (wc := [(h2, .inr (12, fM w1933))]) hD hS hA [1] rfl
      refine va_calli (va_runV (As := []) (rest := []) ⟨hx, hb, hml, hown, hts⟩ (p_X12_thrown l dC dI h2 w1933 1 (f1933_1) H.size) (cwV 0 hts glaw35_2 rfl rfl rfl (by decide +kernel) ⟨by decide +kernel, by decide +kernel⟩) ⟨fun a U g mk q => by obtain ⟨q0, q1, qP, qK, qD⟩ := q; exact ⟨q0, q1, qP, va_K.moved (u := U) (U := U.calling g mk a) (Vm.Alike.refl U.vm) qK, qD⟩, va_recv hKc hPc (ci := 12) (q0 := 0) rfl rfl, fun U hU9 hW => ⟨rfl, by rw [hU9], by rw [hU9]; exact hPc, va_K.moved hW.alike hKc, hDc.weaken (fun _ _ _ _ => trivial)⟩⟩ rfl rfl hl.1 rfl (lv_room (Nat.le_of_ble_eq_true rfl)) dL_law_1939 ⟨by decide +kernel, by decide +kernel⟩) hS (fun q _ h => hFc q h) hFc (fun r1939_2 u t H1 locs ht hvm hw hB hz1 hk1 hS => ?_)
      obtain ⟨hP1, hK1, hD1⟩ := hB
      rw [ht] at hP1
      have hK1 := va_K.moved hvm.symm hK1
      obtain ⟨hP, hD⟩ := va_join (wr := [(o, .inl (kO, 1, .inr (.inl go1909)))]) (w1 := []) hP hD [1] [0] rfl rfl (by decide) (by decide) hk1 hFc hP1 hD1
      generalize H1 = H at hP hS ⊢
      have hP : va_P (dC, dI) vwCl [(o, .inl (kO, 1, .inr (.inl go1909)))] H := hP
      have hD : va_D A [(o, .inl (kO, 1, .inr (.inl go1909)))] := hD
      obtain rfl := hw
      refine lv_iload hx hb dL_law_1942 (lv_at hl 1 rfl) ?_
      refine lv_icmp_eq (tgt := 1949) hx hb dL_law_1944 (by decide) (fun c9 => absurd c9 (by decide)) (fun _ => ?_)
      refine lv_iconst (v := 0) hx hb dL_law_1947 (by decide) ?_
      refine W.widen (k := 600002) (n := 7302232) (by decide +kernel) (by decide +kernel) ?_
      exact False.elim (by omega)
    · refine lv_istore (lv' := [(6, .int 0), (5, .int 0), (4, .int 0), (3, .ref o), (2, .ref h2), (1, .ref h1), (0, .ref b)]) hx hb dL_law_1936 hl (by decide) rfl (fun ls hl => ?_)
      refine lv_aload_n hx hb dL_law_1938 rfl (lv_at hl 4 rfl) ?_
      have hPc := hP.sub (ws' := [(h2, .inr (12, fM w1933))]) [1] rfl
      have hDc := hD.sub (ws' := [(h2, .inr (12, fM w1933))]) [1] (by decide) rfl
      have hKc := hK.sub (tys' := []) [] rfl
      have hFc := va_free (wc := [(h2, .inr (12, fM w1933))]) hD hS hA [1] rfl
      refine va_calli (va_runV (As := []) (rest := []) ⟨hx, hb, hml, hown, hts⟩ (p_X12_thrown l dC dI h2 w1933 2 (f1933_1) H.size) (cwV 0 hts glaw35_2 rfl rfl rfl (by decide +kernel) ⟨by decide +kernel, by decide +kernel⟩) ⟨fun a U g mk q => by obtain ⟨q0, q1, qP, qK, qD⟩ := q; exact ⟨q0, q1, qP, va_K.moved (u := U) (U := U.calling g mk a) (Vm.Alike.refl U.vm) qK, qD⟩, va_recv hKc hPc (ci := 12) (q0 := 0) rfl rfl, fun U hU9 hW => ⟨rfl, by rw [hU9], by rw [hU9]; exact hPc, va_K.moved hW.alike hKc, hDc.weaken (fun _ _ _ _ => trivial)⟩⟩ rfl rfl hl.1 rfl (lv_room (Nat.le_of_ble_eq_true rfl)) dL_law_1939 ⟨by decide +kernel, by decide +kernel⟩) hS (fun q _ h => hFc q h) hFc (fun r1939_3 u t H1 locs ht hvm hw hB hz1 hk1 hS => ?_)
      obtain ⟨hP1, hK1, hD1⟩ := hB
      rw [ht] at hP1
      have hK1 := va_K.moved hvm.symm hK1
      obtain ⟨hP, hD⟩ := va_join (wr := [(o, .inl (kO, 1, .inr (.inl go1909)))]) (w1 := []) hP hD [1] [0] rfl rfl (by decide) (by decide) hk1 hFc hP1 hD1
      generalize H1 = H at hP hS ⊢
      have hP : va_P (dC, dI) vwCl [(o, .inl (kO, 1, .inr (.inl go1909)))] H := hP
      have hD : va_D A [(o, .inl (kO, 1, .inr (.inl go1909)))] := hD
      obtain rfl := hw
      refine lv_iload hx hb dL_law_1942 (lv_at hl 1 rfl) ?_
      refine lv_icmp_eq (tgt := 1949) hx hb dL_law_1944 (by decide) (fun c9 => absurd c9 (by decide)) (fun _ => ?_)
      refine lv_iconst (v := 0) hx hb dL_law_1947 (by decide) ?_
      refine W.widen (k := 600002) (n := 7302232) (by decide +kernel) (by decide +kernel) ?_
      exact False.elim (by omega)
  · refine lv_istore (lv' := [(5, .int 0), (4, .int 0), (3, .ref o), (2, .ref h2), (1, .ref h1), (0, .ref b)]) hx hb dL_law_1912 hl (by decide) rfl (fun ls hl => ?_)
    refine lv_aload_n hx hb dL_law_1914 rfl (lv_at hl 3 rfl) ?_
    refine lv_aload_n hx hb dL_law_1915 rfl (lv_at hl 5 rfl) ?_
    refine lv_iload hx hb dL_law_1916 (lv_at hl 1 rfl) ?_
    refine lv_iconst (v := 1) hx hb dL_law_1918 (by decide) ?_
    refine lv_iadd hx hb dL_law_1919 ?_
    refine lv_topi (fun y21 hy21 => ?_)
    obtain rfl : 1 = y21 := (hy21.trans (by decide)).symm
    refine va_sld hx hb hX hbl hbA hS (show ¬ ((1 : Int32) < 0 ∨ 6 ≤ (1 : Int32).toNatClampNeg) by decide) dL_law_1920 ?_
    refine lv_topi (fun y22 hy22 => ?_)
    obtain rfl : (xs 1) = y22 := (hy22.trans (rfl)).symm
    refine lv_aload_n hx hb dL_law_1921 rfl (lv_at hl 5 rfl) ?_
    refine lv_iload hx hb dL_law_1922 (lv_at hl 1 rfl) ?_
    refine lv_iconst (v := 2) hx hb dL_law_1924 (by decide) ?_
    refine lv_iadd hx hb dL_law_1925 ?_
    refine lv_topi (fun y23 hy23 => ?_)
    obtain rfl : 2 = y23 := (hy23.trans (by decide)).symm
    refine va_sld hx hb hX hbl hbA hS (show ¬ ((2 : Int32) < 0 ∨ 6 ≤ (2 : Int32).toNatClampNeg) by decide) dL_law_1926 ?_
    refine lv_topi (fun y24 hy24 => ?_)
    obtain rfl : (xs 2) = y24 := (hy24.trans (rfl)).symm
    refine lv_aload_n hx hb dL_law_1927 rfl (lv_at hl 5 rfl) ?_
    refine lv_iload hx hb dL_law_1928 (lv_at hl 1 rfl) ?_
    refine lv_iconst (v := 3) hx hb dL_law_1930 (by decide) ?_
    refine lv_iadd hx hb dL_law_1931 ?_
    refine lv_topi (fun y25 hy25 => ?_)
    obtain rfl : 3 = y25 := (hy25.trans (by decide)).symm
    refine va_sld hx hb hX hbl hbA hS (show ¬ ((3 : Int32) < 0 ∨ 6 ≤ (3 : Int32).toNatClampNeg) by decide) dL_law_1932 ?_
    refine lv_topi (fun y26 hy26 => ?_)
    obtain rfl : (xs 3) = y26 := (hy26.trans (rfl)).symm
    have hPc := hP.sub (ws' := [(h2, .inr (12, fM (vM av))), ((av 100), .inl ((kv 100), 12, .inl (fun _ => 0)))]) [0, 1] rfl
    have hDc := hD.sub (ws' := [(h2, .inr (12, fM (vM av))), ((av 100), .inl ((kv 100), 12, .inl (fun _ => 0)))]) [0, 1] (by decide) rfl
    have hKc := hK.sub (tys' := [((kv 100), .int)]) [0] rfl
    have hFc := va_free (wc := [(h2, .inr (12, fM (vM av))), ((av 100), .inl ((kv 100), 12, .inl (fun _ => 0)))]) hD hS hA [0, 1] rfl
    refine va_calli (va_runV (As := [.int (xs 1), .int (xs 2), .int (xs 3)]) (rest := []) ⟨hx, hb, hml, hown, hts⟩ (p_X12_cheapest l dC dI h2 (vM av) (rfl) (av 100) (rfl) (kv 100) (fun _ => 0) (xs 1) (xs 2) (xs 3) H.size) (cwV 3 hts glaw35_1 rfl rfl rfl (by decide +kernel) ⟨by decide +kernel, by decide +kernel⟩) ⟨fun a U g mk q => by obtain ⟨q0, q1, qP, qK, qD⟩ := q; exact ⟨q0, q1, qP, va_K.moved (u := U) (U := U.calling g mk a) (Vm.Alike.refl U.vm) qK, qD⟩, va_recv hKc hPc (ci := 12) (q0 := 0) rfl rfl, fun U hU9 hW => ⟨rfl, by rw [hU9], by rw [hU9]; exact hPc, va_K.moved hW.alike hKc, hDc.weaken (fun _ _ _ _ => trivial)⟩⟩ rfl rfl hl.1 rfl (lv_room (Nat.le_of_ble_eq_true rfl)) dL_law_1933 ⟨by decide +kernel, by decide +kernel⟩) hS (fun q _ h => hFc q h) hFc (fun r1933_1 u t H1 locs ht hvm hw hB hz1 hk1 hS => ?_)
    obtain ⟨w1933_1, hwit1933_1⟩ : ∃ w9, w9 = u := ⟨u, rfl⟩
    subst hwit1933_1
    obtain ⟨hP1, hK1, hD1⟩ := hB
    rw [ht] at hP1
    have hK1 := va_K.moved hvm.symm hK1
    obtain ⟨hP, hD⟩ := va_join (wr := [(o, .inl (kO, 1, .inr (.inl go1909)))]) (w1 := [(h2, .inr (12, fM w1933_1))]) hP hD [0, 1] [2] rfl rfl (by decide) (by decide) hk1 hFc hP1 hD1
    generalize H1 = H at hP hS ⊢
    have hP : va_P (dC, dI) vwCl [(o, .inl (kO, 1, .inr (.inl go1909))), (h2, .inr (12, fM w1933_1))] H := hP
    have hD : va_D A [(o, .inl (kO, 1, .inr (.inl go1909))), (h2, .inr (12, fM w1933_1))] := hD
    rcases hw with ⟨rfl, f1933_1_0, f1933_1_1, f1933_1_2⟩ | ⟨rfl, f1933_1_0, f1933_1_1, f1933_1_2⟩ | ⟨rfl, f1933_1_0, f1933_1_1⟩ | ⟨rfl, f1933_1_0, f1933_1_1⟩
    · refine lv_istore (lv' := [(6, .int 0), (5, .int 0), (4, .int 0), (3, .ref o), (2, .ref h2), (1, .ref h1), (0, .ref b)]) hx hb dL_law_1936 hl (by decide) rfl (fun ls hl => ?_)
      refine lv_aload_n hx hb dL_law_1938 rfl (lv_at hl 4 rfl) ?_
      have hPc := hP.sub (ws' := [(h2, .inr (12, fM w1933_1))]) [1] rfl
      have hDc := hD.sub (ws' := [(h2, .inr (12, fM w1933_1))]) [1] (by decide) rfl
      have hKc := hK.sub (tys' := []) [] rfl
      have hFc := va_free (wc := [(h2, .inr (12, fM w1933_1))]) hD hS hA [1] rfl
      refine va_calli (va_runV (As := []) (rest := []) ⟨hx, hb, hml, hown, hts⟩ (p_X12_thrown l dC dI h2 w1933_1 0 (f1933_1_2) H.size) (cwV 0 hts glaw35_2 rfl rfl rfl (by decide +kernel) ⟨by decide +kernel, by decide +kernel⟩) ⟨fun a U g mk q => by obtain ⟨q0, q1, qP, qK, qD⟩ := q; exact ⟨q0, q1, qP, va_K.moved (u := U) (U := U.calling g mk a) (Vm.Alike.refl U.vm) qK, qD⟩, va_recv hKc hPc (ci := 12) (q0 := 0) rfl rfl, fun U hU9 hW => ⟨rfl, by rw [hU9], by rw [hU9]; exact hPc, va_K.moved hW.alike hKc, hDc.weaken (fun _ _ _ _ => trivial)⟩⟩ rfl rfl hl.1 rfl (lv_room (Nat.le_of_ble_eq_true rfl)) dL_law_1939 ⟨by decide +kernel, by decide +kernel⟩) hS (fun q _ h => hFc q h) hFc (fun r1939_4 u t H1 locs ht hvm hw hB hz1 hk1 hS => ?_)
      obtain ⟨hP1, hK1, hD1⟩ := hB
      rw [ht] at hP1
      have hK1 := va_K.moved hvm.symm hK1
      obtain ⟨hP, hD⟩ := va_join (wr := [(o, .inl (kO, 1, .inr (.inl go1909)))]) (w1 := []) hP hD [1] [0] rfl rfl (by decide) (by decide) hk1 hFc hP1 hD1
      generalize H1 = H at hP hS ⊢
      have hP : va_P (dC, dI) vwCl [(o, .inl (kO, 1, .inr (.inl go1909)))] H := hP
      have hD : va_D A [(o, .inl (kO, 1, .inr (.inl go1909)))] := hD
      obtain rfl := hw
      refine lv_iload hx hb dL_law_1942 (lv_at hl 1 rfl) ?_
      refine lv_icmp_eq (tgt := 1949) hx hb dL_law_1944 (by decide) (fun _ => ?_) (fun c9 => absurd (by decide) c9)
      refine lv_iload hx hb dL_law_1949 (lv_at hl 1 rfl) ?_
      refine lv_if_ne (tgt := 1966) hx hb dL_law_1951 (by decide) (fun c9 => absurd c9 (by decide)) (fun _ => ?_)
      refine lv_aload_n hx hb dL_law_1954 rfl (lv_at hl 3 rfl) ?_
      refine lv_iconst (v := 0) hx hb dL_law_1955 (by decide) ?_
      refine va_lald hx hb hK hP 0 1 rfl rfl (show ¬ ((0 : Int32) < 0 ∨ 1 ≤ (0 : Int32).toNatClampNeg) by decide) dL_law_1956 ?_
      refine lv_topl (fun y27 hy27 => ?_)
      obtain rfl : (-1) = y27 := (hy27.trans (f1909_2)).symm
      refine lv_iload hx hb dL_law_1957 (lv_at hl 0 rfl) ?_
      refine lv_i2l hx hb dL_law_1959 rfl ?_
      refine lv_topl (fun y28 hy28 => ?_)
      obtain rfl : 0 = y28 := (hy28.trans (by decide)).symm
      refine W.lcmp hx hb dL_law_1960 ?_
      refine lv_topi (fun y29 hy29 => ?_)
      obtain rfl : (-1) = y29 := (hy29.trans (by decide)).symm
      refine lv_if_eq (tgt := 1966) hx hb dL_law_1961 (by decide) (fun c9 => absurd c9 (by decide)) (fun _ => ?_)
      refine lv_iconst (v := 0) hx hb dL_law_1964 (by decide) ?_
      refine W.widen (k := 600002) (n := 7302232) (by decide +kernel) (by decide +kernel) ?_
      exact False.elim (by omega)
    · refine lv_istore (lv' := [(6, .int (-1)), (5, .int 0), (4, .int 0), (3, .ref o), (2, .ref h2), (1, .ref h1), (0, .ref b)]) hx hb dL_law_1936 hl (by decide) rfl (fun ls hl => ?_)
      refine lv_aload_n hx hb dL_law_1938 rfl (lv_at hl 4 rfl) ?_
      have hPc := hP.sub (ws' := [(h2, .inr (12, fM w1933_1))]) [1] rfl
      have hDc := hD.sub (ws' := [(h2, .inr (12, fM w1933_1))]) [1] (by decide) rfl
      have hKc := hK.sub (tys' := []) [] rfl
      have hFc := va_free (wc := [(h2, .inr (12, fM w1933_1))]) hD hS hA [1] rfl
      refine va_calli (va_runV (As := []) (rest := []) ⟨hx, hb, hml, hown, hts⟩ (p_X12_thrown l dC dI h2 w1933_1 0 (f1933_1_2) H.size) (cwV 0 hts glaw35_2 rfl rfl rfl (by decide +kernel) ⟨by decide +kernel, by decide +kernel⟩) ⟨fun a U g mk q => by obtain ⟨q0, q1, qP, qK, qD⟩ := q; exact ⟨q0, q1, qP, va_K.moved (u := U) (U := U.calling g mk a) (Vm.Alike.refl U.vm) qK, qD⟩, va_recv hKc hPc (ci := 12) (q0 := 0) rfl rfl, fun U hU9 hW => ⟨rfl, by rw [hU9], by rw [hU9]; exact hPc, va_K.moved hW.alike hKc, hDc.weaken (fun _ _ _ _ => trivial)⟩⟩ rfl rfl hl.1 rfl (lv_room (Nat.le_of_ble_eq_true rfl)) dL_law_1939 ⟨by decide +kernel, by decide +kernel⟩) hS (fun q _ h => hFc q h) hFc (fun r1939_5 u t H1 locs ht hvm hw hB hz1 hk1 hS => ?_)
      obtain ⟨hP1, hK1, hD1⟩ := hB
      rw [ht] at hP1
      have hK1 := va_K.moved hvm.symm hK1
      obtain ⟨hP, hD⟩ := va_join (wr := [(o, .inl (kO, 1, .inr (.inl go1909)))]) (w1 := []) hP hD [1] [0] rfl rfl (by decide) (by decide) hk1 hFc hP1 hD1
      generalize H1 = H at hP hS ⊢
      have hP : va_P (dC, dI) vwCl [(o, .inl (kO, 1, .inr (.inl go1909)))] H := hP
      have hD : va_D A [(o, .inl (kO, 1, .inr (.inl go1909)))] := hD
      obtain rfl := hw
      refine lv_iload hx hb dL_law_1942 (lv_at hl 1 rfl) ?_
      refine lv_icmp_eq (tgt := 1949) hx hb dL_law_1944 (by decide) (fun _ => ?_) (fun c9 => absurd (by decide) c9)
      refine lv_iload hx hb dL_law_1949 (lv_at hl 1 rfl) ?_
      refine lv_if_ne (tgt := 1966) hx hb dL_law_1951 (by decide) (fun c9 => absurd c9 (by decide)) (fun _ => ?_)
      refine lv_aload_n hx hb dL_law_1954 rfl (lv_at hl 3 rfl) ?_
      refine lv_iconst (v := 0) hx hb dL_law_1955 (by decide) ?_
      refine va_lald hx hb hK hP 0 1 rfl rfl (show ¬ ((0 : Int32) < 0 ∨ 1 ≤ (0 : Int32).toNatClampNeg) by decide) dL_law_1956 ?_
      refine lv_topl (fun y30 hy30 => ?_)
      obtain rfl : (-1) = y30 := (hy30.trans (f1909_2)).symm
      refine lv_iload hx hb dL_law_1957 (lv_at hl 0 rfl) ?_
      refine lv_i2l hx hb dL_law_1959 rfl ?_
      refine lv_topl (fun y31 hy31 => ?_)
      obtain rfl : (-1) = y31 := (hy31.trans (by decide)).symm
      refine W.lcmp hx hb dL_law_1960 ?_
      refine lv_topi (fun y32 hy32 => ?_)
      obtain rfl : 0 = y32 := (hy32.trans (by decide)).symm
      refine lv_if_eq (tgt := 1966) hx hb dL_law_1961 (by decide) (fun _ => ?_) (fun c9 => absurd (by decide) c9)
      refine lv_goto (tgt := 2131) hx hb dL_law_1966 (by decide) ?_
      refine lv_iinc (v := 6) (lv' := [(4, .int 6), (6, .int (-1)), (5, .int 0), (3, .ref o), (2, .ref h2), (1, .ref h1), (0, .ref b)]) hx hb dL_law_2131 hl (k := 2) rfl (by decide) (by decide) rfl (fun ls hl => ?_)
      refine lv_goto (tgt := 23) hx hb dL_law_2134 (by decide) ?_
      refine lv_iload hx hb dL_law_23 (lv_at hl 0 rfl) ?_
      refine lv_aload_n hx hb dL_law_25 rfl (lv_at hl 6 rfl) ?_
      refine va_slen hx hb hX hbl hbA hS dL_law_26 ?_
      refine lv_topi (fun y33 hy33 => ?_)
      obtain rfl : 6 = y33 := (hy33.trans (rfl)).symm
      refine lv_bipush (v := 6) hx hb dL_law_27 (by decide) ?_
      refine lv_isub hx hb dL_law_29 ?_
      refine lv_topi (fun y34 hy34 => ?_)
      obtain rfl : 0 = y34 := (hy34.trans (by decide)).symm
      refine lv_icmp_gt (tgt := 2137) hx hb dL_law_30 (by decide) (fun _ => ?_) (fun c9 => absurd (by decide) c9)
      refine lv_iconst (v := 1) hx hb dL_law_2137 (by decide) ?_
      refine W.widen (k := 600002) (n := 7302232) (by decide +kernel) (by decide +kernel) ?_
      refine va_forget (fun q hq => hA2 _ (hS.2.2 q hq)) ?_
      exact lw_ret hx hb hr hlocks dL_law_2138
    · refine lv_istore (lv' := [(6, .int 0), (5, .int 0), (4, .int 0), (3, .ref o), (2, .ref h2), (1, .ref h1), (0, .ref b)]) hx hb dL_law_1936 hl (by decide) rfl (fun ls hl => ?_)
      refine lv_aload_n hx hb dL_law_1938 rfl (lv_at hl 4 rfl) ?_
      have hPc := hP.sub (ws' := [(h2, .inr (12, fM w1933_1))]) [1] rfl
      have hDc := hD.sub (ws' := [(h2, .inr (12, fM w1933_1))]) [1] (by decide) rfl
      have hKc := hK.sub (tys' := []) [] rfl
      have hFc := va_free (wc := [(h2, .inr (12, fM w1933_1))]) hD hS hA [1] rfl
      refine va_calli (va_runV (As := []) (rest := []) ⟨hx, hb, hml, hown, hts⟩ (p_X12_thrown l dC dI h2 w1933_1 1 (f1933_1_1) H.size) (cwV 0 hts glaw35_2 rfl rfl rfl (by decide +kernel) ⟨by decide +kernel, by decide +kernel⟩) ⟨fun a U g mk q => by obtain ⟨q0, q1, qP, qK, qD⟩ := q; exact ⟨q0, q1, qP, va_K.moved (u := U) (U := U.calling g mk a) (Vm.Alike.refl U.vm) qK, qD⟩, va_recv hKc hPc (ci := 12) (q0 := 0) rfl rfl, fun U hU9 hW => ⟨rfl, by rw [hU9], by rw [hU9]; exact hPc, va_K.moved hW.alike hKc, hDc.weaken (fun _ _ _ _ => trivial)⟩⟩ rfl rfl hl.1 rfl (lv_room (Nat.le_of_ble_eq_true rfl)) dL_law_1939 ⟨by decide +kernel, by decide +kernel⟩) hS (fun q _ h => hFc q h) hFc (fun r1939_6 u t H1 locs ht hvm hw hB hz1 hk1 hS => ?_)
      obtain ⟨hP1, hK1, hD1⟩ := hB
      rw [ht] at hP1
      have hK1 := va_K.moved hvm.symm hK1
      obtain ⟨hP, hD⟩ := va_join (wr := [(o, .inl (kO, 1, .inr (.inl go1909)))]) (w1 := []) hP hD [1] [0] rfl rfl (by decide) (by decide) hk1 hFc hP1 hD1
      generalize H1 = H at hP hS ⊢
      have hP : va_P (dC, dI) vwCl [(o, .inl (kO, 1, .inr (.inl go1909)))] H := hP
      have hD : va_D A [(o, .inl (kO, 1, .inr (.inl go1909)))] := hD
      obtain rfl := hw
      refine lv_iload hx hb dL_law_1942 (lv_at hl 1 rfl) ?_
      refine lv_icmp_eq (tgt := 1949) hx hb dL_law_1944 (by decide) (fun c9 => absurd c9 (by decide)) (fun _ => ?_)
      refine lv_iconst (v := 0) hx hb dL_law_1947 (by decide) ?_
      refine W.widen (k := 600002) (n := 7302232) (by decide +kernel) (by decide +kernel) ?_
      exact False.elim (by omega)
    · refine lv_istore (lv' := [(6, .int 0), (5, .int 0), (4, .int 0), (3, .ref o), (2, .ref h2), (1, .ref h1), (0, .ref b)]) hx hb dL_law_1936 hl (by decide) rfl (fun ls hl => ?_)
      refine lv_aload_n hx hb dL_law_1938 rfl (lv_at hl 4 rfl) ?_
      have hPc := hP.sub (ws' := [(h2, .inr (12, fM w1933_1))]) [1] rfl
      have hDc := hD.sub (ws' := [(h2, .inr (12, fM w1933_1))]) [1] (by decide) rfl
      have hKc := hK.sub (tys' := []) [] rfl
      have hFc := va_free (wc := [(h2, .inr (12, fM w1933_1))]) hD hS hA [1] rfl
      refine va_calli (va_runV (As := []) (rest := []) ⟨hx, hb, hml, hown, hts⟩ (p_X12_thrown l dC dI h2 w1933_1 2 (f1933_1_1) H.size) (cwV 0 hts glaw35_2 rfl rfl rfl (by decide +kernel) ⟨by decide +kernel, by decide +kernel⟩) ⟨fun a U g mk q => by obtain ⟨q0, q1, qP, qK, qD⟩ := q; exact ⟨q0, q1, qP, va_K.moved (u := U) (U := U.calling g mk a) (Vm.Alike.refl U.vm) qK, qD⟩, va_recv hKc hPc (ci := 12) (q0 := 0) rfl rfl, fun U hU9 hW => ⟨rfl, by rw [hU9], by rw [hU9]; exact hPc, va_K.moved hW.alike hKc, hDc.weaken (fun _ _ _ _ => trivial)⟩⟩ rfl rfl hl.1 rfl (lv_room (Nat.le_of_ble_eq_true rfl)) dL_law_1939 ⟨by decide +kernel, by decide +kernel⟩) hS (fun q _ h => hFc q h) hFc (fun r1939_7 u t H1 locs ht hvm hw hB hz1 hk1 hS => ?_)
      obtain ⟨hP1, hK1, hD1⟩ := hB
      rw [ht] at hP1
      have hK1 := va_K.moved hvm.symm hK1
      obtain ⟨hP, hD⟩ := va_join (wr := [(o, .inl (kO, 1, .inr (.inl go1909)))]) (w1 := []) hP hD [1] [0] rfl rfl (by decide) (by decide) hk1 hFc hP1 hD1
      generalize H1 = H at hP hS ⊢
      have hP : va_P (dC, dI) vwCl [(o, .inl (kO, 1, .inr (.inl go1909)))] H := hP
      have hD : va_D A [(o, .inl (kO, 1, .inr (.inl go1909)))] := hD
      obtain rfl := hw
      refine lv_iload hx hb dL_law_1942 (lv_at hl 1 rfl) ?_
      refine lv_icmp_eq (tgt := 1949) hx hb dL_law_1944 (by decide) (fun c9 => absurd c9 (by decide)) (fun _ => ?_)
      refine lv_iconst (v := 0) hx hb dL_law_1947 (by decide) ?_
      refine W.widen (k := 600002) (n := 7302232) (by decide +kernel) (by decide +kernel) ?_
      exact False.elim (by omega)
  · refine lv_istore (lv' := [(5, .int 1), (4, .int 0), (3, .ref o), (2, .ref h2), (1, .ref h1), (0, .ref b)]) hx hb dL_law_1912 hl (by decide) rfl (fun ls hl => ?_)
    refine lv_aload_n hx hb dL_law_1914 rfl (lv_at hl 3 rfl) ?_
    refine lv_aload_n hx hb dL_law_1915 rfl (lv_at hl 5 rfl) ?_
    refine lv_iload hx hb dL_law_1916 (lv_at hl 1 rfl) ?_
    refine lv_iconst (v := 1) hx hb dL_law_1918 (by decide) ?_
    refine lv_iadd hx hb dL_law_1919 ?_
    refine lv_topi (fun y35 hy35 => ?_)
    obtain rfl : 1 = y35 := (hy35.trans (by decide)).symm
    refine va_sld hx hb hX hbl hbA hS (show ¬ ((1 : Int32) < 0 ∨ 6 ≤ (1 : Int32).toNatClampNeg) by decide) dL_law_1920 ?_
    refine lv_topi (fun y36 hy36 => ?_)
    obtain rfl : (xs 1) = y36 := (hy36.trans (rfl)).symm
    refine lv_aload_n hx hb dL_law_1921 rfl (lv_at hl 5 rfl) ?_
    refine lv_iload hx hb dL_law_1922 (lv_at hl 1 rfl) ?_
    refine lv_iconst (v := 2) hx hb dL_law_1924 (by decide) ?_
    refine lv_iadd hx hb dL_law_1925 ?_
    refine lv_topi (fun y37 hy37 => ?_)
    obtain rfl : 2 = y37 := (hy37.trans (by decide)).symm
    refine va_sld hx hb hX hbl hbA hS (show ¬ ((2 : Int32) < 0 ∨ 6 ≤ (2 : Int32).toNatClampNeg) by decide) dL_law_1926 ?_
    refine lv_topi (fun y38 hy38 => ?_)
    obtain rfl : (xs 2) = y38 := (hy38.trans (rfl)).symm
    refine lv_aload_n hx hb dL_law_1927 rfl (lv_at hl 5 rfl) ?_
    refine lv_iload hx hb dL_law_1928 (lv_at hl 1 rfl) ?_
    refine lv_iconst (v := 3) hx hb dL_law_1930 (by decide) ?_
    refine lv_iadd hx hb dL_law_1931 ?_
    refine lv_topi (fun y39 hy39 => ?_)
    obtain rfl : 3 = y39 := (hy39.trans (by decide)).symm
    refine va_sld hx hb hX hbl hbA hS (show ¬ ((3 : Int32) < 0 ∨ 6 ≤ (3 : Int32).toNatClampNeg) by decide) dL_law_1932 ?_
    refine lv_topi (fun y40 hy40 => ?_)
    obtain rfl : (xs 3) = y40 := (hy40.trans (rfl)).symm
    have hPc := hP.sub (ws' := [(h2, .inr (12, fM (vM av))), ((av 100), .inl ((kv 100), 12, .inl (fun _ => 0)))]) [0, 1] rfl
    have hDc := hD.sub (ws' := [(h2, .inr (12, fM (vM av))), ((av 100), .inl ((kv 100), 12, .inl (fun _ => 0)))]) [0, 1] (by decide) rfl
    have hKc := hK.sub (tys' := [((kv 100), .int)]) [0] rfl
    have hFc := va_free (wc := [(h2, .inr (12, fM (vM av))), ((av 100), .inl ((kv 100), 12, .inl (fun _ => 0)))]) hD hS hA [0, 1] rfl
    refine va_calli (va_runV (As := [.int (xs 1), .int (xs 2), .int (xs 3)]) (rest := []) ⟨hx, hb, hml, hown, hts⟩ (p_X12_cheapest l dC dI h2 (vM av) (rfl) (av 100) (rfl) (kv 100) (fun _ => 0) (xs 1) (xs 2) (xs 3) H.size) (cwV 3 hts glaw35_1 rfl rfl rfl (by decide +kernel) ⟨by decide +kernel, by decide +kernel⟩) ⟨fun a U g mk q => by obtain ⟨q0, q1, qP, qK, qD⟩ := q; exact ⟨q0, q1, qP, va_K.moved (u := U) (U := U.calling g mk a) (Vm.Alike.refl U.vm) qK, qD⟩, va_recv hKc hPc (ci := 12) (q0 := 0) rfl rfl, fun U hU9 hW => ⟨rfl, by rw [hU9], by rw [hU9]; exact hPc, va_K.moved hW.alike hKc, hDc.weaken (fun _ _ _ _ => trivial)⟩⟩ rfl rfl hl.1 rfl (lv_room (Nat.le_of_ble_eq_true rfl)) dL_law_1933 ⟨by decide +kernel, by decide +kernel⟩) hS (fun q _ h => hFc q h) hFc (fun r1933_2 u t H1 locs ht hvm hw hB hz1 hk1 hS => ?_)
    obtain ⟨w1933_2, hwit1933_2⟩ : ∃ w9, w9 = u := ⟨u, rfl⟩
    subst hwit1933_2
    obtain ⟨hP1, hK1, hD1⟩ := hB
    rw [ht] at hP1
    have hK1 := va_K.moved hvm.symm hK1
    obtain ⟨hP, hD⟩ := va_join (wr := [(o, .inl (kO, 1, .inr (.inl go1909)))]) (w1 := [(h2, .inr (12, fM w1933_2))]) hP hD [0, 1] [2] rfl rfl (by decide) (by decide) hk1 hFc hP1 hD1
    generalize H1 = H at hP hS ⊢
    have hP : va_P (dC, dI) vwCl [(o, .inl (kO, 1, .inr (.inl go1909))), (h2, .inr (12, fM w1933_2))] H := hP
    have hD : va_D A [(o, .inl (kO, 1, .inr (.inl go1909))), (h2, .inr (12, fM w1933_2))] := hD
    rcases hw with ⟨rfl, f1933_2_0, f1933_2_1, f1933_2_2⟩ | ⟨rfl, f1933_2_0, f1933_2_1, f1933_2_2⟩ | ⟨rfl, f1933_2_0, f1933_2_1⟩ | ⟨rfl, f1933_2_0, f1933_2_1⟩
    · refine lv_istore (lv' := [(6, .int 0), (5, .int 1), (4, .int 0), (3, .ref o), (2, .ref h2), (1, .ref h1), (0, .ref b)]) hx hb dL_law_1936 hl (by decide) rfl (fun ls hl => ?_)
      refine lv_aload_n hx hb dL_law_1938 rfl (lv_at hl 4 rfl) ?_
      have hPc := hP.sub (ws' := [(h2, .inr (12, fM w1933_2))]) [1] rfl
      have hDc := hD.sub (ws' := [(h2, .inr (12, fM w1933_2))]) [1] (by decide) rfl
      have hKc := hK.sub (tys' := []) [] rfl
      have hFc := va_free (wc := [(h2, .inr (12, fM w1933_2))]) hD hS hA [1] rfl
      refine va_calli (va_runV (As := []) (rest := []) ⟨hx, hb, hml, hown, hts⟩ (p_X12_thrown l dC dI h2 w1933_2 0 (f1933_2_2) H.size) (cwV 0 hts glaw35_2 rfl rfl rfl (by decide +kernel) ⟨by decide +kernel, by decide +kernel⟩) ⟨fun a U g mk q => by obtain ⟨q0, q1, qP, qK, qD⟩ := q; exact ⟨q0, q1, qP, va_K.moved (u := U) (U := U.calling g mk a) (Vm.Alike.refl U.vm) qK, qD⟩, va_recv hKc hPc (ci := 12) (q0 := 0) rfl rfl, fun U hU9 hW => ⟨rfl, by rw [hU9], by rw [hU9]; exact hPc, va_K.moved hW.alike hKc, hDc.weaken (fun _ _ _ _ => trivial)⟩⟩ rfl rfl hl.1 rfl (lv_room (Nat.le_of_ble_eq_true rfl)) dL_law_1939 ⟨by decide +kernel, by decide +kernel⟩) hS (fun q _ h => hFc q h) hFc (fun r1939_8 u t H1 locs ht hvm hw hB hz1 hk1 hS => ?_)
      obtain ⟨hP1, hK1, hD1⟩ := hB
      rw [ht] at hP1
      have hK1 := va_K.moved hvm.symm hK1
      obtain ⟨hP, hD⟩ := va_join (wr := [(o, .inl (kO, 1, .inr (.inl go1909)))]) (w1 := []) hP hD [1] [0] rfl rfl (by decide) (by decide) hk1 hFc hP1 hD1
      generalize H1 = H at hP hS ⊢
      have hP : va_P (dC, dI) vwCl [(o, .inl (kO, 1, .inr (.inl go1909)))] H := hP
      have hD : va_D A [(o, .inl (kO, 1, .inr (.inl go1909)))] := hD
      obtain rfl := hw
      refine lv_iload hx hb dL_law_1942 (lv_at hl 1 rfl) ?_
      refine lv_icmp_eq (tgt := 1949) hx hb dL_law_1944 (by decide) (fun c9 => absurd c9 (by decide)) (fun _ => ?_)
      refine lv_iconst (v := 0) hx hb dL_law_1947 (by decide) ?_
      refine W.widen (k := 600002) (n := 7302232) (by decide +kernel) (by decide +kernel) ?_
      exact False.elim (by omega)
    · refine lv_istore (lv' := [(6, .int (-1)), (5, .int 1), (4, .int 0), (3, .ref o), (2, .ref h2), (1, .ref h1), (0, .ref b)]) hx hb dL_law_1936 hl (by decide) rfl (fun ls hl => ?_)
      refine lv_aload_n hx hb dL_law_1938 rfl (lv_at hl 4 rfl) ?_
      have hPc := hP.sub (ws' := [(h2, .inr (12, fM w1933_2))]) [1] rfl
      have hDc := hD.sub (ws' := [(h2, .inr (12, fM w1933_2))]) [1] (by decide) rfl
      have hKc := hK.sub (tys' := []) [] rfl
      have hFc := va_free (wc := [(h2, .inr (12, fM w1933_2))]) hD hS hA [1] rfl
      refine va_calli (va_runV (As := []) (rest := []) ⟨hx, hb, hml, hown, hts⟩ (p_X12_thrown l dC dI h2 w1933_2 0 (f1933_2_2) H.size) (cwV 0 hts glaw35_2 rfl rfl rfl (by decide +kernel) ⟨by decide +kernel, by decide +kernel⟩) ⟨fun a U g mk q => by obtain ⟨q0, q1, qP, qK, qD⟩ := q; exact ⟨q0, q1, qP, va_K.moved (u := U) (U := U.calling g mk a) (Vm.Alike.refl U.vm) qK, qD⟩, va_recv hKc hPc (ci := 12) (q0 := 0) rfl rfl, fun U hU9 hW => ⟨rfl, by rw [hU9], by rw [hU9]; exact hPc, va_K.moved hW.alike hKc, hDc.weaken (fun _ _ _ _ => trivial)⟩⟩ rfl rfl hl.1 rfl (lv_room (Nat.le_of_ble_eq_true rfl)) dL_law_1939 ⟨by decide +kernel, by decide +kernel⟩) hS (fun q _ h => hFc q h) hFc (fun r1939_9 u t H1 locs ht hvm hw hB hz1 hk1 hS => ?_)
      obtain ⟨hP1, hK1, hD1⟩ := hB
      rw [ht] at hP1
      have hK1 := va_K.moved hvm.symm hK1
      obtain ⟨hP, hD⟩ := va_join (wr := [(o, .inl (kO, 1, .inr (.inl go1909)))]) (w1 := []) hP hD [1] [0] rfl rfl (by decide) (by decide) hk1 hFc hP1 hD1
      generalize H1 = H at hP hS ⊢
      have hP : va_P (dC, dI) vwCl [(o, .inl (kO, 1, .inr (.inl go1909)))] H := hP
      have hD : va_D A [(o, .inl (kO, 1, .inr (.inl go1909)))] := hD
      obtain rfl := hw
      refine lv_iload hx hb dL_law_1942 (lv_at hl 1 rfl) ?_
      refine lv_icmp_eq (tgt := 1949) hx hb dL_law_1944 (by decide) (fun c9 => absurd c9 (by decide)) (fun _ => ?_)
      refine lv_iconst (v := 0) hx hb dL_law_1947 (by decide) ?_
      refine W.widen (k := 600002) (n := 7302232) (by decide +kernel) (by decide +kernel) ?_
      exact False.elim (by omega)
    · refine lv_istore (lv' := [(6, .int 0), (5, .int 1), (4, .int 0), (3, .ref o), (2, .ref h2), (1, .ref h1), (0, .ref b)]) hx hb dL_law_1936 hl (by decide) rfl (fun ls hl => ?_)
      refine lv_aload_n hx hb dL_law_1938 rfl (lv_at hl 4 rfl) ?_
      have hPc := hP.sub (ws' := [(h2, .inr (12, fM w1933_2))]) [1] rfl
      have hDc := hD.sub (ws' := [(h2, .inr (12, fM w1933_2))]) [1] (by decide) rfl
      have hKc := hK.sub (tys' := []) [] rfl
      have hFc := va_free (wc := [(h2, .inr (12, fM w1933_2))]) hD hS hA [1] rfl
      refine va_calli (va_runV (As := []) (rest := []) ⟨hx, hb, hml, hown, hts⟩ (p_X12_thrown l dC dI h2 w1933_2 1 (f1933_2_1) H.size) (cwV 0 hts glaw35_2 rfl rfl rfl (by decide +kernel) ⟨by decide +kernel, by decide +kernel⟩) ⟨fun a U g mk q => by obtain ⟨q0, q1, qP, qK, qD⟩ := q; exact ⟨q0, q1, qP, va_K.moved (u := U) (U := U.calling g mk a) (Vm.Alike.refl U.vm) qK, qD⟩, va_recv hKc hPc (ci := 12) (q0 := 0) rfl rfl, fun U hU9 hW => ⟨rfl, by rw [hU9], by rw [hU9]; exact hPc, va_K.moved hW.alike hKc, hDc.weaken (fun _ _ _ _ => trivial)⟩⟩ rfl rfl hl.1 rfl (lv_room (Nat.le_of_ble_eq_true rfl)) dL_law_1939 ⟨by decide +kernel, by decide +kernel⟩) hS (fun q _ h => hFc q h) hFc (fun r1939_10 u t H1 locs ht hvm hw hB hz1 hk1 hS => ?_)
      obtain ⟨hP1, hK1, hD1⟩ := hB
      rw [ht] at hP1
      have hK1 := va_K.moved hvm.symm hK1
      obtain ⟨hP, hD⟩ := va_join (wr := [(o, .inl (kO, 1, .inr (.inl go1909)))]) (w1 := []) hP hD [1] [0] rfl rfl (by decide) (by decide) hk1 hFc hP1 hD1
      generalize H1 = H at hP hS ⊢
      have hP : va_P (dC, dI) vwCl [(o, .inl (kO, 1, .inr (.inl go1909)))] H := hP
      have hD : va_D A [(o, .inl (kO, 1, .inr (.inl go1909)))] := hD
      obtain rfl := hw
      refine lv_iload hx hb dL_law_1942 (lv_at hl 1 rfl) ?_
      refine lv_icmp_eq (tgt := 1949) hx hb dL_law_1944 (by decide) (fun _ => ?_) (fun c9 => absurd (by decide) c9)
      refine lv_iload hx hb dL_law_1949 (lv_at hl 1 rfl) ?_
      refine lv_if_ne (tgt := 1966) hx hb dL_law_1951 (by decide) (fun _ => ?_) (fun c9 => absurd c9 (by decide))
      refine lv_goto (tgt := 2131) hx hb dL_law_1966 (by decide) ?_
      refine lv_iinc (v := 6) (lv' := [(4, .int 6), (6, .int 0), (5, .int 1), (3, .ref o), (2, .ref h2), (1, .ref h1), (0, .ref b)]) hx hb dL_law_2131 hl (k := 2) rfl (by decide) (by decide) rfl (fun ls hl => ?_)
      refine lv_goto (tgt := 23) hx hb dL_law_2134 (by decide) ?_
      refine lv_iload hx hb dL_law_23 (lv_at hl 0 rfl) ?_
      refine lv_aload_n hx hb dL_law_25 rfl (lv_at hl 6 rfl) ?_
      refine va_slen hx hb hX hbl hbA hS dL_law_26 ?_
      refine lv_topi (fun y41 hy41 => ?_)
      obtain rfl : 6 = y41 := (hy41.trans (rfl)).symm
      refine lv_bipush (v := 6) hx hb dL_law_27 (by decide) ?_
      refine lv_isub hx hb dL_law_29 ?_
      refine lv_topi (fun y42 hy42 => ?_)
      obtain rfl : 0 = y42 := (hy42.trans (by decide)).symm
      refine lv_icmp_gt (tgt := 2137) hx hb dL_law_30 (by decide) (fun _ => ?_) (fun c9 => absurd (by decide) c9)
      refine lv_iconst (v := 1) hx hb dL_law_2137 (by decide) ?_
      refine W.widen (k := 600002) (n := 7302232) (by decide +kernel) (by decide +kernel) ?_
      refine va_forget (fun q hq => hA2 _ (hS.2.2 q hq)) ?_
      exact lw_ret hx hb hr hlocks dL_law_2138
    · refine lv_istore (lv' := [(6, .int 0), (5, .int 1), (4, .int 0), (3, .ref o), (2, .ref h2), (1, .ref h1), (0, .ref b)]) hx hb dL_law_1936 hl (by decide) rfl (fun ls hl => ?_)
      refine lv_aload_n hx hb dL_law_1938 rfl (lv_at hl 4 rfl) ?_
      have hPc := hP.sub (ws' := [(h2, .inr (12, fM w1933_2))]) [1] rfl
      have hDc := hD.sub (ws' := [(h2, .inr (12, fM w1933_2))]) [1] (by decide) rfl
      have hKc := hK.sub (tys' := []) [] rfl
      have hFc := va_free (wc := [(h2, .inr (12, fM w1933_2))]) hD hS hA [1] rfl
      refine va_calli (va_runV (As := []) (rest := []) ⟨hx, hb, hml, hown, hts⟩ (p_X12_thrown l dC dI h2 w1933_2 2 (f1933_2_1) H.size) (cwV 0 hts glaw35_2 rfl rfl rfl (by decide +kernel) ⟨by decide +kernel, by decide +kernel⟩) ⟨fun a U g mk q => by obtain ⟨q0, q1, qP, qK, qD⟩ := q; exact ⟨q0, q1, qP, va_K.moved (u := U) (U := U.calling g mk a) (Vm.Alike.refl U.vm) qK, qD⟩, va_recv hKc hPc (ci := 12) (q0 := 0) rfl rfl, fun U hU9 hW => ⟨rfl, by rw [hU9], by rw [hU9]; exact hPc, va_K.moved hW.alike hKc, hDc.weaken (fun _ _ _ _ => trivial)⟩⟩ rfl rfl hl.1 rfl (lv_room (Nat.le_of_ble_eq_true rfl)) dL_law_1939 ⟨by decide +kernel, by decide +kernel⟩) hS (fun q _ h => hFc q h) hFc (fun r1939_11 u t H1 locs ht hvm hw hB hz1 hk1 hS => ?_)
      obtain ⟨hP1, hK1, hD1⟩ := hB
      rw [ht] at hP1
      have hK1 := va_K.moved hvm.symm hK1
      obtain ⟨hP, hD⟩ := va_join (wr := [(o, .inl (kO, 1, .inr (.inl go1909)))]) (w1 := []) hP hD [1] [0] rfl rfl (by decide) (by decide) hk1 hFc hP1 hD1
      generalize H1 = H at hP hS ⊢
      have hP : va_P (dC, dI) vwCl [(o, .inl (kO, 1, .inr (.inl go1909)))] H := hP
      have hD : va_D A [(o, .inl (kO, 1, .inr (.inl go1909)))] := hD
      obtain rfl := hw
      refine lv_iload hx hb dL_law_1942 (lv_at hl 1 rfl) ?_
      refine lv_icmp_eq (tgt := 1949) hx hb dL_law_1944 (by decide) (fun c9 => absurd c9 (by decide)) (fun _ => ?_)
      refine lv_iconst (v := 0) hx hb dL_law_1947 (by decide) ?_
      refine W.widen (k := 600002) (n := 7302232) (by decide +kernel) (by decide +kernel) ?_
      exact False.elim (by omega)
  · refine lv_istore (lv' := [(5, .int 2), (4, .int 0), (3, .ref o), (2, .ref h2), (1, .ref h1), (0, .ref b)]) hx hb dL_law_1912 hl (by decide) rfl (fun ls hl => ?_)
    refine lv_aload_n hx hb dL_law_1914 rfl (lv_at hl 3 rfl) ?_
    refine lv_aload_n hx hb dL_law_1915 rfl (lv_at hl 5 rfl) ?_
    refine lv_iload hx hb dL_law_1916 (lv_at hl 1 rfl) ?_
    refine lv_iconst (v := 1) hx hb dL_law_1918 (by decide) ?_
    refine lv_iadd hx hb dL_law_1919 ?_
    refine lv_topi (fun y43 hy43 => ?_)
    obtain rfl : 1 = y43 := (hy43.trans (by decide)).symm
    refine va_sld hx hb hX hbl hbA hS (show ¬ ((1 : Int32) < 0 ∨ 6 ≤ (1 : Int32).toNatClampNeg) by decide) dL_law_1920 ?_
    refine lv_topi (fun y44 hy44 => ?_)
    obtain rfl : (xs 1) = y44 := (hy44.trans (rfl)).symm
    refine lv_aload_n hx hb dL_law_1921 rfl (lv_at hl 5 rfl) ?_
    refine lv_iload hx hb dL_law_1922 (lv_at hl 1 rfl) ?_
    refine lv_iconst (v := 2) hx hb dL_law_1924 (by decide) ?_
    refine lv_iadd hx hb dL_law_1925 ?_
    refine lv_topi (fun y45 hy45 => ?_)
    obtain rfl : 2 = y45 := (hy45.trans (by decide)).symm
    refine va_sld hx hb hX hbl hbA hS (show ¬ ((2 : Int32) < 0 ∨ 6 ≤ (2 : Int32).toNatClampNeg) by decide) dL_law_1926 ?_
    refine lv_topi (fun y46 hy46 => ?_)
    obtain rfl : (xs 2) = y46 := (hy46.trans (rfl)).symm
    refine lv_aload_n hx hb dL_law_1927 rfl (lv_at hl 5 rfl) ?_
    refine lv_iload hx hb dL_law_1928 (lv_at hl 1 rfl) ?_
    refine lv_iconst (v := 3) hx hb dL_law_1930 (by decide) ?_
    refine lv_iadd hx hb dL_law_1931 ?_
    refine lv_topi (fun y47 hy47 => ?_)
    obtain rfl : 3 = y47 := (hy47.trans (by decide)).symm
    refine va_sld hx hb hX hbl hbA hS (show ¬ ((3 : Int32) < 0 ∨ 6 ≤ (3 : Int32).toNatClampNeg) by decide) dL_law_1932 ?_
    refine lv_topi (fun y48 hy48 => ?_)
    obtain rfl : (xs 3) = y48 := (hy48.trans (rfl)).symm
    have hPc := hP.sub (ws' := [(h2, .inr (12, fM (vM av))), ((av 100), .inl ((kv 100), 12, .inl (fun _ => 0)))]) [0, 1] rfl
    have hDc := hD.sub (ws' := [(h2, .inr (12, fM (vM av))), ((av 100), .inl ((kv 100), 12, .inl (fun _ => 0)))]) [0, 1] (by decide) rfl
    have hKc := hK.sub (tys' := [((kv 100), .int)]) [0] rfl
    have hFc := va_free (wc := [(h2, .inr (12, fM (vM av))), ((av 100), .inl ((kv 100), 12, .inl (fun _ => 0)))]) hD hS hA [0, 1] rfl
    refine va_calli (va_runV (As := [.int (xs 1), .int (xs 2), .int (xs 3)]) (rest := []) ⟨hx, hb, hml, hown, hts⟩ (p_X12_cheapest l dC dI h2 (vM av) (rfl) (av 100) (rfl) (kv 100) (fun _ => 0) (xs 1) (xs 2) (xs 3) H.size) (cwV 3 hts glaw35_1 rfl rfl rfl (by decide +kernel) ⟨by decide +kernel, by decide +kernel⟩) ⟨fun a U g mk q => by obtain ⟨q0, q1, qP, qK, qD⟩ := q; exact ⟨q0, q1, qP, va_K.moved (u := U) (U := U.calling g mk a) (Vm.Alike.refl U.vm) qK, qD⟩, va_recv hKc hPc (ci := 12) (q0 := 0) rfl rfl, fun U hU9 hW => ⟨rfl, by rw [hU9], by rw [hU9]; exact hPc, va_K.moved hW.alike hKc, hDc.weaken (fun _ _ _ _ => trivial)⟩⟩ rfl rfl hl.1 rfl (lv_room (Nat.le_of_ble_eq_true rfl)) dL_law_1933 ⟨by decide +kernel, by decide +kernel⟩) hS (fun q _ h => hFc q h) hFc (fun r1933_3 u t H1 locs ht hvm hw hB hz1 hk1 hS => ?_)
    obtain ⟨w1933_3, hwit1933_3⟩ : ∃ w9, w9 = u := ⟨u, rfl⟩
    subst hwit1933_3
    obtain ⟨hP1, hK1, hD1⟩ := hB
    rw [ht] at hP1
    have hK1 := va_K.moved hvm.symm hK1
    obtain ⟨hP, hD⟩ := va_join (wr := [(o, .inl (kO, 1, .inr (.inl go1909)))]) (w1 := [(h2, .inr (12, fM w1933_3))]) hP hD [0, 1] [2] rfl rfl (by decide) (by decide) hk1 hFc hP1 hD1
    generalize H1 = H at hP hS ⊢
    have hP : va_P (dC, dI) vwCl [(o, .inl (kO, 1, .inr (.inl go1909))), (h2, .inr (12, fM w1933_3))] H := hP
    have hD : va_D A [(o, .inl (kO, 1, .inr (.inl go1909))), (h2, .inr (12, fM w1933_3))] := hD
    rcases hw with ⟨rfl, f1933_3_0, f1933_3_1, f1933_3_2⟩ | ⟨rfl, f1933_3_0, f1933_3_1, f1933_3_2⟩ | ⟨rfl, f1933_3_0, f1933_3_1⟩ | ⟨rfl, f1933_3_0, f1933_3_1⟩
    · refine lv_istore (lv' := [(6, .int 0), (5, .int 2), (4, .int 0), (3, .ref o), (2, .ref h2), (1, .ref h1), (0, .ref b)]) hx hb dL_law_1936 hl (by decide) rfl (fun ls hl => ?_)
      refine lv_aload_n hx hb dL_law_1938 rfl (lv_at hl 4 rfl) ?_
      have hPc := hP.sub (ws' := [(h2, .inr (12, fM w1933_3))]) [1] rfl
      have hDc := hD.sub (ws' := [(h2, .inr (12, fM w1933_3))]) [1] (by decide) rfl
      have hKc := hK.sub (tys' := []) [] rfl
      have hFc := va_free (wc := [(h2, .inr (12, fM w1933_3))]) hD hS hA [1] rfl
      refine va_calli (va_runV (As := []) (rest := []) ⟨hx, hb, hml, hown, hts⟩ (p_X12_thrown l dC dI h2 w1933_3 0 (f1933_3_2) H.size) (cwV 0 hts glaw35_2 rfl rfl rfl (by decide +kernel) ⟨by decide +kernel, by decide +kernel⟩) ⟨fun a U g mk q => by obtain ⟨q0, q1, qP, qK, qD⟩ := q; exact ⟨q0, q1, qP, va_K.moved (u := U) (U := U.calling g mk a) (Vm.Alike.refl U.vm) qK, qD⟩, va_recv hKc hPc (ci := 12) (q0 := 0) rfl rfl, fun U hU9 hW => ⟨rfl, by rw [hU9], by rw [hU9]; exact hPc, va_K.moved hW.alike hKc, hDc.weaken (fun _ _ _ _ => trivial)⟩⟩ rfl rfl hl.1 rfl (lv_room (Nat.le_of_ble_eq_true rfl)) dL_law_1939 ⟨by decide +kernel, by decide +kernel⟩) hS (fun q _ h => hFc q h) hFc (fun r1939_12 u t H1 locs ht hvm hw hB hz1 hk1 hS => ?_)
      obtain ⟨hP1, hK1, hD1⟩ := hB
      rw [ht] at hP1
      have hK1 := va_K.moved hvm.symm hK1
      obtain ⟨hP, hD⟩ := va_join (wr := [(o, .inl (kO, 1, .inr (.inl go1909)))]) (w1 := []) hP hD [1] [0] rfl rfl (by decide) (by decide) hk1 hFc hP1 hD1
      generalize H1 = H at hP hS ⊢
      have hP : va_P (dC, dI) vwCl [(o, .inl (kO, 1, .inr (.inl go1909)))] H := hP
      have hD : va_D A [(o, .inl (kO, 1, .inr (.inl go1909)))] := hD
      obtain rfl := hw
      refine lv_iload hx hb dL_law_1942 (lv_at hl 1 rfl) ?_
      refine lv_icmp_eq (tgt := 1949) hx hb dL_law_1944 (by decide) (fun c9 => absurd c9 (by decide)) (fun _ => ?_)
      refine lv_iconst (v := 0) hx hb dL_law_1947 (by decide) ?_
      refine W.widen (k := 600002) (n := 7302232) (by decide +kernel) (by decide +kernel) ?_
      exact False.elim (by omega)
    · refine lv_istore (lv' := [(6, .int (-1)), (5, .int 2), (4, .int 0), (3, .ref o), (2, .ref h2), (1, .ref h1), (0, .ref b)]) hx hb dL_law_1936 hl (by decide) rfl (fun ls hl => ?_)
      refine lv_aload_n hx hb dL_law_1938 rfl (lv_at hl 4 rfl) ?_
      have hPc := hP.sub (ws' := [(h2, .inr (12, fM w1933_3))]) [1] rfl
      have hDc := hD.sub (ws' := [(h2, .inr (12, fM w1933_3))]) [1] (by decide) rfl
      have hKc := hK.sub (tys' := []) [] rfl
      have hFc := va_free (wc := [(h2, .inr (12, fM w1933_3))]) hD hS hA [1] rfl
      refine va_calli (va_runV (As := []) (rest := []) ⟨hx, hb, hml, hown, hts⟩ (p_X12_thrown l dC dI h2 w1933_3 0 (f1933_3_2) H.size) (cwV 0 hts glaw35_2 rfl rfl rfl (by decide +kernel) ⟨by decide +kernel, by decide +kernel⟩) ⟨fun a U g mk q => by obtain ⟨q0, q1, qP, qK, qD⟩ := q; exact ⟨q0, q1, qP, va_K.moved (u := U) (U := U.calling g mk a) (Vm.Alike.refl U.vm) qK, qD⟩, va_recv hKc hPc (ci := 12) (q0 := 0) rfl rfl, fun U hU9 hW => ⟨rfl, by rw [hU9], by rw [hU9]; exact hPc, va_K.moved hW.alike hKc, hDc.weaken (fun _ _ _ _ => trivial)⟩⟩ rfl rfl hl.1 rfl (lv_room (Nat.le_of_ble_eq_true rfl)) dL_law_1939 ⟨by decide +kernel, by decide +kernel⟩) hS (fun q _ h => hFc q h) hFc (fun r1939_13 u t H1 locs ht hvm hw hB hz1 hk1 hS => ?_)
      obtain ⟨hP1, hK1, hD1⟩ := hB
      rw [ht] at hP1
      have hK1 := va_K.moved hvm.symm hK1
      obtain ⟨hP, hD⟩ := va_join (wr := [(o, .inl (kO, 1, .inr (.inl go1909)))]) (w1 := []) hP hD [1] [0] rfl rfl (by decide) (by decide) hk1 hFc hP1 hD1
      generalize H1 = H at hP hS ⊢
      have hP : va_P (dC, dI) vwCl [(o, .inl (kO, 1, .inr (.inl go1909)))] H := hP
      have hD : va_D A [(o, .inl (kO, 1, .inr (.inl go1909)))] := hD
      obtain rfl := hw
      refine lv_iload hx hb dL_law_1942 (lv_at hl 1 rfl) ?_
      refine lv_icmp_eq (tgt := 1949) hx hb dL_law_1944 (by decide) (fun c9 => absurd c9 (by decide)) (fun _ => ?_)
      refine lv_iconst (v := 0) hx hb dL_law_1947 (by decide) ?_
      refine W.widen (k := 600002) (n := 7302232) (by decide +kernel) (by decide +kernel) ?_
      exact False.elim (by omega)
    · refine lv_istore (lv' := [(6, .int 0), (5, .int 2), (4, .int 0), (3, .ref o), (2, .ref h2), (1, .ref h1), (0, .ref b)]) hx hb dL_law_1936 hl (by decide) rfl (fun ls hl => ?_)
      refine lv_aload_n hx hb dL_law_1938 rfl (lv_at hl 4 rfl) ?_
      have hPc := hP.sub (ws' := [(h2, .inr (12, fM w1933_3))]) [1] rfl
      have hDc := hD.sub (ws' := [(h2, .inr (12, fM w1933_3))]) [1] (by decide) rfl
      have hKc := hK.sub (tys' := []) [] rfl
      have hFc := va_free (wc := [(h2, .inr (12, fM w1933_3))]) hD hS hA [1] rfl
      refine va_calli (va_runV (As := []) (rest := []) ⟨hx, hb, hml, hown, hts⟩ (p_X12_thrown l dC dI h2 w1933_3 1 (f1933_3_1) H.size) (cwV 0 hts glaw35_2 rfl rfl rfl (by decide +kernel) ⟨by decide +kernel, by decide +kernel⟩) ⟨fun a U g mk q => by obtain ⟨q0, q1, qP, qK, qD⟩ := q; exact ⟨q0, q1, qP, va_K.moved (u := U) (U := U.calling g mk a) (Vm.Alike.refl U.vm) qK, qD⟩, va_recv hKc hPc (ci := 12) (q0 := 0) rfl rfl, fun U hU9 hW => ⟨rfl, by rw [hU9], by rw [hU9]; exact hPc, va_K.moved hW.alike hKc, hDc.weaken (fun _ _ _ _ => trivial)⟩⟩ rfl rfl hl.1 rfl (lv_room (Nat.le_of_ble_eq_true rfl)) dL_law_1939 ⟨by decide +kernel, by decide +kernel⟩) hS (fun q _ h => hFc q h) hFc (fun r1939_14 u t H1 locs ht hvm hw hB hz1 hk1 hS => ?_)
      obtain ⟨hP1, hK1, hD1⟩ := hB
      rw [ht] at hP1
      have hK1 := va_K.moved hvm.symm hK1
      obtain ⟨hP, hD⟩ := va_join (wr := [(o, .inl (kO, 1, .inr (.inl go1909)))]) (w1 := []) hP hD [1] [0] rfl rfl (by decide) (by decide) hk1 hFc hP1 hD1
      generalize H1 = H at hP hS ⊢
      have hP : va_P (dC, dI) vwCl [(o, .inl (kO, 1, .inr (.inl go1909)))] H := hP
      have hD : va_D A [(o, .inl (kO, 1, .inr (.inl go1909)))] := hD
      obtain rfl := hw
      refine lv_iload hx hb dL_law_1942 (lv_at hl 1 rfl) ?_
      refine lv_icmp_eq (tgt := 1949) hx hb dL_law_1944 (by decide) (fun c9 => absurd c9 (by decide)) (fun _ => ?_)
      refine lv_iconst (v := 0) hx hb dL_law_1947 (by decide) ?_
      refine W.widen (k := 600002) (n := 7302232) (by decide +kernel) (by decide +kernel) ?_
      exact False.elim (by omega)
    · refine lv_istore (lv' := [(6, .int 0), (5, .int 2), (4, .int 0), (3, .ref o), (2, .ref h2), (1, .ref h1), (0, .ref b)]) hx hb dL_law_1936 hl (by decide) rfl (fun ls hl => ?_)
      refine lv_aload_n hx hb dL_law_1938 rfl (lv_at hl 4 rfl) ?_
      have hPc := hP.sub (ws' := [(h2, .inr (12, fM w1933_3))]) [1] rfl
      have hDc := hD.sub (ws' := [(h2, .inr (12, fM w1933_3))]) [1] (by decide) rfl
      have hKc := hK.sub (tys' := []) [] rfl
      have hFc := va_free (wc := [(h2, .inr (12, fM w1933_3))]) hD hS hA [1] rfl
      refine va_calli (va_runV (As := []) (rest := []) ⟨hx, hb, hml, hown, hts⟩ (p_X12_thrown l dC dI h2 w1933_3 2 (f1933_3_1) H.size) (cwV 0 hts glaw35_2 rfl rfl rfl (by decide +kernel) ⟨by decide +kernel, by decide +kernel⟩) ⟨fun a U g mk q => by obtain ⟨q0, q1, qP, qK, qD⟩ := q; exact ⟨q0, q1, qP, va_K.moved (u := U) (U := U.calling g mk a) (Vm.Alike.refl U.vm) qK, qD⟩, va_recv hKc hPc (ci := 12) (q0 := 0) rfl rfl, fun U hU9 hW => ⟨rfl, by rw [hU9], by rw [hU9]; exact hPc, va_K.moved hW.alike hKc, hDc.weaken (fun _ _ _ _ => trivial)⟩⟩ rfl rfl hl.1 rfl (lv_room (Nat.le_of_ble_eq_true rfl)) dL_law_1939 ⟨by decide +kernel, by decide +kernel⟩) hS (fun q _ h => hFc q h) hFc (fun r1939_15 u t H1 locs ht hvm hw hB hz1 hk1 hS => ?_)
      obtain ⟨hP1, hK1, hD1⟩ := hB
      rw [ht] at hP1
      have hK1 := va_K.moved hvm.symm hK1
      obtain ⟨hP, hD⟩ := va_join (wr := [(o, .inl (kO, 1, .inr (.inl go1909)))]) (w1 := []) hP hD [1] [0] rfl rfl (by decide) (by decide) hk1 hFc hP1 hD1
      generalize H1 = H at hP hS ⊢
      have hP : va_P (dC, dI) vwCl [(o, .inl (kO, 1, .inr (.inl go1909)))] H := hP
      have hD : va_D A [(o, .inl (kO, 1, .inr (.inl go1909)))] := hD
      obtain rfl := hw
      refine lv_iload hx hb dL_law_1942 (lv_at hl 1 rfl) ?_
      refine lv_icmp_eq (tgt := 1949) hx hb dL_law_1944 (by decide) (fun _ => ?_) (fun c9 => absurd (by decide) c9)
      refine lv_iload hx hb dL_law_1949 (lv_at hl 1 rfl) ?_
      refine lv_if_ne (tgt := 1966) hx hb dL_law_1951 (by decide) (fun _ => ?_) (fun c9 => absurd c9 (by decide))
      refine lv_goto (tgt := 2131) hx hb dL_law_1966 (by decide) ?_
      refine lv_iinc (v := 6) (lv' := [(4, .int 6), (6, .int 0), (5, .int 2), (3, .ref o), (2, .ref h2), (1, .ref h1), (0, .ref b)]) hx hb dL_law_2131 hl (k := 2) rfl (by decide) (by decide) rfl (fun ls hl => ?_)
      refine lv_goto (tgt := 23) hx hb dL_law_2134 (by decide) ?_
      refine lv_iload hx hb dL_law_23 (lv_at hl 0 rfl) ?_
      refine lv_aload_n hx hb dL_law_25 rfl (lv_at hl 6 rfl) ?_
      refine va_slen hx hb hX hbl hbA hS dL_law_26 ?_
      refine lv_topi (fun y49 hy49 => ?_)
      obtain rfl : 6 = y49 := (hy49.trans (rfl)).symm
      refine lv_bipush (v := 6) hx hb dL_law_27 (by decide) ?_
      refine lv_isub hx hb dL_law_29 ?_
      refine lv_topi (fun y50 hy50 => ?_)
      obtain rfl : 0 = y50 := (hy50.trans (by decide)).symm
      refine lv_icmp_gt (tgt := 2137) hx hb dL_law_30 (by decide) (fun _ => ?_) (fun c9 => absurd (by decide) c9)
      refine lv_iconst (v := 1) hx hb dL_law_2137 (by decide) ?_
      refine W.widen (k := 600002) (n := 7302232) (by decide +kernel) (by decide +kernel) ?_
      refine va_forget (fun q hq => hA2 _ (hS.2.2 q hq)) ?_
      exact lw_ret hx hb hr hlocks dL_law_2138
theorem dL_law_1969 : decode cL_law 1969 = .ok (.aload_n 1, 1) := by decide +kernel
theorem dL_law_1970 : decode cL_law 1970 = .ok (.aload_n 0, 1) := by decide +kernel
theorem dL_law_1971 : decode cL_law 1971 = .ok (.iload 4, 2) := by decide +kernel
theorem dL_law_1973 : decode cL_law 1973 = .ok (.iconst 1, 1) := by decide +kernel
theorem dL_law_1974 : decode cL_law 1974 = .ok (.iadd, 1) := by decide +kernel
theorem dL_law_1975 : decode cL_law 1975 = .ok (.iaload, 1) := by decide +kernel
theorem dL_law_1976 : decode cL_law 1976 = .ok (.aload_n 0, 1) := by decide +kernel
theorem dL_law_1977 : decode cL_law 1977 = .ok (.iload 4, 2) := by decide +kernel
theorem dL_law_1979 : decode cL_law 1979 = .ok (.iconst 2, 1) := by decide +kernel
theorem dL_law_1980 : decode cL_law 1980 = .ok (.iadd, 1) := by decide +kernel
theorem dL_law_1981 : decode cL_law 1981 = .ok (.iaload, 1) := by decide +kernel
theorem dL_law_1982 : decode cL_law 1982 = .ok (.aload_n 0, 1) := by decide +kernel
theorem dL_law_1983 : decode cL_law 1983 = .ok (.iload 4, 2) := by decide +kernel
theorem dL_law_1985 : decode cL_law 1985 = .ok (.iconst 3, 1) := by decide +kernel
theorem dL_law_1986 : decode cL_law 1986 = .ok (.iadd, 1) := by decide +kernel
theorem dL_law_1987 : decode cL_law 1987 = .ok (.iaload, 1) := by decide +kernel
theorem dL_law_1988 : decode cL_law 1988 = .ok (.aload_n 3, 1) := by decide +kernel
theorem dL_law_1989 : decode cL_law 1989 = .ok (.invokestatic 231, 3) := by decide +kernel
theorem dL_law_1992 : decode cL_law 1992 = .ok (.istore 5, 2) := by decide +kernel
theorem dL_law_1994 : decode cL_law 1994 = .ok (.aload_n 2, 1) := by decide +kernel
theorem dL_law_1995 : decode cL_law 1995 = .ok (.aload_n 0, 1) := by decide +kernel
theorem dL_law_1996 : decode cL_law 1996 = .ok (.iload 4, 2) := by decide +kernel
theorem dL_law_1998 : decode cL_law 1998 = .ok (.iconst 1, 1) := by decide +kernel
theorem dL_law_1999 : decode cL_law 1999 = .ok (.iadd, 1) := by decide +kernel
theorem dL_law_2000 : decode cL_law 2000 = .ok (.iaload, 1) := by decide +kernel
theorem dL_law_2001 : decode cL_law 2001 = .ok (.aload_n 0, 1) := by decide +kernel
theorem dL_law_2002 : decode cL_law 2002 = .ok (.iload 4, 2) := by decide +kernel
theorem dL_law_2004 : decode cL_law 2004 = .ok (.iconst 2, 1) := by decide +kernel
theorem dL_law_2005 : decode cL_law 2005 = .ok (.iadd, 1) := by decide +kernel
theorem dL_law_2006 : decode cL_law 2006 = .ok (.iaload, 1) := by decide +kernel
theorem dL_law_2007 : decode cL_law 2007 = .ok (.aload_n 0, 1) := by decide +kernel
theorem dL_law_2008 : decode cL_law 2008 = .ok (.iload 4, 2) := by decide +kernel
theorem dL_law_2010 : decode cL_law 2010 = .ok (.iconst 3, 1) := by decide +kernel
theorem dL_law_2011 : decode cL_law 2011 = .ok (.iadd, 1) := by decide +kernel
theorem dL_law_2012 : decode cL_law 2012 = .ok (.iaload, 1) := by decide +kernel
theorem dL_law_2013 : decode cL_law 2013 = .ok (.invokevirtual 233, 3) := by decide +kernel
theorem dL_law_2016 : decode cL_law 2016 = .ok (.istore 6, 2) := by decide +kernel
theorem dL_law_2018 : decode cL_law 2018 = .ok (.aload_n 2, 1) := by decide +kernel
theorem dL_law_2019 : decode cL_law 2019 = .ok (.invokevirtual 111, 3) := by decide +kernel
theorem dL_law_2022 : decode cL_law 2022 = .ok (.iload 5, 2) := by decide +kernel
theorem dL_law_2024 : decode cL_law 2024 = .ok (.if_icmp .eq 5, 3) := by decide +kernel
theorem dL_law_2027 : decode cL_law 2027 = .ok (.iconst 0, 1) := by decide +kernel
theorem dL_law_2028 : decode cL_law 2028 = .ok (.ireturn, 1) := by decide +kernel
theorem dL_law_2029 : decode cL_law 2029 = .ok (.iload 5, 2) := by decide +kernel
theorem dL_law_2031 : decode cL_law 2031 = .ok (.ifCond .ne 15, 3) := by decide +kernel
theorem dL_law_2034 : decode cL_law 2034 = .ok (.aload_n 3, 1) := by decide +kernel
theorem dL_law_2035 : decode cL_law 2035 = .ok (.iconst 0, 1) := by decide +kernel
theorem dL_law_2036 : decode cL_law 2036 = .ok (.laload, 1) := by decide +kernel
theorem dL_law_2037 : decode cL_law 2037 = .ok (.iload 6, 2) := by decide +kernel
theorem dL_law_2039 : decode cL_law 2039 = .ok (.i2l, 1) := by decide +kernel
theorem dL_law_2040 : decode cL_law 2040 = .ok (.lcmp, 1) := by decide +kernel
theorem dL_law_2041 : decode cL_law 2041 = .ok (.ifCond .eq 5, 3) := by decide +kernel
theorem dL_law_2044 : decode cL_law 2044 = .ok (.iconst 0, 1) := by decide +kernel
theorem dL_law_2045 : decode cL_law 2045 = .ok (.ireturn, 1) := by decide +kernel
theorem dL_law_2046 : decode cL_law 2046 = .ok (.goto 85, 3) := by decide +kernel
theorem glaw36_0 : GoodIn lw_tbl (va_wsS RL 231 yL_path wsPL_path) := goodIn_sub ((List.forall_mem_append.mpr ⟨(mem_p ([.methodLink RL 231 yL_path, .static yL_path, .initialized "OptimaWorksLaw"] : List Cond) [(10, 71), (10, 72), (1, 0)] (by decide +kernel)), ml_wsPL_path⟩ : ∀ w ∈ va_wsS RL 231 yL_path wsPL_path, w ∈ lw_tbl)) (by decide +kernel)
theorem glaw36_1 : GoodIn lw_tbl (wsV RL 233 RX12 yX12_path wsPX12_path) := goodIn_sub ((List.forall_mem_append.mpr ⟨(mem_p ([.methodLink RL 233 yX12_path, .instanceMethod yX12_path, .selects RX12 yX12_path yX12_path, .initialized RX12] : List Cond) [(16, 32), (16, 33), (16, 34), (1, 4)] (by decide +kernel)), ml_wsPX12_path⟩ : ∀ w ∈ wsV RL 233 RX12 yX12_path wsPX12_path, w ∈ lw_tbl)) (by decide +kernel)
theorem glaw36_2 : GoodIn lw_tbl (wsV RL 111 RX12 yX12_thrown wsPX12_thrown) := goodIn_sub ((List.forall_mem_append.mpr ⟨(mem_p ([.methodLink RL 111 yX12_thrown, .instanceMethod yX12_thrown, .selects RX12 yX12_thrown yX12_thrown, .initialized RX12] : List Cond) [(12, 139), (12, 140), (12, 141), (1, 4)] (by decide +kernel)), ml_wsPX12_thrown⟩ : ∀ w ∈ wsV RL 111 RX12 yX12_thrown wsPX12_thrown, w ∈ lw_tbl)) (by decide +kernel)
set_option maxHeartbeats 4000000 in
set_option maxRecDepth 100000 in
/-- the law's case 36: path -/
theorem lc_36 {p : Program} {e : Env} {s : State} {m : MethodId} {below : List Frame} {meth : Method} {c : Code} (l : Launch) (hst : l.stackTraces = false) {b : Nat} {xs : Nat → Int32} (C0 : lw_At p s m meth c b 6 xs) {A : Nat → Prop} (hA : ∀ q : Nat, s.heap.size ≤ q → A q) (hA2 : ∀ q : Nat, A q → s.heap.size ≤ q) (X0 : lx_ok A s) (dC : Nat → ClassId) (dI : Nat → Nat → Nat) {h1 h2 o : Nat} {a : Nat → Nat} {k : Nat → ClassId} {av : Nat → Nat} {kv : Nat → ClassId} {kO : ClassId} {H : Heap} {locs : List Loc} {ls : Array Slot} (hK : va_K (dC, dI) vwCl [((kv 102), .int), (kO, .long)] s) (hP : va_P (dC, dI) vwCl [(h1, .inr (11, [.ref (a 0), .ref (a 1), .ref (a 3), .ref (a 14), .int 0, .null, .null, .null, .null, .null, .null])), (h2, .inr (12, fM (vM av))), ((av 102), .inl ((kv 102), 12, .inl (fun _ => 0))), (o, .inl (kO, 1, .inr (.inl (fun _ => 0))))] H) (hD : va_D A [(h1, .inr (11, [.ref (a 0), .ref (a 1), .ref (a 3), .ref (a 14), .int 0, .null, .null, .null, .null, .null, .null])), (h2, .inr (12, fM (vM av))), ((av 102), .inl ((kv 102), 12, .inl (fun _ => 0))), (o, .inl (kO, 1, .inr (.inl (fun _ => 0))))]) (hS : va_S A s.heap H locs) (hl : lv_has ls 7 [(4, .int 0), (3, .ref o), (2, .ref h2), (1, .ref h1), (0, .ref b)]) : W p l e room_1 s m #[Value.ref b] below meth c H locs 125 181434 (lw_Z below #[Value.ref b] s) (F0 m 1969 ls []) := by
  obtain ⟨hx, hb, hr, hml, hown, hts, hX, hbl, hlocks, hgv⟩ := id C0
  have hb : c.code = cL_law := hb
  have hown : s.vm.findClass RL = some m.cls := hown
  obtain ⟨hU, hN, hnX11_343, hnX11_392, hnX11_421, hncAI, hngX11_161, hngX11_79, hngX11_95⟩ := X0
  have hbA : ¬ A b := fun h => absurd (hA2 b h) (Nat.not_le.mpr hbl)
  refine lv_aload_n hx hb dL_law_1969 rfl (lv_at hl 3 rfl) ?_
  refine lv_aload_n hx hb dL_law_1970 rfl (lv_at hl 4 rfl) ?_
  refine lv_iload hx hb dL_law_1971 (lv_at hl 0 rfl) ?_
  refine lv_iconst (v := 1) hx hb dL_law_1973 (by decide) ?_
  refine lv_iadd hx hb dL_law_1974 ?_
  refine lv_topi (fun y1 hy1 => ?_)
  obtain rfl : 1 = y1 := (hy1.trans (by decide)).symm
  refine va_sld hx hb hX hbl hbA hS (show ¬ ((1 : Int32) < 0 ∨ 6 ≤ (1 : Int32).toNatClampNeg) by decide) dL_law_1975 ?_
  refine lv_topi (fun y2 hy2 => ?_)
  obtain rfl : (xs 1) = y2 := (hy2.trans (rfl)).symm
  refine lv_aload_n hx hb dL_law_1976 rfl (lv_at hl 4 rfl) ?_
  refine lv_iload hx hb dL_law_1977 (lv_at hl 0 rfl) ?_
  refine lv_iconst (v := 2) hx hb dL_law_1979 (by decide) ?_
  refine lv_iadd hx hb dL_law_1980 ?_
  refine lv_topi (fun y3 hy3 => ?_)
  obtain rfl : 2 = y3 := (hy3.trans (by decide)).symm
  refine va_sld hx hb hX hbl hbA hS (show ¬ ((2 : Int32) < 0 ∨ 6 ≤ (2 : Int32).toNatClampNeg) by decide) dL_law_1981 ?_
  refine lv_topi (fun y4 hy4 => ?_)
  obtain rfl : (xs 2) = y4 := (hy4.trans (rfl)).symm
  refine lv_aload_n hx hb dL_law_1982 rfl (lv_at hl 4 rfl) ?_
  refine lv_iload hx hb dL_law_1983 (lv_at hl 0 rfl) ?_
  refine lv_iconst (v := 3) hx hb dL_law_1985 (by decide) ?_
  refine lv_iadd hx hb dL_law_1986 ?_
  refine lv_topi (fun y5 hy5 => ?_)
  obtain rfl : 3 = y5 := (hy5.trans (by decide)).symm
  refine va_sld hx hb hX hbl hbA hS (show ¬ ((3 : Int32) < 0 ∨ 6 ≤ (3 : Int32).toNatClampNeg) by decide) dL_law_1987 ?_
  refine lv_topi (fun y6 hy6 => ?_)
  obtain rfl : (xs 3) = y6 := (hy6.trans (rfl)).symm
  refine lv_aload_n hx hb dL_law_1988 rfl (lv_at hl 1 rfl) ?_
  have hPc := hP.sub (ws' := [(h1, .inr (11, [.ref (a 0), .ref (a 1), .ref (a 3), .ref (a 14), .int 0, .null, .null, .null, .null, .null, .null])), (o, .inl (kO, 1, .inr (.inl (fun _ => 0))))]) [0, 3] rfl
  have hDc := hD.sub (ws' := [(h1, .inr (11, [.ref (a 0), .ref (a 1), .ref (a 3), .ref (a 14), .int 0, .null, .null, .null, .null, .null, .null])), (o, .inl (kO, 1, .inr (.inl (fun _ => 0))))]) [0, 3] (by decide) rfl
  have hKc := hK.sub (tys' := [(kO, .long)]) [1] rfl
  have hFc := va_free (wc := [(h1, .inr (11, [.ref (a 0), .ref (a 1), .ref (a 3), .ref (a 14), .int 0, .null, .null, .null, .null, .null, .null])), (o, .inl (kO, 1, .inr (.inl (fun _ => 0))))]) hD hS hA [0, 3] rfl
  refine va_calli (vx_runSW (As := [.ref h1, .int (xs 1), .int (xs 2), .int (xs 3), .ref o]) (rest := []) ⟨hx, hb, hml, hown, hts⟩ (p_L_path l hst dC dI h1 a o kO (xs 1) (xs 2) (xs 3) H.size) (vx_cwSW 5 hts glaw36_0 rfl rfl rfl (by decide +kernel) ⟨by decide +kernel, by decide +kernel⟩) ⟨fun a U g mk q => by obtain ⟨q0, q1, qP, qK, qD, qU, qN, qngX11_79, qngX11_95, qhnX11_421, qhncAI⟩ := q; exact ⟨q0, q1, qP, va_K.moved (u := U) (U := U.calling g mk a) (Vm.Alike.refl U.vm) qK, qD, vx_Zq.moved (u := U) (U := U.calling g mk a) (Vm.Alike.refl U.vm) qU, vx_Zq.moved (u := U) (U := U.calling g mk a) (Vm.Alike.refl U.vm) qN, fun w h => va_Nw.same (u := U) (U := U.calling g mk a) (ngX11_79_ot w h) rfl (qngX11_79 w h), fun w h => va_Nw.same (u := U) (U := U.calling g mk a) (ngX11_95_ot w h) rfl (qngX11_95 w h), va_Nw.same (u := U) (U := U.calling g mk a) rfl rfl qhnX11_421, va_Nc.moved (u := U) (U := U.calling g mk a) (Vm.Alike.refl U.vm) qhncAI⟩, fun U hU9 hW => ⟨rfl, by rw [hU9], by rw [hU9]; exact hPc, va_K.moved hW.alike hKc, hDc.weaken (fun _ _ _ _ => trivial), by rw [hU9]; exact ((hU.kept (fun a h1 h2 => hS.2.1 a h1 h2)).narrow hFc).moved hW.alike, by rw [hU9]; exact ((hN.kept (fun a h1 h2 => hS.2.1 a h1 h2)).narrow hFc).moved hW.alike, fun w h => cd_warm (ngX11_79_cd w h) hW (hngX11_79 w h), fun w h => cd_warm (ngX11_95_cd w h) hW (hngX11_95 w h), va_Nw.warmM hW hnX11_421, va_Nc.moved hW.alike hncAI⟩⟩ rfl rfl hl.1 rfl (lv_room (Nat.le_of_ble_eq_true rfl)) dL_law_1989 ⟨by decide +kernel, by decide +kernel⟩) hS (fun q _ h => hFc q h) hFc (fun r1989 u t H1 locs ht hvm hw hB hz1 hk1 hS => ?_)
  obtain ⟨go1989, hwit1989⟩ : ∃ w9, w9 = u := ⟨u, rfl⟩
  subst hwit1989
  obtain ⟨hP1, hK1, hD1⟩ := hB
  rw [ht] at hP1
  have hK1 := va_K.moved hvm.symm hK1
  obtain ⟨hP, hD⟩ := va_join (wr := [(h2, .inr (12, fM (vM av))), ((av 102), .inl ((kv 102), 12, .inl (fun _ => 0)))]) (w1 := [(o, .inl (kO, 1, .inr (.inl go1989)))]) hP hD [0, 3] [1, 2] rfl rfl (by decide) (by decide) hk1 hFc hP1 hD1
  generalize H1 = H at hP hS ⊢
  have hP : va_P (dC, dI) vwCl [(h2, .inr (12, fM (vM av))), ((av 102), .inl ((kv 102), 12, .inl (fun _ => 0))), (o, .inl (kO, 1, .inr (.inl go1989)))] H := hP
  have hD : va_D A [(h2, .inr (12, fM (vM av))), ((av 102), .inl ((kv 102), 12, .inl (fun _ => 0))), (o, .inl (kO, 1, .inr (.inl go1989)))] := hD
  refine W.widen (k := 138) (n := 182918) (by decide +kernel) (by decide +kernel) ?_
  rcases hw with ⟨rfl, f1989_0, f1989_1, f1989_2⟩ | ⟨rfl, f1989_0, f1989_1, f1989_2⟩ | ⟨rfl, f1989_0⟩ | ⟨rfl, f1989_0⟩
  · refine lv_istore (lv' := [(5, .int 0), (4, .int 0), (3, .ref o), (2, .ref h2), (1, .ref h1), (0, .ref b)]) hx hb dL_law_1992 hl (by decide) rfl (fun ls hl => ?_)
    refine lv_aload_n hx hb dL_law_1994 rfl (lv_at hl 3 rfl) ?_
    refine lv_aload_n hx hb dL_law_1995 rfl (lv_at hl 5 rfl) ?_
    refine lv_iload hx hb dL_law_1996 (lv_at hl 1 rfl) ?_
    refine lv_iconst (v := 1) hx hb dL_law_1998 (by decide) ?_
    refine lv_iadd hx hb dL_law_1999 ?_
    refine lv_topi (fun y7 hy7 => ?_)
    obtain rfl : 1 = y7 := (hy7.trans (by decide)).symm
    refine va_sld hx hb hX hbl hbA hS (show ¬ ((1 : Int32) < 0 ∨ 6 ≤ (1 : Int32).toNatClampNeg) by decide) dL_law_2000 ?_
    refine lv_topi (fun y8 hy8 => ?_)
    obtain rfl : (xs 1) = y8 := (hy8.trans (rfl)).symm
    refine lv_aload_n hx hb dL_law_2001 rfl (lv_at hl 5 rfl) ?_
    refine lv_iload hx hb dL_law_2002 (lv_at hl 1 rfl) ?_
    refine lv_iconst (v := 2) hx hb dL_law_2004 (by decide) ?_
    refine lv_iadd hx hb dL_law_2005 ?_
    refine lv_topi (fun y9 hy9 => ?_)
    obtain rfl : 2 = y9 := (hy9.trans (by decide)).symm
    refine va_sld hx hb hX hbl hbA hS (show ¬ ((2 : Int32) < 0 ∨ 6 ≤ (2 : Int32).toNatClampNeg) by decide) dL_law_2006 ?_
    refine lv_topi (fun y10 hy10 => ?_)
    obtain rfl : (xs 2) = y10 := (hy10.trans (rfl)).symm
    refine lv_aload_n hx hb dL_law_2007 rfl (lv_at hl 5 rfl) ?_
    refine lv_iload hx hb dL_law_2008 (lv_at hl 1 rfl) ?_
    refine lv_iconst (v := 3) hx hb dL_law_2010 (by decide) ?_
    refine lv_iadd hx hb dL_law_2011 ?_
    refine lv_topi (fun y11 hy11 => ?_)
    obtain rfl : 3 = y11 := (hy11.trans (by decide)).symm
    refine va_sld hx hb hX hbl hbA hS (show ¬ ((3 : Int32) < 0 ∨ 6 ≤ (3 : Int32).toNatClampNeg) by decide) dL_law_2012 ?_
    refine lv_topi (fun y12 hy12 => ?_)
    obtain rfl : (xs 3) = y12 := (hy12.trans (rfl)).symm
    have hPc := hP.sub (ws' := [(h2, .inr (12, fM (vM av))), ((av 102), .inl ((kv 102), 12, .inl (fun _ => 0)))]) [0, 1] rfl
    have hDc := hD.sub (ws' := [(h2, .inr (12, fM (vM av))), ((av 102), .inl ((kv 102), 12, .inl (fun _ => 0)))]) [0, 1] (by decide) rfl
    have hKc := hK.sub (tys' := [((kv 102), .int)]) [0] rfl
    have hFc := va_free (wc := [(h2, .inr (12, fM (vM av))), ((av 102), .inl ((kv 102), 12, .inl (fun _ => 0)))]) hD hS hA [0, 1] rfl
    refine va_calli (va_runV (As := [.int (xs 1), .int (xs 2), .int (xs 3)]) (rest := []) ⟨hx, hb, hml, hown, hts⟩ (p_X12_path l dC dI h2 (vM av) (rfl) (av 102) (rfl) (kv 102) (fun _ => 0) (xs 1) (xs 2) (xs 3) H.size) (cwV 3 hts glaw36_1 rfl rfl rfl (by decide +kernel) ⟨by decide +kernel, by decide +kernel⟩) ⟨fun a U g mk q => by obtain ⟨q0, q1, qP, qK, qD⟩ := q; exact ⟨q0, q1, qP, va_K.moved (u := U) (U := U.calling g mk a) (Vm.Alike.refl U.vm) qK, qD⟩, va_recv hKc hPc (ci := 12) (q0 := 0) rfl rfl, fun U hU9 hW => ⟨rfl, by rw [hU9], by rw [hU9]; exact hPc, va_K.moved hW.alike hKc, hDc.weaken (fun _ _ _ _ => trivial)⟩⟩ rfl rfl hl.1 rfl (lv_room (Nat.le_of_ble_eq_true rfl)) dL_law_2013 ⟨by decide +kernel, by decide +kernel⟩) hS (fun q _ h => hFc q h) hFc (fun r2013 u t H1 locs ht hvm hw hB hz1 hk1 hS => ?_)
    obtain ⟨w2013, hwit2013⟩ : ∃ w9, w9 = u := ⟨u, rfl⟩
    subst hwit2013
    obtain ⟨hP1, hK1, hD1⟩ := hB
    rw [ht] at hP1
    have hK1 := va_K.moved hvm.symm hK1
    obtain ⟨hP, hD⟩ := va_join (wr := [(o, .inl (kO, 1, .inr (.inl go1989)))]) (w1 := [(h2, .inr (12, fM w2013))]) hP hD [0, 1] [2] rfl rfl (by decide) (by decide) hk1 hFc hP1 hD1
    generalize H1 = H at hP hS ⊢
    have hP : va_P (dC, dI) vwCl [(o, .inl (kO, 1, .inr (.inl go1989))), (h2, .inr (12, fM w2013))] H := hP
    have hD : va_D A [(o, .inl (kO, 1, .inr (.inl go1989))), (h2, .inr (12, fM w2013))] := hD
    rcases hw with ⟨rfl, f2013_0, f2013_1, f2013_2⟩ | ⟨rfl, f2013_0, f2013_1, f2013_2⟩ | ⟨rfl, f2013_0, f2013_1⟩ | ⟨rfl, f2013_0, f2013_1⟩
    · refine lv_istore (lv' := [(6, .int 0), (5, .int 0), (4, .int 0), (3, .ref o), (2, .ref h2), (1, .ref h1), (0, .ref b)]) hx hb dL_law_2016 hl (by decide) rfl (fun ls hl => ?_)
      refine lv_aload_n hx hb dL_law_2018 rfl (lv_at hl 4 rfl) ?_
      have hPc := hP.sub (ws' := [(h2, .inr (12, fM w2013))]) [1] rfl
      have hDc := hD.sub (ws' := [(h2, .inr (12, fM w2013))]) [1] (by decide) rfl
      have hKc := hK.sub (tys' := []) [] rfl
      have hFc := va_free (wc := [(h2, .inr (12, fM w2013))]) hD hS hA [1] rfl
      refine va_calli (va_runV (As := []) (rest := []) ⟨hx, hb, hml, hown, hts⟩ (p_X12_thrown l dC dI h2 w2013 0 (f2013_2) H.size) (cwV 0 hts glaw36_2 rfl rfl rfl (by decide +kernel) ⟨by decide +kernel, by decide +kernel⟩) ⟨fun a U g mk q => by obtain ⟨q0, q1, qP, qK, qD⟩ := q; exact ⟨q0, q1, qP, va_K.moved (u := U) (U := U.calling g mk a) (Vm.Alike.refl U.vm) qK, qD⟩, va_recv hKc hPc (ci := 12) (q0 := 0) rfl rfl, fun U hU9 hW => ⟨rfl, by rw [hU9], by rw [hU9]; exact hPc, va_K.moved hW.alike hKc, hDc.weaken (fun _ _ _ _ => trivial)⟩⟩ rfl rfl hl.1 rfl (lv_room (Nat.le_of_ble_eq_true rfl)) dL_law_2019 ⟨by decide +kernel, by decide +kernel⟩) hS (fun q _ h => hFc q h) hFc (fun r2019 u t H1 locs ht hvm hw hB hz1 hk1 hS => ?_)
      obtain ⟨hP1, hK1, hD1⟩ := hB
      rw [ht] at hP1
      have hK1 := va_K.moved hvm.symm hK1
      obtain ⟨hP, hD⟩ := va_join (wr := [(o, .inl (kO, 1, .inr (.inl go1989)))]) (w1 := []) hP hD [1] [0] rfl rfl (by decide) (by decide) hk1 hFc hP1 hD1
      generalize H1 = H at hP hS ⊢
      have hP : va_P (dC, dI) vwCl [(o, .inl (kO, 1, .inr (.inl go1989)))] H := hP
      have hD : va_D A [(o, .inl (kO, 1, .inr (.inl go1989)))] := hD
      obtain rfl := hw
      refine lv_iload hx hb dL_law_2022 (lv_at hl 1 rfl) ?_
      refine lv_icmp_eq (tgt := 2029) hx hb dL_law_2024 (by decide) (fun _ => ?_) (fun c9 => absurd (by decide) c9)
      refine lv_iload hx hb dL_law_2029 (lv_at hl 1 rfl) ?_
      refine lv_if_ne (tgt := 2046) hx hb dL_law_2031 (by decide) (fun c9 => absurd c9 (by decide)) (fun _ => ?_)
      refine lv_aload_n hx hb dL_law_2034 rfl (lv_at hl 3 rfl) ?_
      refine lv_iconst (v := 0) hx hb dL_law_2035 (by decide) ?_
      refine va_lald hx hb hK hP 0 1 rfl rfl (show ¬ ((0 : Int32) < 0 ∨ 1 ≤ (0 : Int32).toNatClampNeg) by decide) dL_law_2036 ?_
      refine lv_topl (fun y13 hy13 => ?_)
      obtain rfl : 0 = y13 := (hy13.trans (f1989_2)).symm
      refine lv_iload hx hb dL_law_2037 (lv_at hl 0 rfl) ?_
      refine lv_i2l hx hb dL_law_2039 rfl ?_
      refine lv_topl (fun y14 hy14 => ?_)
      obtain rfl : 0 = y14 := (hy14.trans (by decide)).symm
      refine W.lcmp hx hb dL_law_2040 ?_
      refine lv_topi (fun y15 hy15 => ?_)
      obtain rfl : 0 = y15 := (hy15.trans (by decide)).symm
      refine lv_if_eq (tgt := 2046) hx hb dL_law_2041 (by decide) (fun _ => ?_) (fun c9 => absurd (by decide) c9)
      refine lv_goto (tgt := 2131) hx hb dL_law_2046 (by decide) ?_
      refine lv_iinc (v := 6) (lv' := [(4, .int 6), (6, .int 0), (5, .int 0), (3, .ref o), (2, .ref h2), (1, .ref h1), (0, .ref b)]) hx hb dL_law_2131 hl (k := 2) rfl (by decide) (by decide) rfl (fun ls hl => ?_)
      refine lv_goto (tgt := 23) hx hb dL_law_2134 (by decide) ?_
      refine lv_iload hx hb dL_law_23 (lv_at hl 0 rfl) ?_
      refine lv_aload_n hx hb dL_law_25 rfl (lv_at hl 6 rfl) ?_
      refine va_slen hx hb hX hbl hbA hS dL_law_26 ?_
      refine lv_topi (fun y16 hy16 => ?_)
      obtain rfl : 6 = y16 := (hy16.trans (rfl)).symm
      refine lv_bipush (v := 6) hx hb dL_law_27 (by decide) ?_
      refine lv_isub hx hb dL_law_29 ?_
      refine lv_topi (fun y17 hy17 => ?_)
      obtain rfl : 0 = y17 := (hy17.trans (by decide)).symm
      refine lv_icmp_gt (tgt := 2137) hx hb dL_law_30 (by decide) (fun _ => ?_) (fun c9 => absurd (by decide) c9)
      refine lv_iconst (v := 1) hx hb dL_law_2137 (by decide) ?_
      refine W.widen (k := 600002) (n := 7302232) (by decide +kernel) (by decide +kernel) ?_
      refine va_forget (fun q hq => hA2 _ (hS.2.2 q hq)) ?_
      exact lw_ret hx hb hr hlocks dL_law_2138
    · refine lv_istore (lv' := [(6, .int (-1)), (5, .int 0), (4, .int 0), (3, .ref o), (2, .ref h2), (1, .ref h1), (0, .ref b)]) hx hb dL_law_2016 hl (by decide) rfl (fun ls hl => ?_)
      refine lv_aload_n hx hb dL_law_2018 rfl (lv_at hl 4 rfl) ?_
      have hPc := hP.sub (ws' := [(h2, .inr (12, fM w2013))]) [1] rfl
      have hDc := hD.sub (ws' := [(h2, .inr (12, fM w2013))]) [1] (by decide) rfl
      have hKc := hK.sub (tys' := []) [] rfl
      have hFc := va_free (wc := [(h2, .inr (12, fM w2013))]) hD hS hA [1] rfl
      refine va_calli (va_runV (As := []) (rest := []) ⟨hx, hb, hml, hown, hts⟩ (p_X12_thrown l dC dI h2 w2013 0 (f2013_2) H.size) (cwV 0 hts glaw36_2 rfl rfl rfl (by decide +kernel) ⟨by decide +kernel, by decide +kernel⟩) ⟨fun a U g mk q => by obtain ⟨q0, q1, qP, qK, qD⟩ := q; exact ⟨q0, q1, qP, va_K.moved (u := U) (U := U.calling g mk a) (Vm.Alike.refl U.vm) qK, qD⟩, va_recv hKc hPc (ci := 12) (q0 := 0) rfl rfl, fun U hU9 hW => ⟨rfl, by rw [hU9], by rw [hU9]; exact hPc, va_K.moved hW.alike hKc, hDc.weaken (fun _ _ _ _ => trivial)⟩⟩ rfl rfl hl.1 rfl (lv_room (Nat.le_of_ble_eq_true rfl)) dL_law_2019 ⟨by decide +kernel, by decide +kernel⟩) hS (fun q _ h => hFc q h) hFc (fun r2019_1 u t H1 locs ht hvm hw hB hz1 hk1 hS => ?_)
      obtain ⟨hP1, hK1, hD1⟩ := hB
      rw [ht] at hP1
      have hK1 := va_K.moved hvm.symm hK1
      obtain ⟨hP, hD⟩ := va_join (wr := [(o, .inl (kO, 1, .inr (.inl go1989)))]) (w1 := []) hP hD [1] [0] rfl rfl (by decide) (by decide) hk1 hFc hP1 hD1
      generalize H1 = H at hP hS ⊢
      have hP : va_P (dC, dI) vwCl [(o, .inl (kO, 1, .inr (.inl go1989)))] H := hP
      have hD : va_D A [(o, .inl (kO, 1, .inr (.inl go1989)))] := hD
      obtain rfl := hw
      refine lv_iload hx hb dL_law_2022 (lv_at hl 1 rfl) ?_
      refine lv_icmp_eq (tgt := 2029) hx hb dL_law_2024 (by decide) (fun _ => ?_) (fun c9 => absurd (by decide) c9)
      refine lv_iload hx hb dL_law_2029 (lv_at hl 1 rfl) ?_
      refine lv_if_ne (tgt := 2046) hx hb dL_law_2031 (by decide) (fun c9 => absurd c9 (by decide)) (fun _ => ?_)
      refine lv_aload_n hx hb dL_law_2034 rfl (lv_at hl 3 rfl) ?_
      refine lv_iconst (v := 0) hx hb dL_law_2035 (by decide) ?_
      refine va_lald hx hb hK hP 0 1 rfl rfl (show ¬ ((0 : Int32) < 0 ∨ 1 ≤ (0 : Int32).toNatClampNeg) by decide) dL_law_2036 ?_
      refine lv_topl (fun y18 hy18 => ?_)
      obtain rfl : 0 = y18 := (hy18.trans (f1989_2)).symm
      refine lv_iload hx hb dL_law_2037 (lv_at hl 0 rfl) ?_
      refine lv_i2l hx hb dL_law_2039 rfl ?_
      refine lv_topl (fun y19 hy19 => ?_)
      obtain rfl : (-1) = y19 := (hy19.trans (by decide)).symm
      refine W.lcmp hx hb dL_law_2040 ?_
      refine lv_topi (fun y20 hy20 => ?_)
      obtain rfl : 1 = y20 := (hy20.trans (by decide)).symm
      refine lv_if_eq (tgt := 2046) hx hb dL_law_2041 (by decide) (fun c9 => absurd c9 (by decide)) (fun _ => ?_)
      refine lv_iconst (v := 0) hx hb dL_law_2044 (by decide) ?_
      refine W.widen (k := 600002) (n := 7302232) (by decide +kernel) (by decide +kernel) ?_
      exact False.elim (by omega)
    · refine lv_istore (lv' := [(6, .int 0), (5, .int 0), (4, .int 0), (3, .ref o), (2, .ref h2), (1, .ref h1), (0, .ref b)]) hx hb dL_law_2016 hl (by decide) rfl (fun ls hl => ?_)
      refine lv_aload_n hx hb dL_law_2018 rfl (lv_at hl 4 rfl) ?_
      have hPc := hP.sub (ws' := [(h2, .inr (12, fM w2013))]) [1] rfl
      have hDc := hD.sub (ws' := [(h2, .inr (12, fM w2013))]) [1] (by decide) rfl
      have hKc := hK.sub (tys' := []) [] rfl
      have hFc := va_free (wc := [(h2, .inr (12, fM w2013))]) hD hS hA [1] rfl
      refine va_calli (va_runV (As := []) (rest := []) ⟨hx, hb, hml, hown, hts⟩ (p_X12_thrown l dC dI h2 w2013 1 (f2013_1) H.size) (cwV 0 hts glaw36_2 rfl rfl rfl (by decide +kernel) ⟨by decide +kernel, by decide +kernel⟩) ⟨fun a U g mk q => by obtain ⟨q0, q1, qP, qK, qD⟩ := q; exact ⟨q0, q1, qP, va_K.moved (u := U) (U := U.calling g mk a) (Vm.Alike.refl U.vm) qK, qD⟩, va_recv hKc hPc (ci := 12) (q0 := 0) rfl rfl, fun U hU9 hW => ⟨rfl, by rw [hU9], by rw [hU9]; exact hPc, va_K.moved hW.alike hKc, hDc.weaken (fun _ _ _ _ => trivial)⟩⟩ rfl rfl hl.1 rfl (lv_room (Nat.le_of_ble_eq_true rfl)) dL_law_2019 ⟨by decide +kernel, by decide +kernel⟩) hS (fun q _ h => hFc q h) hFc (fun r2019_2 u t H1 locs ht hvm hw hB hz1 hk1 hS => ?_)
      obtain ⟨hP1, hK1, hD1⟩ := hB
      rw [ht] at hP1
      have hK1 := va_K.moved hvm.symm hK1
      obtain ⟨hP, hD⟩ := va_join (wr := [(o, .inl (kO, 1, .inr (.inl go1989)))]) (w1 := []) hP hD [1] [0] rfl rfl (by decide) (by decide) hk1 hFc hP1 hD1
      generalize H1 = H at hP hS ⊢
      have hP : va_P (dC, dI) vwCl [(o, .inl (kO, 1, .inr (.inl go1989)))] H := hP
      have hD : va_D A [(o, .inl (kO, 1, .inr (.inl go1989)))] := hD
      obtain rfl := hw
      refine lv_iload hx hb dL_law_2022 (lv_at hl 1 rfl) ?_
      refine lv_icmp_eq (tgt := 2029) hx hb dL_law_2024 (by decide) (fun c9 => absurd c9 (by decide)) (fun _ => ?_)
      refine lv_iconst (v := 0) hx hb dL_law_2027 (by decide) ?_
      refine W.widen (k := 600002) (n := 7302232) (by decide +kernel) (by decide +kernel) ?_
      exact False.elim (by omega)
    · refine lv_istore (lv' := [(6, .int 0), (5, .int 0), (4, .int 0), (3, .ref o), (2, .ref h2), (1, .ref h1), (0, .ref b)]) hx hb dL_law_2016 hl (by decide) rfl (fun ls hl => ?_)
      refine lv_aload_n hx hb dL_law_2018 rfl (lv_at hl 4 rfl) ?_
      have hPc := hP.sub (ws' := [(h2, .inr (12, fM w2013))]) [1] rfl
      have hDc := hD.sub (ws' := [(h2, .inr (12, fM w2013))]) [1] (by decide) rfl
      have hKc := hK.sub (tys' := []) [] rfl
      have hFc := va_free (wc := [(h2, .inr (12, fM w2013))]) hD hS hA [1] rfl
      refine va_calli (va_runV (As := []) (rest := []) ⟨hx, hb, hml, hown, hts⟩ (p_X12_thrown l dC dI h2 w2013 2 (f2013_1) H.size) (cwV 0 hts glaw36_2 rfl rfl rfl (by decide +kernel) ⟨by decide +kernel, by decide +kernel⟩) ⟨fun a U g mk q => by obtain ⟨q0, q1, qP, qK, qD⟩ := q; exact ⟨q0, q1, qP, va_K.moved (u := U) (U := U.calling g mk a) (Vm.Alike.refl U.vm) qK, qD⟩, va_recv hKc hPc (ci := 12) (q0 := 0) rfl rfl, fun U hU9 hW => ⟨rfl, by rw [hU9], by rw [hU9]; exact hPc, va_K.moved hW.alike hKc, hDc.weaken (fun _ _ _ _ => trivial)⟩⟩ rfl rfl hl.1 rfl (lv_room (Nat.le_of_ble_eq_true rfl)) dL_law_2019 ⟨by decide +kernel, by decide +kernel⟩) hS (fun q _ h => hFc q h) hFc (fun r2019_3 u t H1 locs ht hvm hw hB hz1 hk1 hS => ?_)
      obtain ⟨hP1, hK1, hD1⟩ := hB
      rw [ht] at hP1
      have hK1 := va_K.moved hvm.symm hK1
      obtain ⟨hP, hD⟩ := va_join (wr := [(o, .inl (kO, 1, .inr (.inl go1989)))]) (w1 := []) hP hD [1] [0] rfl rfl (by decide) (by decide) hk1 hFc hP1 hD1
      generalize H1 = H at hP hS ⊢
      have hP : va_P (dC, dI) vwCl [(o, .inl (kO, 1, .inr (.inl go1989)))] H := hP
      have hD : va_D A [(o, .inl (kO, 1, .inr (.inl go1989)))] := hD
      obtain rfl := hw
      refine lv_iload hx hb dL_law_2022 (lv_at hl 1 rfl) ?_
      refine lv_icmp_eq (tgt := 2029) hx hb dL_law_2024 (by decide) (fun c9 => absurd c9 (by decide)) (fun _ => ?_)
      refine lv_iconst (v := 0) hx hb dL_law_2027 (by decide) ?_
      refine W.widen (k := 600002) (n := 7302232) (by decide +kernel) (by decide +kernel) ?_
      exact False.elim (by omega)
  · refine lv_istore (lv' := [(5, .int 0), (4, .int 0), (3, .ref o), (2, .ref h2), (1, .ref h1), (0, .ref b)]) hx hb dL_law_1992 hl (by decide) rfl (fun ls hl => ?_)
    refine lv_aload_n hx hb dL_law_1994 rfl (lv_at hl 3 rfl) ?_
    refine lv_aload_n hx hb dL_law_1995 rfl (lv_at hl 5 rfl) ?_
    refine lv_iload hx hb dL_law_1996 (lv_at hl 1 rfl) ?_
    refine lv_iconst (v := 1) hx hb dL_law_1998 (by decide) ?_
    refine lv_iadd hx hb dL_law_1999 ?_
    refine lv_topi (fun y21 hy21 => ?_)
    obtain rfl : 1 = y21 := (hy21.trans (by decide)).symm
    refine va_sld hx hb hX hbl hbA hS (show ¬ ((1 : Int32) < 0 ∨ 6 ≤ (1 : Int32).toNatClampNeg) by decide) dL_law_2000 ?_
    refine lv_topi (fun y22 hy22 => ?_)
    obtain rfl : (xs 1) = y22 := (hy22.trans (rfl)).symm
    refine lv_aload_n hx hb dL_law_2001 rfl (lv_at hl 5 rfl) ?_
    refine lv_iload hx hb dL_law_2002 (lv_at hl 1 rfl) ?_
    refine lv_iconst (v := 2) hx hb dL_law_2004 (by decide) ?_
    refine lv_iadd hx hb dL_law_2005 ?_
    refine lv_topi (fun y23 hy23 => ?_)
    obtain rfl : 2 = y23 := (hy23.trans (by decide)).symm
    refine va_sld hx hb hX hbl hbA hS (show ¬ ((2 : Int32) < 0 ∨ 6 ≤ (2 : Int32).toNatClampNeg) by decide) dL_law_2006 ?_
    refine lv_topi (fun y24 hy24 => ?_)
    obtain rfl : (xs 2) = y24 := (hy24.trans (rfl)).symm
    refine lv_aload_n hx hb dL_law_2007 rfl (lv_at hl 5 rfl) ?_
    refine lv_iload hx hb dL_law_2008 (lv_at hl 1 rfl) ?_
    refine lv_iconst (v := 3) hx hb dL_law_2010 (by decide) ?_
    refine lv_iadd hx hb dL_law_2011 ?_
    refine lv_topi (fun y25 hy25 => ?_)
    obtain rfl : 3 = y25 := (hy25.trans (by decide)).symm
    refine va_sld hx hb hX hbl hbA hS (show ¬ ((3 : Int32) < 0 ∨ 6 ≤ (3 : Int32).toNatClampNeg) by decide) dL_law_2012 ?_
    refine lv_topi (fun y26 hy26 => ?_)
    obtain rfl : (xs 3) = y26 := (hy26.trans (rfl)).symm
    have hPc := hP.sub (ws' := [(h2, .inr (12, fM (vM av))), ((av 102), .inl ((kv 102), 12, .inl (fun _ => 0)))]) [0, 1] rfl
    have hDc := hD.sub (ws' := [(h2, .inr (12, fM (vM av))), ((av 102), .inl ((kv 102), 12, .inl (fun _ => 0)))]) [0, 1] (by decide) rfl
    have hKc := hK.sub (tys' := [((kv 102), .int)]) [0] rfl
    have hFc := va_free (wc := [(h2, .inr (12, fM (vM av))), ((av 102), .inl ((kv 102), 12, .inl (fun _ => 0)))]) hD hS hA [0, 1] rfl
    refine va_calli (va_runV (As := [.int (xs 1), .int (xs 2), .int (xs 3)]) (rest := []) ⟨hx, hb, hml, hown, hts⟩ (p_X12_path l dC dI h2 (vM av) (rfl) (av 102) (rfl) (kv 102) (fun _ => 0) (xs 1) (xs 2) (xs 3) H.size) (cwV 3 hts glaw36_1 rfl rfl rfl (by decide +kernel) ⟨by decide +kernel, by decide +kernel⟩) ⟨fun a U g mk q => by obtain ⟨q0, q1, qP, qK, qD⟩ := q; exact ⟨q0, q1, qP, va_K.moved (u := U) (U := U.calling g mk a) (Vm.Alike.refl U.vm) qK, qD⟩, va_recv hKc hPc (ci := 12) (q0 := 0) rfl rfl, fun U hU9 hW => ⟨rfl, by rw [hU9], by rw [hU9]; exact hPc, va_K.moved hW.alike hKc, hDc.weaken (fun _ _ _ _ => trivial)⟩⟩ rfl rfl hl.1 rfl (lv_room (Nat.le_of_ble_eq_true rfl)) dL_law_2013 ⟨by decide +kernel, by decide +kernel⟩) hS (fun q _ h => hFc q h) hFc (fun r2013_1 u t H1 locs ht hvm hw hB hz1 hk1 hS => ?_)
    obtain ⟨w2013_1, hwit2013_1⟩ : ∃ w9, w9 = u := ⟨u, rfl⟩
    subst hwit2013_1
    obtain ⟨hP1, hK1, hD1⟩ := hB
    rw [ht] at hP1
    have hK1 := va_K.moved hvm.symm hK1
    obtain ⟨hP, hD⟩ := va_join (wr := [(o, .inl (kO, 1, .inr (.inl go1989)))]) (w1 := [(h2, .inr (12, fM w2013_1))]) hP hD [0, 1] [2] rfl rfl (by decide) (by decide) hk1 hFc hP1 hD1
    generalize H1 = H at hP hS ⊢
    have hP : va_P (dC, dI) vwCl [(o, .inl (kO, 1, .inr (.inl go1989))), (h2, .inr (12, fM w2013_1))] H := hP
    have hD : va_D A [(o, .inl (kO, 1, .inr (.inl go1989))), (h2, .inr (12, fM w2013_1))] := hD
    rcases hw with ⟨rfl, f2013_1_0, f2013_1_1, f2013_1_2⟩ | ⟨rfl, f2013_1_0, f2013_1_1, f2013_1_2⟩ | ⟨rfl, f2013_1_0, f2013_1_1⟩ | ⟨rfl, f2013_1_0, f2013_1_1⟩
    · refine lv_istore (lv' := [(6, .int 0), (5, .int 0), (4, .int 0), (3, .ref o), (2, .ref h2), (1, .ref h1), (0, .ref b)]) hx hb dL_law_2016 hl (by decide) rfl (fun ls hl => ?_)
      refine lv_aload_n hx hb dL_law_2018 rfl (lv_at hl 4 rfl) ?_
      have hPc := hP.sub (ws' := [(h2, .inr (12, fM w2013_1))]) [1] rfl
      have hDc := hD.sub (ws' := [(h2, .inr (12, fM w2013_1))]) [1] (by decide) rfl
      have hKc := hK.sub (tys' := []) [] rfl
      have hFc := va_free (wc := [(h2, .inr (12, fM w2013_1))]) hD hS hA [1] rfl
      refine va_calli (va_runV (As := []) (rest := []) ⟨hx, hb, hml, hown, hts⟩ (p_X12_thrown l dC dI h2 w2013_1 0 (f2013_1_2) H.size) (cwV 0 hts glaw36_2 rfl rfl rfl (by decide +kernel) ⟨by decide +kernel, by decide +kernel⟩) ⟨fun a U g mk q => by obtain ⟨q0, q1, qP, qK, qD⟩ := q; exact ⟨q0, q1, qP, va_K.moved (u := U) (U := U.calling g mk a) (Vm.Alike.refl U.vm) qK, qD⟩, va_recv hKc hPc (ci := 12) (q0 := 0) rfl rfl, fun U hU9 hW => ⟨rfl, by rw [hU9], by rw [hU9]; exact hPc, va_K.moved hW.alike hKc, hDc.weaken (fun _ _ _ _ => trivial)⟩⟩ rfl rfl hl.1 rfl (lv_room (Nat.le_of_ble_eq_true rfl)) dL_law_2019 ⟨by decide +kernel, by decide +kernel⟩) hS (fun q _ h => hFc q h) hFc (fun r2019_4 u t H1 locs ht hvm hw hB hz1 hk1 hS => ?_)
      obtain ⟨hP1, hK1, hD1⟩ := hB
      rw [ht] at hP1
      have hK1 := va_K.moved hvm.symm hK1
      obtain ⟨hP, hD⟩ := va_join (wr := [(o, .inl (kO, 1, .inr (.inl go1989)))]) (w1 := []) hP hD [1] [0] rfl rfl (by decide) (by decide) hk1 hFc hP1 hD1
      generalize H1 = H at hP hS ⊢
      have hP : va_P (dC, dI) vwCl [(o, .inl (kO, 1, .inr (.inl go1989)))] H := hP
      have hD : va_D A [(o, .inl (kO, 1, .inr (.inl go1989)))] := hD
      obtain rfl := hw
      refine lv_iload hx hb dL_law_2022 (lv_at hl 1 rfl) ?_
      refine lv_icmp_eq (tgt := 2029) hx hb dL_law_2024 (by decide) (fun _ => ?_) (fun c9 => absurd (by decide) c9)
      refine lv_iload hx hb dL_law_2029 (lv_at hl 1 rfl) ?_
      refine lv_if_ne (tgt := 2046) hx hb dL_law_2031 (by decide) (fun c9 => absurd c9 (by decide)) (fun _ => ?_)
      refine lv_aload_n hx hb dL_law_2034 rfl (lv_at hl 3 rfl) ?_
      refine lv_iconst (v := 0) hx hb dL_law_2035 (by decide) ?_
      refine va_lald hx hb hK hP 0 1 rfl rfl (show ¬ ((0 : Int32) < 0 ∨ 1 ≤ (0 : Int32).toNatClampNeg) by decide) dL_law_2036 ?_
      refine lv_topl (fun y27 hy27 => ?_)
      obtain rfl : (-1) = y27 := (hy27.trans (f1989_2)).symm
      refine lv_iload hx hb dL_law_2037 (lv_at hl 0 rfl) ?_
      refine lv_i2l hx hb dL_law_2039 rfl ?_
      refine lv_topl (fun y28 hy28 => ?_)
      obtain rfl : 0 = y28 := (hy28.trans (by decide)).symm
      refine W.lcmp hx hb dL_law_2040 ?_
      refine lv_topi (fun y29 hy29 => ?_)
      obtain rfl : (-1) = y29 := (hy29.trans (by decide)).symm
      refine lv_if_eq (tgt := 2046) hx hb dL_law_2041 (by decide) (fun c9 => absurd c9 (by decide)) (fun _ => ?_)
      refine lv_iconst (v := 0) hx hb dL_law_2044 (by decide) ?_
      refine W.widen (k := 600002) (n := 7302232) (by decide +kernel) (by decide +kernel) ?_
      exact False.elim (by omega)
    · refine lv_istore (lv' := [(6, .int (-1)), (5, .int 0), (4, .int 0), (3, .ref o), (2, .ref h2), (1, .ref h1), (0, .ref b)]) hx hb dL_law_2016 hl (by decide) rfl (fun ls hl => ?_)
      refine lv_aload_n hx hb dL_law_2018 rfl (lv_at hl 4 rfl) ?_
      have hPc := hP.sub (ws' := [(h2, .inr (12, fM w2013_1))]) [1] rfl
      have hDc := hD.sub (ws' := [(h2, .inr (12, fM w2013_1))]) [1] (by decide) rfl
      have hKc := hK.sub (tys' := []) [] rfl
      have hFc := va_free (wc := [(h2, .inr (12, fM w2013_1))]) hD hS hA [1] rfl
      refine va_calli (va_runV (As := []) (rest := []) ⟨hx, hb, hml, hown, hts⟩ (p_X12_thrown l dC dI h2 w2013_1 0 (f2013_1_2) H.size) (cwV 0 hts glaw36_2 rfl rfl rfl (by decide +kernel) ⟨by decide +kernel, by decide +kernel⟩) ⟨fun a U g mk q => by obtain ⟨q0, q1, qP, qK, qD⟩ := q; exact ⟨q0, q1, qP, va_K.moved (u := U) (U := U.calling g mk a) (Vm.Alike.refl U.vm) qK, qD⟩, va_recv hKc hPc (ci := 12) (q0 := 0) rfl rfl, fun U hU9 hW => ⟨rfl, by rw [hU9], by rw [hU9]; exact hPc, va_K.moved hW.alike hKc, hDc.weaken (fun _ _ _ _ => trivial)⟩⟩ rfl rfl hl.1 rfl (lv_room (Nat.le_of_ble_eq_true rfl)) dL_law_2019 ⟨by decide +kernel, by decide +kernel⟩) hS (fun q _ h => hFc q h) hFc (fun r2019_5 u t H1 locs ht hvm hw hB hz1 hk1 hS => ?_)
      obtain ⟨hP1, hK1, hD1⟩ := hB
      rw [ht] at hP1
      have hK1 := va_K.moved hvm.symm hK1
      obtain ⟨hP, hD⟩ := va_join (wr := [(o, .inl (kO, 1, .inr (.inl go1989)))]) (w1 := []) hP hD [1] [0] rfl rfl (by decide) (by decide) hk1 hFc hP1 hD1
      generalize H1 = H at hP hS ⊢
      have hP : va_P (dC, dI) vwCl [(o, .inl (kO, 1, .inr (.inl go1989)))] H := hP
      have hD : va_D A [(o, .inl (kO, 1, .inr (.inl go1989)))] := hD
      obtain rfl := hw
      refine lv_iload hx hb dL_law_2022 (lv_at hl 1 rfl) ?_
      refine lv_icmp_eq (tgt := 2029) hx hb dL_law_2024 (by decide) (fun _ => ?_) (fun c9 => absurd (by decide) c9)
      refine lv_iload hx hb dL_law_2029 (lv_at hl 1 rfl) ?_
      refine lv_if_ne (tgt := 2046) hx hb dL_law_2031 (by decide) (fun c9 => absurd c9 (by decide)) (fun _ => ?_)
      refine lv_aload_n hx hb dL_law_2034 rfl (lv_at hl 3 rfl) ?_
      refine lv_iconst (v := 0) hx hb dL_law_2035 (by decide) ?_
      refine va_lald hx hb hK hP 0 1 rfl rfl (show ¬ ((0 : Int32) < 0 ∨ 1 ≤ (0 : Int32).toNatClampNeg) by decide) dL_law_2036 ?_
      refine lv_topl (fun y30 hy30 => ?_)
      obtain rfl : (-1) = y30 := (hy30.trans (f1989_2)).symm
      refine lv_iload hx hb dL_law_2037 (lv_at hl 0 rfl) ?_
      refine lv_i2l hx hb dL_law_2039 rfl ?_
      refine lv_topl (fun y31 hy31 => ?_)
      obtain rfl : (-1) = y31 := (hy31.trans (by decide)).symm
      refine W.lcmp hx hb dL_law_2040 ?_
      refine lv_topi (fun y32 hy32 => ?_)
      obtain rfl : 0 = y32 := (hy32.trans (by decide)).symm
      refine lv_if_eq (tgt := 2046) hx hb dL_law_2041 (by decide) (fun _ => ?_) (fun c9 => absurd (by decide) c9)
      refine lv_goto (tgt := 2131) hx hb dL_law_2046 (by decide) ?_
      refine lv_iinc (v := 6) (lv' := [(4, .int 6), (6, .int (-1)), (5, .int 0), (3, .ref o), (2, .ref h2), (1, .ref h1), (0, .ref b)]) hx hb dL_law_2131 hl (k := 2) rfl (by decide) (by decide) rfl (fun ls hl => ?_)
      refine lv_goto (tgt := 23) hx hb dL_law_2134 (by decide) ?_
      refine lv_iload hx hb dL_law_23 (lv_at hl 0 rfl) ?_
      refine lv_aload_n hx hb dL_law_25 rfl (lv_at hl 6 rfl) ?_
      refine va_slen hx hb hX hbl hbA hS dL_law_26 ?_
      refine lv_topi (fun y33 hy33 => ?_)
      obtain rfl : 6 = y33 := (hy33.trans (rfl)).symm
      refine lv_bipush (v := 6) hx hb dL_law_27 (by decide) ?_
      refine lv_isub hx hb dL_law_29 ?_
      refine lv_topi (fun y34 hy34 => ?_)
      obtain rfl : 0 = y34 := (hy34.trans (by decide)).symm
      refine lv_icmp_gt (tgt := 2137) hx hb dL_law_30 (by decide) (fun _ => ?_) (fun c9 => absurd (by decide) c9)
      refine lv_iconst (v := 1) hx hb dL_law_2137 (by decide) ?_
      refine W.widen (k := 600002) (n := 7302232) (by decide +kernel) (by decide +kernel) ?_
      refine va_forget (fun q hq => hA2 _ (hS.2.2 q hq)) ?_
      exact lw_ret hx hb hr hlocks dL_law_2138
    · refine lv_istore (lv' := [(6, .int 0), (5, .int 0), (4, .int 0), (3, .ref o), (2, .ref h2), (1, .ref h1), (0, .ref b)]) hx hb dL_law_2016 hl (by decide) rfl (fun ls hl => ?_)
      refine lv_aload_n hx hb dL_law_2018 rfl (lv_at hl 4 rfl) ?_
      have hPc := hP.sub (ws' := [(h2, .inr (12, fM w2013_1))]) [1] rfl
      have hDc := hD.sub (ws' := [(h2, .inr (12, fM w2013_1))]) [1] (by decide) rfl
      have hKc := hK.sub (tys' := []) [] rfl
      have hFc := va_free (wc := [(h2, .inr (12, fM w2013_1))]) hD hS hA [1] rfl
      refine va_calli (va_runV (As := []) (rest := []) ⟨hx, hb, hml, hown, hts⟩ (p_X12_thrown l dC dI h2 w2013_1 1 (f2013_1_1) H.size) (cwV 0 hts glaw36_2 rfl rfl rfl (by decide +kernel) ⟨by decide +kernel, by decide +kernel⟩) ⟨fun a U g mk q => by obtain ⟨q0, q1, qP, qK, qD⟩ := q; exact ⟨q0, q1, qP, va_K.moved (u := U) (U := U.calling g mk a) (Vm.Alike.refl U.vm) qK, qD⟩, va_recv hKc hPc (ci := 12) (q0 := 0) rfl rfl, fun U hU9 hW => ⟨rfl, by rw [hU9], by rw [hU9]; exact hPc, va_K.moved hW.alike hKc, hDc.weaken (fun _ _ _ _ => trivial)⟩⟩ rfl rfl hl.1 rfl (lv_room (Nat.le_of_ble_eq_true rfl)) dL_law_2019 ⟨by decide +kernel, by decide +kernel⟩) hS (fun q _ h => hFc q h) hFc (fun r2019_6 u t H1 locs ht hvm hw hB hz1 hk1 hS => ?_)
      obtain ⟨hP1, hK1, hD1⟩ := hB
      rw [ht] at hP1
      have hK1 := va_K.moved hvm.symm hK1
      obtain ⟨hP, hD⟩ := va_join (wr := [(o, .inl (kO, 1, .inr (.inl go1989)))]) (w1 := []) hP hD [1] [0] rfl rfl (by decide) (by decide) hk1 hFc hP1 hD1
      generalize H1 = H at hP hS ⊢
      have hP : va_P (dC, dI) vwCl [(o, .inl (kO, 1, .inr (.inl go1989)))] H := hP
      have hD : va_D A [(o, .inl (kO, 1, .inr (.inl go1989)))] := hD
      obtain rfl := hw
      refine lv_iload hx hb dL_law_2022 (lv_at hl 1 rfl) ?_
      refine lv_icmp_eq (tgt := 2029) hx hb dL_law_2024 (by decide) (fun c9 => absurd c9 (by decide)) (fun _ => ?_)
      refine lv_iconst (v := 0) hx hb dL_law_2027 (by decide) ?_
      refine W.widen (k := 600002) (n := 7302232) (by decide +kernel) (by decide +kernel) ?_
      exact False.elim (by omega)
    · refine lv_istore (lv' := [(6, .int 0), (5, .int 0), (4, .int 0), (3, .ref o), (2, .ref h2), (1, .ref h1), (0, .ref b)]) hx hb dL_law_2016 hl (by decide) rfl (fun ls hl => ?_)
      refine lv_aload_n hx hb dL_law_2018 rfl (lv_at hl 4 rfl) ?_
      have hPc := hP.sub (ws' := [(h2, .inr (12, fM w2013_1))]) [1] rfl
      have hDc := hD.sub (ws' := [(h2, .inr (12, fM w2013_1))]) [1] (by decide) rfl
      have hKc := hK.sub (tys' := []) [] rfl
      have hFc := va_free (wc := [(h2, .inr (12, fM w2013_1))]) hD hS hA [1] rfl
      refine va_calli (va_runV (As := []) (rest := []) ⟨hx, hb, hml, hown, hts⟩ (p_X12_thrown l dC dI h2 w2013_1 2 (f2013_1_1) H.size) (cwV 0 hts glaw36_2 rfl rfl rfl (by decide +kernel) ⟨by decide +kernel, by decide +kernel⟩) ⟨fun a U g mk q => by obtain ⟨q0, q1, qP, qK, qD⟩ := q; exact ⟨q0, q1, qP, va_K.moved (u := U) (U := U.calling g mk a) (Vm.Alike.refl U.vm) qK, qD⟩, va_recv hKc hPc (ci := 12) (q0 := 0) rfl rfl, fun U hU9 hW => ⟨rfl, by rw [hU9], by rw [hU9]; exact hPc, va_K.moved hW.alike hKc, hDc.weaken (fun _ _ _ _ => trivial)⟩⟩ rfl rfl hl.1 rfl (lv_room (Nat.le_of_ble_eq_true rfl)) dL_law_2019 ⟨by decide +kernel, by decide +kernel⟩) hS (fun q _ h => hFc q h) hFc (fun r2019_7 u t H1 locs ht hvm hw hB hz1 hk1 hS => ?_)
      obtain ⟨hP1, hK1, hD1⟩ := hB
      rw [ht] at hP1
      have hK1 := va_K.moved hvm.symm hK1
      obtain ⟨hP, hD⟩ := va_join (wr := [(o, .inl (kO, 1, .inr (.inl go1989)))]) (w1 := []) hP hD [1] [0] rfl rfl (by decide) (by decide) hk1 hFc hP1 hD1
      generalize H1 = H at hP hS ⊢
      have hP : va_P (dC, dI) vwCl [(o, .inl (kO, 1, .inr (.inl go1989)))] H := hP
      have hD : va_D A [(o, .inl (kO, 1, .inr (.inl go1989)))] := hD
      obtain rfl := hw
      refine lv_iload hx hb dL_law_2022 (lv_at hl 1 rfl) ?_
      refine lv_icmp_eq (tgt := 2029) hx hb dL_law_2024 (by decide) (fun c9 => absurd c9 (by decide)) (fun _ => ?_)
      refine lv_iconst (v := 0) hx hb dL_law_2027 (by decide) ?_
      refine W.widen (k := 600002) (n := 7302232) (by decide +kernel) (by decide +kernel) ?_
      exact False.elim (by omega)
  · refine lv_istore (lv' := [(5, .int 1), (4, .int 0), (3, .ref o), (2, .ref h2), (1, .ref h1), (0, .ref b)]) hx hb dL_law_1992 hl (by decide) rfl (fun ls hl => ?_)
    refine lv_aload_n hx hb dL_law_1994 rfl (lv_at hl 3 rfl) ?_
    refine lv_aload_n hx hb dL_law_1995 rfl (lv_at hl 5 rfl) ?_
    refine lv_iload hx hb dL_law_1996 (lv_at hl 1 rfl) ?_
    refine lv_iconst (v := 1) hx hb dL_law_1998 (by decide) ?_
    refine lv_iadd hx hb dL_law_1999 ?_
    refine lv_topi (fun y35 hy35 => ?_)
    obtain rfl : 1 = y35 := (hy35.trans (by decide)).symm
    refine va_sld hx hb hX hbl hbA hS (show ¬ ((1 : Int32) < 0 ∨ 6 ≤ (1 : Int32).toNatClampNeg) by decide) dL_law_2000 ?_
    refine lv_topi (fun y36 hy36 => ?_)
    obtain rfl : (xs 1) = y36 := (hy36.trans (rfl)).symm
    refine lv_aload_n hx hb dL_law_2001 rfl (lv_at hl 5 rfl) ?_
    refine lv_iload hx hb dL_law_2002 (lv_at hl 1 rfl) ?_
    refine lv_iconst (v := 2) hx hb dL_law_2004 (by decide) ?_
    refine lv_iadd hx hb dL_law_2005 ?_
    refine lv_topi (fun y37 hy37 => ?_)
    obtain rfl : 2 = y37 := (hy37.trans (by decide)).symm
    refine va_sld hx hb hX hbl hbA hS (show ¬ ((2 : Int32) < 0 ∨ 6 ≤ (2 : Int32).toNatClampNeg) by decide) dL_law_2006 ?_
    refine lv_topi (fun y38 hy38 => ?_)
    obtain rfl : (xs 2) = y38 := (hy38.trans (rfl)).symm
    refine lv_aload_n hx hb dL_law_2007 rfl (lv_at hl 5 rfl) ?_
    refine lv_iload hx hb dL_law_2008 (lv_at hl 1 rfl) ?_
    refine lv_iconst (v := 3) hx hb dL_law_2010 (by decide) ?_
    refine lv_iadd hx hb dL_law_2011 ?_
    refine lv_topi (fun y39 hy39 => ?_)
    obtain rfl : 3 = y39 := (hy39.trans (by decide)).symm
    refine va_sld hx hb hX hbl hbA hS (show ¬ ((3 : Int32) < 0 ∨ 6 ≤ (3 : Int32).toNatClampNeg) by decide) dL_law_2012 ?_
    refine lv_topi (fun y40 hy40 => ?_)
    obtain rfl : (xs 3) = y40 := (hy40.trans (rfl)).symm
    have hPc := hP.sub (ws' := [(h2, .inr (12, fM (vM av))), ((av 102), .inl ((kv 102), 12, .inl (fun _ => 0)))]) [0, 1] rfl
    have hDc := hD.sub (ws' := [(h2, .inr (12, fM (vM av))), ((av 102), .inl ((kv 102), 12, .inl (fun _ => 0)))]) [0, 1] (by decide) rfl
    have hKc := hK.sub (tys' := [((kv 102), .int)]) [0] rfl
    have hFc := va_free (wc := [(h2, .inr (12, fM (vM av))), ((av 102), .inl ((kv 102), 12, .inl (fun _ => 0)))]) hD hS hA [0, 1] rfl
    refine va_calli (va_runV (As := [.int (xs 1), .int (xs 2), .int (xs 3)]) (rest := []) ⟨hx, hb, hml, hown, hts⟩ (p_X12_path l dC dI h2 (vM av) (rfl) (av 102) (rfl) (kv 102) (fun _ => 0) (xs 1) (xs 2) (xs 3) H.size) (cwV 3 hts glaw36_1 rfl rfl rfl (by decide +kernel) ⟨by decide +kernel, by decide +kernel⟩) ⟨fun a U g mk q => by obtain ⟨q0, q1, qP, qK, qD⟩ := q; exact ⟨q0, q1, qP, va_K.moved (u := U) (U := U.calling g mk a) (Vm.Alike.refl U.vm) qK, qD⟩, va_recv hKc hPc (ci := 12) (q0 := 0) rfl rfl, fun U hU9 hW => ⟨rfl, by rw [hU9], by rw [hU9]; exact hPc, va_K.moved hW.alike hKc, hDc.weaken (fun _ _ _ _ => trivial)⟩⟩ rfl rfl hl.1 rfl (lv_room (Nat.le_of_ble_eq_true rfl)) dL_law_2013 ⟨by decide +kernel, by decide +kernel⟩) hS (fun q _ h => hFc q h) hFc (fun r2013_2 u t H1 locs ht hvm hw hB hz1 hk1 hS => ?_)
    obtain ⟨w2013_2, hwit2013_2⟩ : ∃ w9, w9 = u := ⟨u, rfl⟩
    subst hwit2013_2
    obtain ⟨hP1, hK1, hD1⟩ := hB
    rw [ht] at hP1
    have hK1 := va_K.moved hvm.symm hK1
    obtain ⟨hP, hD⟩ := va_join (wr := [(o, .inl (kO, 1, .inr (.inl go1989)))]) (w1 := [(h2, .inr (12, fM w2013_2))]) hP hD [0, 1] [2] rfl rfl (by decide) (by decide) hk1 hFc hP1 hD1
    generalize H1 = H at hP hS ⊢
    have hP : va_P (dC, dI) vwCl [(o, .inl (kO, 1, .inr (.inl go1989))), (h2, .inr (12, fM w2013_2))] H := hP
    have hD : va_D A [(o, .inl (kO, 1, .inr (.inl go1989))), (h2, .inr (12, fM w2013_2))] := hD
    rcases hw with ⟨rfl, f2013_2_0, f2013_2_1, f2013_2_2⟩ | ⟨rfl, f2013_2_0, f2013_2_1, f2013_2_2⟩ | ⟨rfl, f2013_2_0, f2013_2_1⟩ | ⟨rfl, f2013_2_0, f2013_2_1⟩
    · refine lv_istore (lv' := [(6, .int 0), (5, .int 1), (4, .int 0), (3, .ref o), (2, .ref h2), (1, .ref h1), (0, .ref b)]) hx hb dL_law_2016 hl (by decide) rfl (fun ls hl => ?_)
      refine lv_aload_n hx hb dL_law_2018 rfl (lv_at hl 4 rfl) ?_
      have hPc := hP.sub (ws' := [(h2, .inr (12, fM w2013_2))]) [1] rfl
      have hDc := hD.sub (ws' := [(h2, .inr (12, fM w2013_2))]) [1] (by decide) rfl
      have hKc := hK.sub (tys' := []) [] rfl
      have hFc := va_free (wc := [(h2, .inr (12, fM w2013_2))]) hD hS hA [1] rfl
      refine va_calli (va_runV (As := []) (rest := []) ⟨hx, hb, hml, hown, hts⟩ (p_X12_thrown l dC dI h2 w2013_2 0 (f2013_2_2) H.size) (cwV 0 hts glaw36_2 rfl rfl rfl (by decide +kernel) ⟨by decide +kernel, by decide +kernel⟩) ⟨fun a U g mk q => by obtain ⟨q0, q1, qP, qK, qD⟩ := q; exact ⟨q0, q1, qP, va_K.moved (u := U) (U := U.calling g mk a) (Vm.Alike.refl U.vm) qK, qD⟩, va_recv hKc hPc (ci := 12) (q0 := 0) rfl rfl, fun U hU9 hW => ⟨rfl, by rw [hU9], by rw [hU9]; exact hPc, va_K.moved hW.alike hKc, hDc.weaken (fun _ _ _ _ => trivial)⟩⟩ rfl rfl hl.1 rfl (lv_room (Nat.le_of_ble_eq_true rfl)) dL_law_2019 ⟨by decide +kernel, by decide +kernel⟩) hS (fun q _ h => hFc q h) hFc (fun r2019_8 u t H1 locs ht hvm hw hB hz1 hk1 hS => ?_)
      obtain ⟨hP1, hK1, hD1⟩ := hB
      rw [ht] at hP1
      have hK1 := va_K.moved hvm.symm hK1
      obtain ⟨hP, hD⟩ := va_join (wr := [(o, .inl (kO, 1, .inr (.inl go1989)))]) (w1 := []) hP hD [1] [0] rfl rfl (by decide) (by decide) hk1 hFc hP1 hD1
      generalize H1 = H at hP hS ⊢
      have hP : va_P (dC, dI) vwCl [(o, .inl (kO, 1, .inr (.inl go1989)))] H := hP
      have hD : va_D A [(o, .inl (kO, 1, .inr (.inl go1989)))] := hD
      obtain rfl := hw
      refine lv_iload hx hb dL_law_2022 (lv_at hl 1 rfl) ?_
      refine lv_icmp_eq (tgt := 2029) hx hb dL_law_2024 (by decide) (fun c9 => absurd c9 (by decide)) (fun _ => ?_)
      refine lv_iconst (v := 0) hx hb dL_law_2027 (by decide) ?_
      refine W.widen (k := 600002) (n := 7302232) (by decide +kernel) (by decide +kernel) ?_
      exact False.elim (by omega)
    · refine lv_istore (lv' := [(6, .int (-1)), (5, .int 1), (4, .int 0), (3, .ref o), (2, .ref h2), (1, .ref h1), (0, .ref b)]) hx hb dL_law_2016 hl (by decide) rfl (fun ls hl => ?_)
      refine lv_aload_n hx hb dL_law_2018 rfl (lv_at hl 4 rfl) ?_
      have hPc := hP.sub (ws' := [(h2, .inr (12, fM w2013_2))]) [1] rfl
      have hDc := hD.sub (ws' := [(h2, .inr (12, fM w2013_2))]) [1] (by decide) rfl
      have hKc := hK.sub (tys' := []) [] rfl
      have hFc := va_free (wc := [(h2, .inr (12, fM w2013_2))]) hD hS hA [1] rfl
      refine va_calli (va_runV (As := []) (rest := []) ⟨hx, hb, hml, hown, hts⟩ (p_X12_thrown l dC dI h2 w2013_2 0 (f2013_2_2) H.size) (cwV 0 hts glaw36_2 rfl rfl rfl (by decide +kernel) ⟨by decide +kernel, by decide +kernel⟩) ⟨fun a U g mk q => by obtain ⟨q0, q1, qP, qK, qD⟩ := q; exact ⟨q0, q1, qP, va_K.moved (u := U) (U := U.calling g mk a) (Vm.Alike.refl U.vm) qK, qD⟩, va_recv hKc hPc (ci := 12) (q0 := 0) rfl rfl, fun U hU9 hW => ⟨rfl, by rw [hU9], by rw [hU9]; exact hPc, va_K.moved hW.alike hKc, hDc.weaken (fun _ _ _ _ => trivial)⟩⟩ rfl rfl hl.1 rfl (lv_room (Nat.le_of_ble_eq_true rfl)) dL_law_2019 ⟨by decide +kernel, by decide +kernel⟩) hS (fun q _ h => hFc q h) hFc (fun r2019_9 u t H1 locs ht hvm hw hB hz1 hk1 hS => ?_)
      obtain ⟨hP1, hK1, hD1⟩ := hB
      rw [ht] at hP1
      have hK1 := va_K.moved hvm.symm hK1
      obtain ⟨hP, hD⟩ := va_join (wr := [(o, .inl (kO, 1, .inr (.inl go1989)))]) (w1 := []) hP hD [1] [0] rfl rfl (by decide) (by decide) hk1 hFc hP1 hD1
      generalize H1 = H at hP hS ⊢
      have hP : va_P (dC, dI) vwCl [(o, .inl (kO, 1, .inr (.inl go1989)))] H := hP
      have hD : va_D A [(o, .inl (kO, 1, .inr (.inl go1989)))] := hD
      obtain rfl := hw
      refine lv_iload hx hb dL_law_2022 (lv_at hl 1 rfl) ?_
      refine lv_icmp_eq (tgt := 2029) hx hb dL_law_2024 (by decide) (fun c9 => absurd c9 (by decide)) (fun _ => ?_)
      refine lv_iconst (v := 0) hx hb dL_law_2027 (by decide) ?_
      refine W.widen (k := 600002) (n := 7302232) (by decide +kernel) (by decide +kernel) ?_
      exact False.elim (by omega)
    · refine lv_istore (lv' := [(6, .int 0), (5, .int 1), (4, .int 0), (3, .ref o), (2, .ref h2), (1, .ref h1), (0, .ref b)]) hx hb dL_law_2016 hl (by decide) rfl (fun ls hl => ?_)
      refine lv_aload_n hx hb dL_law_2018 rfl (lv_at hl 4 rfl) ?_
      have hPc := hP.sub (ws' := [(h2, .inr (12, fM w2013_2))]) [1] rfl
      have hDc := hD.sub (ws' := [(h2, .inr (12, fM w2013_2))]) [1] (by decide) rfl
      have hKc := hK.sub (tys' := []) [] rfl
      have hFc := va_free (wc := [(h2, .inr (12, fM w2013_2))]) hD hS hA [1] rfl
      refine va_calli (va_runV (As := []) (rest := []) ⟨hx, hb, hml, hown, hts⟩ (p_X12_thrown l dC dI h2 w2013_2 1 (f2013_2_1) H.size) (cwV 0 hts glaw36_2 rfl rfl rfl (by decide +kernel) ⟨by decide +kernel, by decide +kernel⟩) ⟨fun a U g mk q => by obtain ⟨q0, q1, qP, qK, qD⟩ := q; exact ⟨q0, q1, qP, va_K.moved (u := U) (U := U.calling g mk a) (Vm.Alike.refl U.vm) qK, qD⟩, va_recv hKc hPc (ci := 12) (q0 := 0) rfl rfl, fun U hU9 hW => ⟨rfl, by rw [hU9], by rw [hU9]; exact hPc, va_K.moved hW.alike hKc, hDc.weaken (fun _ _ _ _ => trivial)⟩⟩ rfl rfl hl.1 rfl (lv_room (Nat.le_of_ble_eq_true rfl)) dL_law_2019 ⟨by decide +kernel, by decide +kernel⟩) hS (fun q _ h => hFc q h) hFc (fun r2019_10 u t H1 locs ht hvm hw hB hz1 hk1 hS => ?_)
      obtain ⟨hP1, hK1, hD1⟩ := hB
      rw [ht] at hP1
      have hK1 := va_K.moved hvm.symm hK1
      obtain ⟨hP, hD⟩ := va_join (wr := [(o, .inl (kO, 1, .inr (.inl go1989)))]) (w1 := []) hP hD [1] [0] rfl rfl (by decide) (by decide) hk1 hFc hP1 hD1
      generalize H1 = H at hP hS ⊢
      have hP : va_P (dC, dI) vwCl [(o, .inl (kO, 1, .inr (.inl go1989)))] H := hP
      have hD : va_D A [(o, .inl (kO, 1, .inr (.inl go1989)))] := hD
      obtain rfl := hw
      refine lv_iload hx hb dL_law_2022 (lv_at hl 1 rfl) ?_
      refine lv_icmp_eq (tgt := 2029) hx hb dL_law_2024 (by decide) (fun _ => ?_) (fun c9 => absurd (by decide) c9)
      refine lv_iload hx hb dL_law_2029 (lv_at hl 1 rfl) ?_
      refine lv_if_ne (tgt := 2046) hx hb dL_law_2031 (by decide) (fun _ => ?_) (fun c9 => absurd c9 (by decide))
      refine lv_goto (tgt := 2131) hx hb dL_law_2046 (by decide) ?_
      refine lv_iinc (v := 6) (lv' := [(4, .int 6), (6, .int 0), (5, .int 1), (3, .ref o), (2, .ref h2), (1, .ref h1), (0, .ref b)]) hx hb dL_law_2131 hl (k := 2) rfl (by decide) (by decide) rfl (fun ls hl => ?_)
      refine lv_goto (tgt := 23) hx hb dL_law_2134 (by decide) ?_
      refine lv_iload hx hb dL_law_23 (lv_at hl 0 rfl) ?_
      refine lv_aload_n hx hb dL_law_25 rfl (lv_at hl 6 rfl) ?_
      refine va_slen hx hb hX hbl hbA hS dL_law_26 ?_
      refine lv_topi (fun y41 hy41 => ?_)
      obtain rfl : 6 = y41 := (hy41.trans (rfl)).symm
      refine lv_bipush (v := 6) hx hb dL_law_27 (by decide) ?_
      refine lv_isub hx hb dL_law_29 ?_
      refine lv_topi (fun y42 hy42 => ?_)
      obtain rfl : 0 = y42 := (hy42.trans (by decide)).symm
      refine lv_icmp_gt (tgt := 2137) hx hb dL_law_30 (by decide) (fun _ => ?_) (fun c9 => absurd (by decide) c9)
      refine lv_iconst (v := 1) hx hb dL_law_2137 (by decide) ?_
      refine W.widen (k := 600002) (n := 7302232) (by decide +kernel) (by decide +kernel) ?_
      refine va_forget (fun q hq => hA2 _ (hS.2.2 q hq)) ?_
      exact lw_ret hx hb hr hlocks dL_law_2138
    · refine lv_istore (lv' := [(6, .int 0), (5, .int 1), (4, .int 0), (3, .ref o), (2, .ref h2), (1, .ref h1), (0, .ref b)]) hx hb dL_law_2016 hl (by decide) rfl (fun ls hl => ?_)
      refine lv_aload_n hx hb dL_law_2018 rfl (lv_at hl 4 rfl) ?_
      have hPc := hP.sub (ws' := [(h2, .inr (12, fM w2013_2))]) [1] rfl
      have hDc := hD.sub (ws' := [(h2, .inr (12, fM w2013_2))]) [1] (by decide) rfl
      have hKc := hK.sub (tys' := []) [] rfl
      have hFc := va_free (wc := [(h2, .inr (12, fM w2013_2))]) hD hS hA [1] rfl
      refine va_calli (va_runV (As := []) (rest := []) ⟨hx, hb, hml, hown, hts⟩ (p_X12_thrown l dC dI h2 w2013_2 2 (f2013_2_1) H.size) (cwV 0 hts glaw36_2 rfl rfl rfl (by decide +kernel) ⟨by decide +kernel, by decide +kernel⟩) ⟨fun a U g mk q => by obtain ⟨q0, q1, qP, qK, qD⟩ := q; exact ⟨q0, q1, qP, va_K.moved (u := U) (U := U.calling g mk a) (Vm.Alike.refl U.vm) qK, qD⟩, va_recv hKc hPc (ci := 12) (q0 := 0) rfl rfl, fun U hU9 hW => ⟨rfl, by rw [hU9], by rw [hU9]; exact hPc, va_K.moved hW.alike hKc, hDc.weaken (fun _ _ _ _ => trivial)⟩⟩ rfl rfl hl.1 rfl (lv_room (Nat.le_of_ble_eq_true rfl)) dL_law_2019 ⟨by decide +kernel, by decide +kernel⟩) hS (fun q _ h => hFc q h) hFc (fun r2019_11 u t H1 locs ht hvm hw hB hz1 hk1 hS => ?_)
      obtain ⟨hP1, hK1, hD1⟩ := hB
      rw [ht] at hP1
      have hK1 := va_K.moved hvm.symm hK1
      obtain ⟨hP, hD⟩ := va_join (wr := [(o, .inl (kO, 1, .inr (.inl go1989)))]) (w1 := []) hP hD [1] [0] rfl rfl (by decide) (by decide) hk1 hFc hP1 hD1
      generalize H1 = H at hP hS ⊢
      have hP : va_P (dC, dI) vwCl [(o, .inl (kO, 1, .inr (.inl go1989)))] H := hP
      have hD : va_D A [(o, .inl (kO, 1, .inr (.inl go1989)))] := hD
      obtain rfl := hw
      refine lv_iload hx hb dL_law_2022 (lv_at hl 1 rfl) ?_
      refine lv_icmp_eq (tgt := 2029) hx hb dL_law_2024 (by decide) (fun c9 => absurd c9 (by decide)) (fun _ => ?_)
      refine lv_iconst (v := 0) hx hb dL_law_2027 (by decide) ?_
      refine W.widen (k := 600002) (n := 7302232) (by decide +kernel) (by decide +kernel) ?_
      exact False.elim (by omega)
  · refine lv_istore (lv' := [(5, .int 2), (4, .int 0), (3, .ref o), (2, .ref h2), (1, .ref h1), (0, .ref b)]) hx hb dL_law_1992 hl (by decide) rfl (fun ls hl => ?_)
    refine lv_aload_n hx hb dL_law_1994 rfl (lv_at hl 3 rfl) ?_
    refine lv_aload_n hx hb dL_law_1995 rfl (lv_at hl 5 rfl) ?_
    refine lv_iload hx hb dL_law_1996 (lv_at hl 1 rfl) ?_
    refine lv_iconst (v := 1) hx hb dL_law_1998 (by decide) ?_
    refine lv_iadd hx hb dL_law_1999 ?_
    refine lv_topi (fun y43 hy43 => ?_)
    obtain rfl : 1 = y43 := (hy43.trans (by decide)).symm
    refine va_sld hx hb hX hbl hbA hS (show ¬ ((1 : Int32) < 0 ∨ 6 ≤ (1 : Int32).toNatClampNeg) by decide) dL_law_2000 ?_
    refine lv_topi (fun y44 hy44 => ?_)
    obtain rfl : (xs 1) = y44 := (hy44.trans (rfl)).symm
    refine lv_aload_n hx hb dL_law_2001 rfl (lv_at hl 5 rfl) ?_
    refine lv_iload hx hb dL_law_2002 (lv_at hl 1 rfl) ?_
    refine lv_iconst (v := 2) hx hb dL_law_2004 (by decide) ?_
    refine lv_iadd hx hb dL_law_2005 ?_
    refine lv_topi (fun y45 hy45 => ?_)
    obtain rfl : 2 = y45 := (hy45.trans (by decide)).symm
    refine va_sld hx hb hX hbl hbA hS (show ¬ ((2 : Int32) < 0 ∨ 6 ≤ (2 : Int32).toNatClampNeg) by decide) dL_law_2006 ?_
    refine lv_topi (fun y46 hy46 => ?_)
    obtain rfl : (xs 2) = y46 := (hy46.trans (rfl)).symm
    refine lv_aload_n hx hb dL_law_2007 rfl (lv_at hl 5 rfl) ?_
    refine lv_iload hx hb dL_law_2008 (lv_at hl 1 rfl) ?_
    refine lv_iconst (v := 3) hx hb dL_law_2010 (by decide) ?_
    refine lv_iadd hx hb dL_law_2011 ?_
    refine lv_topi (fun y47 hy47 => ?_)
    obtain rfl : 3 = y47 := (hy47.trans (by decide)).symm
    refine va_sld hx hb hX hbl hbA hS (show ¬ ((3 : Int32) < 0 ∨ 6 ≤ (3 : Int32).toNatClampNeg) by decide) dL_law_2012 ?_
    refine lv_topi (fun y48 hy48 => ?_)
    obtain rfl : (xs 3) = y48 := (hy48.trans (rfl)).symm
    have hPc := hP.sub (ws' := [(h2, .inr (12, fM (vM av))), ((av 102), .inl ((kv 102), 12, .inl (fun _ => 0)))]) [0, 1] rfl
    have hDc := hD.sub (ws' := [(h2, .inr (12, fM (vM av))), ((av 102), .inl ((kv 102), 12, .inl (fun _ => 0)))]) [0, 1] (by decide) rfl
    have hKc := hK.sub (tys' := [((kv 102), .int)]) [0] rfl
    have hFc := va_free (wc := [(h2, .inr (12, fM (vM av))), ((av 102), .inl ((kv 102), 12, .inl (fun _ => 0)))]) hD hS hA [0, 1] rfl
    refine va_calli (va_runV (As := [.int (xs 1), .int (xs 2), .int (xs 3)]) (rest := []) ⟨hx, hb, hml, hown, hts⟩ (p_X12_path l dC dI h2 (vM av) (rfl) (av 102) (rfl) (kv 102) (fun _ => 0) (xs 1) (xs 2) (xs 3) H.size) (cwV 3 hts glaw36_1 rfl rfl rfl (by decide +kernel) ⟨by decide +kernel, by decide +kernel⟩) ⟨fun a U g mk q => by obtain ⟨q0, q1, qP, qK, qD⟩ := q; exact ⟨q0, q1, qP, va_K.moved (u := U) (U := U.calling g mk a) (Vm.Alike.refl U.vm) qK, qD⟩, va_recv hKc hPc (ci := 12) (q0 := 0) rfl rfl, fun U hU9 hW => ⟨rfl, by rw [hU9], by rw [hU9]; exact hPc, va_K.moved hW.alike hKc, hDc.weaken (fun _ _ _ _ => trivial)⟩⟩ rfl rfl hl.1 rfl (lv_room (Nat.le_of_ble_eq_true rfl)) dL_law_2013 ⟨by decide +kernel, by decide +kernel⟩) hS (fun q _ h => hFc q h) hFc (fun r2013_3 u t H1 locs ht hvm hw hB hz1 hk1 hS => ?_)
    obtain ⟨w2013_3, hwit2013_3⟩ : ∃ w9, w9 = u := ⟨u, rfl⟩
    subst hwit2013_3
    obtain ⟨hP1, hK1, hD1⟩ := hB
    rw [ht] at hP1
    have hK1 := va_K.moved hvm.symm hK1
    obtain ⟨hP, hD⟩ := va_join (wr := [(o, .inl (kO, 1, .inr (.inl go1989)))]) (w1 := [(h2, .inr (12, fM w2013_3))]) hP hD [0, 1] [2] rfl rfl (by decide) (by decide) hk1 hFc hP1 hD1
    generalize H1 = H at hP hS ⊢
    have hP : va_P (dC, dI) vwCl [(o, .inl (kO, 1, .inr (.inl go1989))), (h2, .inr (12, fM w2013_3))] H := hP
    have hD : va_D A [(o, .inl (kO, 1, .inr (.inl go1989))), (h2, .inr (12, fM w2013_3))] := hD
    rcases hw with ⟨rfl, f2013_3_0, f2013_3_1, f2013_3_2⟩ | ⟨rfl, f2013_3_0, f2013_3_1, f2013_3_2⟩ | ⟨rfl, f2013_3_0, f2013_3_1⟩ | ⟨rfl, f2013_3_0, f2013_3_1⟩
    · refine lv_istore (lv' := [(6, .int 0), (5, .int 2), (4, .int 0), (3, .ref o), (2, .ref h2), (1, .ref h1), (0, .ref b)]) hx hb dL_law_2016 hl (by decide) rfl (fun ls hl => ?_)
      refine lv_aload_n hx hb dL_law_2018 rfl (lv_at hl 4 rfl) ?_
      have hPc := hP.sub (ws' := [(h2, .inr (12, fM w2013_3))]) [1] rfl
      have hDc := hD.sub (ws' := [(h2, .inr (12, fM w2013_3))]) [1] (by decide) rfl
      have hKc := hK.sub (tys' := []) [] rfl
      have hFc := va_free (wc := [(h2, .inr (12, fM w2013_3))]) hD hS hA [1] rfl
      refine va_calli (va_runV (As := []) (rest := []) ⟨hx, hb, hml, hown, hts⟩ (p_X12_thrown l dC dI h2 w2013_3 0 (f2013_3_2) H.size) (cwV 0 hts glaw36_2 rfl rfl rfl (by decide +kernel) ⟨by decide +kernel, by decide +kernel⟩) ⟨fun a U g mk q => by obtain ⟨q0, q1, qP, qK, qD⟩ := q; exact ⟨q0, q1, qP, va_K.moved (u := U) (U := U.calling g mk a) (Vm.Alike.refl U.vm) qK, qD⟩, va_recv hKc hPc (ci := 12) (q0 := 0) rfl rfl, fun U hU9 hW => ⟨rfl, by rw [hU9], by rw [hU9]; exact hPc, va_K.moved hW.alike hKc, hDc.weaken (fun _ _ _ _ => trivial)⟩⟩ rfl rfl hl.1 rfl (lv_room (Nat.le_of_ble_eq_true rfl)) dL_law_2019 ⟨by decide +kernel, by decide +kernel⟩) hS (fun q _ h => hFc q h) hFc (fun r2019_12 u t H1 locs ht hvm hw hB hz1 hk1 hS => ?_)
      obtain ⟨hP1, hK1, hD1⟩ := hB
      rw [ht] at hP1
      have hK1 := va_K.moved hvm.symm hK1
      obtain ⟨hP, hD⟩ := va_join (wr := [(o, .inl (kO, 1, .inr (.inl go1989)))]) (w1 := []) hP hD [1] [0] rfl rfl (by decide) (by decide) hk1 hFc hP1 hD1
      generalize H1 = H at hP hS ⊢
      have hP : va_P (dC, dI) vwCl [(o, .inl (kO, 1, .inr (.inl go1989)))] H := hP
      have hD : va_D A [(o, .inl (kO, 1, .inr (.inl go1989)))] := hD
      obtain rfl := hw
      refine lv_iload hx hb dL_law_2022 (lv_at hl 1 rfl) ?_
      refine lv_icmp_eq (tgt := 2029) hx hb dL_law_2024 (by decide) (fun c9 => absurd c9 (by decide)) (fun _ => ?_)
      refine lv_iconst (v := 0) hx hb dL_law_2027 (by decide) ?_
      refine W.widen (k := 600002) (n := 7302232) (by decide +kernel) (by decide +kernel) ?_
      exact False.elim (by omega)
    · refine lv_istore (lv' := [(6, .int (-1)), (5, .int 2), (4, .int 0), (3, .ref o), (2, .ref h2), (1, .ref h1), (0, .ref b)]) hx hb dL_law_2016 hl (by decide) rfl (fun ls hl => ?_)
      refine lv_aload_n hx hb dL_law_2018 rfl (lv_at hl 4 rfl) ?_
      have hPc := hP.sub (ws' := [(h2, .inr (12, fM w2013_3))]) [1] rfl
      have hDc := hD.sub (ws' := [(h2, .inr (12, fM w2013_3))]) [1] (by decide) rfl
      have hKc := hK.sub (tys' := []) [] rfl
      have hFc := va_free (wc := [(h2, .inr (12, fM w2013_3))]) hD hS hA [1] rfl
      refine va_calli (va_runV (As := []) (rest := []) ⟨hx, hb, hml, hown, hts⟩ (p_X12_thrown l dC dI h2 w2013_3 0 (f2013_3_2) H.size) (cwV 0 hts glaw36_2 rfl rfl rfl (by decide +kernel) ⟨by decide +kernel, by decide +kernel⟩) ⟨fun a U g mk q => by obtain ⟨q0, q1, qP, qK, qD⟩ := q; exact ⟨q0, q1, qP, va_K.moved (u := U) (U := U.calling g mk a) (Vm.Alike.refl U.vm) qK, qD⟩, va_recv hKc hPc (ci := 12) (q0 := 0) rfl rfl, fun U hU9 hW => ⟨rfl, by rw [hU9], by rw [hU9]; exact hPc, va_K.moved hW.alike hKc, hDc.weaken (fun _ _ _ _ => trivial)⟩⟩ rfl rfl hl.1 rfl (lv_room (Nat.le_of_ble_eq_true rfl)) dL_law_2019 ⟨by decide +kernel, by decide +kernel⟩) hS (fun q _ h => hFc q h) hFc (fun r2019_13 u t H1 locs ht hvm hw hB hz1 hk1 hS => ?_)
      obtain ⟨hP1, hK1, hD1⟩ := hB
      rw [ht] at hP1
      have hK1 := va_K.moved hvm.symm hK1
      obtain ⟨hP, hD⟩ := va_join (wr := [(o, .inl (kO, 1, .inr (.inl go1989)))]) (w1 := []) hP hD [1] [0] rfl rfl (by decide) (by decide) hk1 hFc hP1 hD1
      generalize H1 = H at hP hS ⊢
      have hP : va_P (dC, dI) vwCl [(o, .inl (kO, 1, .inr (.inl go1989)))] H := hP
      have hD : va_D A [(o, .inl (kO, 1, .inr (.inl go1989)))] := hD
      obtain rfl := hw
      refine lv_iload hx hb dL_law_2022 (lv_at hl 1 rfl) ?_
      refine lv_icmp_eq (tgt := 2029) hx hb dL_law_2024 (by decide) (fun c9 => absurd c9 (by decide)) (fun _ => ?_)
      refine lv_iconst (v := 0) hx hb dL_law_2027 (by decide) ?_
      refine W.widen (k := 600002) (n := 7302232) (by decide +kernel) (by decide +kernel) ?_
      exact False.elim (by omega)
    · refine lv_istore (lv' := [(6, .int 0), (5, .int 2), (4, .int 0), (3, .ref o), (2, .ref h2), (1, .ref h1), (0, .ref b)]) hx hb dL_law_2016 hl (by decide) rfl (fun ls hl => ?_)
      refine lv_aload_n hx hb dL_law_2018 rfl (lv_at hl 4 rfl) ?_
      have hPc := hP.sub (ws' := [(h2, .inr (12, fM w2013_3))]) [1] rfl
      have hDc := hD.sub (ws' := [(h2, .inr (12, fM w2013_3))]) [1] (by decide) rfl
      have hKc := hK.sub (tys' := []) [] rfl
      have hFc := va_free (wc := [(h2, .inr (12, fM w2013_3))]) hD hS hA [1] rfl
      refine va_calli (va_runV (As := []) (rest := []) ⟨hx, hb, hml, hown, hts⟩ (p_X12_thrown l dC dI h2 w2013_3 1 (f2013_3_1) H.size) (cwV 0 hts glaw36_2 rfl rfl rfl (by decide +kernel) ⟨by decide +kernel, by decide +kernel⟩) ⟨fun a U g mk q => by obtain ⟨q0, q1, qP, qK, qD⟩ := q; exact ⟨q0, q1, qP, va_K.moved (u := U) (U := U.calling g mk a) (Vm.Alike.refl U.vm) qK, qD⟩, va_recv hKc hPc (ci := 12) (q0 := 0) rfl rfl, fun U hU9 hW => ⟨rfl, by rw [hU9], by rw [hU9]; exact hPc, va_K.moved hW.alike hKc, hDc.weaken (fun _ _ _ _ => trivial)⟩⟩ rfl rfl hl.1 rfl (lv_room (Nat.le_of_ble_eq_true rfl)) dL_law_2019 ⟨by decide +kernel, by decide +kernel⟩) hS (fun q _ h => hFc q h) hFc (fun r2019_14 u t H1 locs ht hvm hw hB hz1 hk1 hS => ?_)
      obtain ⟨hP1, hK1, hD1⟩ := hB
      rw [ht] at hP1
      have hK1 := va_K.moved hvm.symm hK1
      obtain ⟨hP, hD⟩ := va_join (wr := [(o, .inl (kO, 1, .inr (.inl go1989)))]) (w1 := []) hP hD [1] [0] rfl rfl (by decide) (by decide) hk1 hFc hP1 hD1
      generalize H1 = H at hP hS ⊢
      have hP : va_P (dC, dI) vwCl [(o, .inl (kO, 1, .inr (.inl go1989)))] H := hP
      have hD : va_D A [(o, .inl (kO, 1, .inr (.inl go1989)))] := hD
      obtain rfl := hw
      refine lv_iload hx hb dL_law_2022 (lv_at hl 1 rfl) ?_
      refine lv_icmp_eq (tgt := 2029) hx hb dL_law_2024 (by decide) (fun c9 => absurd c9 (by decide)) (fun _ => ?_)
      refine lv_iconst (v := 0) hx hb dL_law_2027 (by decide) ?_
      refine W.widen (k := 600002) (n := 7302232) (by decide +kernel) (by decide +kernel) ?_
      exact False.elim (by omega)
    · refine lv_istore (lv' := [(6, .int 0), (5, .int 2), (4, .int 0), (3, .ref o), (2, .ref h2), (1, .ref h1), (0, .ref b)]) hx hb dL_law_2016 hl (by decide) rfl (fun ls hl => ?_)
      refine lv_aload_n hx hb dL_law_2018 rfl (lv_at hl 4 rfl) ?_
      have hPc := hP.sub (ws' := [(h2, .inr (12, fM w2013_3))]) [1] rfl
      have hDc := hD.sub (ws' := [(h2, .inr (12, fM w2013_3))]) [1] (by decide) rfl
      have hKc := hK.sub (tys' := []) [] rfl
      have hFc := va_free (wc := [(h2, .inr (12, fM w2013_3))]) hD hS hA [1] rfl
      refine va_calli (va_runV (As := []) (rest := []) ⟨hx, hb, hml, hown, hts⟩ (p_X12_thrown l dC dI h2 w2013_3 2 (f2013_3_1) H.size) (cwV 0 hts glaw36_2 rfl rfl rfl (by decide +kernel) ⟨by decide +kernel, by decide +kernel⟩) ⟨fun a U g mk q => by obtain ⟨q0, q1, qP, qK, qD⟩ := q; exact ⟨q0, q1, qP, va_K.moved (u := U) (U := U.calling g mk a) (Vm.Alike.refl U.vm) qK, qD⟩, va_recv hKc hPc (ci := 12) (q0 := 0) rfl rfl, fun U hU9 hW => ⟨rfl, by rw [hU9], by rw [hU9]; exact hPc, va_K.moved hW.alike hKc, hDc.weaken (fun _ _ _ _ => trivial)⟩⟩ rfl rfl hl.1 rfl (lv_room (Nat.le_of_ble_eq_true rfl)) dL_law_2019 ⟨by decide +kernel, by decide +kernel⟩) hS (fun q _ h => hFc q h) hFc (fun r2019_15 u t H1 locs ht hvm hw hB hz1 hk1 hS => ?_)
      obtain ⟨hP1, hK1, hD1⟩ := hB
      rw [ht] at hP1
      have hK1 := va_K.moved hvm.symm hK1
      obtain ⟨hP, hD⟩ := va_join (wr := [(o, .inl (kO, 1, .inr (.inl go1989)))]) (w1 := []) hP hD [1] [0] rfl rfl (by decide) (by decide) hk1 hFc hP1 hD1
      generalize H1 = H at hP hS ⊢
      have hP : va_P (dC, dI) vwCl [(o, .inl (kO, 1, .inr (.inl go1989)))] H := hP
      have hD : va_D A [(o, .inl (kO, 1, .inr (.inl go1989)))] := hD
      obtain rfl := hw
      refine lv_iload hx hb dL_law_2022 (lv_at hl 1 rfl) ?_
      refine lv_icmp_eq (tgt := 2029) hx hb dL_law_2024 (by decide) (fun _ => ?_) (fun c9 => absurd (by decide) c9)
      refine lv_iload hx hb dL_law_2029 (lv_at hl 1 rfl) ?_
      refine lv_if_ne (tgt := 2046) hx hb dL_law_2031 (by decide) (fun _ => ?_) (fun c9 => absurd c9 (by decide))
      refine lv_goto (tgt := 2131) hx hb dL_law_2046 (by decide) ?_
      refine lv_iinc (v := 6) (lv' := [(4, .int 6), (6, .int 0), (5, .int 2), (3, .ref o), (2, .ref h2), (1, .ref h1), (0, .ref b)]) hx hb dL_law_2131 hl (k := 2) rfl (by decide) (by decide) rfl (fun ls hl => ?_)
      refine lv_goto (tgt := 23) hx hb dL_law_2134 (by decide) ?_
      refine lv_iload hx hb dL_law_23 (lv_at hl 0 rfl) ?_
      refine lv_aload_n hx hb dL_law_25 rfl (lv_at hl 6 rfl) ?_
      refine va_slen hx hb hX hbl hbA hS dL_law_26 ?_
      refine lv_topi (fun y49 hy49 => ?_)
      obtain rfl : 6 = y49 := (hy49.trans (rfl)).symm
      refine lv_bipush (v := 6) hx hb dL_law_27 (by decide) ?_
      refine lv_isub hx hb dL_law_29 ?_
      refine lv_topi (fun y50 hy50 => ?_)
      obtain rfl : 0 = y50 := (hy50.trans (by decide)).symm
      refine lv_icmp_gt (tgt := 2137) hx hb dL_law_30 (by decide) (fun _ => ?_) (fun c9 => absurd (by decide) c9)
      refine lv_iconst (v := 1) hx hb dL_law_2137 (by decide) ?_
      refine W.widen (k := 600002) (n := 7302232) (by decide +kernel) (by decide +kernel) ?_
      refine va_forget (fun q hq => hA2 _ (hS.2.2 q hq)) ?_
      exact lw_ret hx hb hr hlocks dL_law_2138
theorem dL_law_2049 : decode cL_law 2049 = .ok (.aload_n 1, 1) := by decide +kernel
theorem dL_law_2050 : decode cL_law 2050 = .ok (.invokevirtual 234, 3) := by decide +kernel
theorem dL_law_2053 : decode cL_law 2053 = .ok (.aload_n 2, 1) := by decide +kernel
theorem dL_law_2054 : decode cL_law 2054 = .ok (.invokevirtual 238, 3) := by decide +kernel
theorem dL_law_2057 : decode cL_law 2057 = .ok (.lcmp, 1) := by decide +kernel
theorem dL_law_2058 : decode cL_law 2058 = .ok (.ifCond .eq 73, 3) := by decide +kernel
theorem glaw37_0 : GoodIn lw_tbl (wsV RL 234 RX11 yX11_tree wsPX11_tree) := goodIn_sub ((List.forall_mem_append.mpr ⟨(mem_p ([.methodLink RL 234 yX11_tree, .instanceMethod yX11_tree, .selects RX11 yX11_tree yX11_tree, .initialized RX11] : List Cond) [(3, 167), (3, 168), (3, 169), (1, 1)] (by decide +kernel)), ml_wsPX11_tree⟩ : ∀ w ∈ wsV RL 234 RX11 yX11_tree wsPX11_tree, w ∈ lw_tbl)) (by decide +kernel)
theorem glaw37_1 : GoodIn lw_tbl (wsV RL 238 RX12 yX12_tree wsPX12_tree) := goodIn_sub ((List.forall_mem_append.mpr ⟨(mem_p ([.methodLink RL 238 yX12_tree, .instanceMethod yX12_tree, .selects RX12 yX12_tree yX12_tree, .initialized RX12] : List Cond) [(16, 40), (16, 41), (16, 42), (1, 4)] (by decide +kernel)), ml_wsPX12_tree⟩ : ∀ w ∈ wsV RL 238 RX12 yX12_tree wsPX12_tree, w ∈ lw_tbl)) (by decide +kernel)
set_option maxHeartbeats 4000000 in
set_option maxRecDepth 100000 in
/-- the law's case 37: tree -/
theorem lc_37 {p : Program} {e : Env} {s : State} {m : MethodId} {below : List Frame} {meth : Method} {c : Code} (l : Launch) (hst : l.stackTraces = false) {b : Nat} {xs : Nat → Int32} (C0 : lw_At p s m meth c b 6 xs) {A : Nat → Prop} (hA : ∀ q : Nat, s.heap.size ≤ q → A q) (hA2 : ∀ q : Nat, A q → s.heap.size ≤ q) (X0 : lx_ok A s) (dC : Nat → ClassId) (dI : Nat → Nat → Nat) {h1 h2 o : Nat} {a : Nat → Nat} {k : Nat → ClassId} {av : Nat → Nat} {kv : Nat → ClassId} {kO : ClassId} {H : Heap} {locs : List Loc} {ls : Array Slot} (hK : va_K (dC, dI) vwCl [((kv 103), .int), (kO, .long)] s) (hP : va_P (dC, dI) vwCl [(h1, .inr (11, [.ref (a 0), .ref (a 1), .ref (a 3), .ref (a 14), .int 0, .null, .null, .null, .null, .null, .null])), (h2, .inr (12, fM (vM av))), ((av 103), .inl ((kv 103), 12, .inl (fun _ => 0))), (o, .inl (kO, 1, .inr (.inl (fun _ => 0))))] H) (hD : va_D A [(h1, .inr (11, [.ref (a 0), .ref (a 1), .ref (a 3), .ref (a 14), .int 0, .null, .null, .null, .null, .null, .null])), (h2, .inr (12, fM (vM av))), ((av 103), .inl ((kv 103), 12, .inl (fun _ => 0))), (o, .inl (kO, 1, .inr (.inl (fun _ => 0))))]) (hS : va_S A s.heap H locs) (hl : lv_has ls 7 [(4, .int 0), (3, .ref o), (2, .ref h2), (1, .ref h1), (0, .ref b)]) : W p l e room_1 s m #[Value.ref b] below meth c H locs 125 181434 (lw_Z below #[Value.ref b] s) (F0 m 2049 ls []) := by
  obtain ⟨hx, hb, hr, hml, hown, hts, hX, hbl, hlocks, hgv⟩ := id C0
  have hb : c.code = cL_law := hb
  have hown : s.vm.findClass RL = some m.cls := hown
  obtain ⟨hU, hN, hnX11_343, hnX11_392, hnX11_421, hncAI, hngX11_161, hngX11_79, hngX11_95⟩ := X0
  have hbA : ¬ A b := fun h => absurd (hA2 b h) (Nat.not_le.mpr hbl)
  refine lv_aload_n hx hb dL_law_2049 rfl (lv_at hl 3 rfl) ?_
  have hPc := hP.sub (ws' := [(h1, .inr (11, [.ref (a 0), .ref (a 1), .ref (a 3), .ref (a 14), .int 0, .null, .null, .null, .null, .null, .null]))]) [0] rfl
  have hDc := hD.sub (ws' := [(h1, .inr (11, [.ref (a 0), .ref (a 1), .ref (a 3), .ref (a 14), .int 0, .null, .null, .null, .null, .null, .null]))]) [0] (by decide) rfl
  have hKc := hK.sub (tys' := []) [] rfl
  have hFc := va_free (wc := [(h1, .inr (11, [.ref (a 0), .ref (a 1), .ref (a 3), .ref (a 14), .int 0, .null, .null, .null, .null, .null, .null]))]) hD hS hA [0] rfl
  refine va_calll (va_runV (As := []) (rest := []) ⟨hx, hb, hml, hown, hts⟩ (p_X11_tree l dC dI h1 a H.size) (cwV 0 hts glaw37_0 rfl rfl rfl (by decide +kernel) ⟨by decide +kernel, by decide +kernel⟩) ⟨fun a U g mk q => by obtain ⟨q0, q1, qP, qK, qD, qhnX11_421⟩ := q; exact ⟨q0, q1, qP, va_K.moved (u := U) (U := U.calling g mk a) (Vm.Alike.refl U.vm) qK, qD, va_Nw.same (u := U) (U := U.calling g mk a) rfl rfl qhnX11_421⟩, va_recv hKc hPc (ci := 11) (q0 := 0) rfl rfl, fun U hU9 hW => ⟨rfl, by rw [hU9], by rw [hU9]; exact hPc, va_K.moved hW.alike hKc, hDc.weaken (fun _ _ _ _ => trivial), va_Nw.warmM hW hnX11_421⟩⟩ rfl rfl hl.1 rfl (lv_room (Nat.le_of_ble_eq_true rfl)) dL_law_2050 ⟨by decide +kernel, by decide +kernel⟩) hS (fun q _ h => hFc q h) hFc (fun r2050 u t H1 locs ht hvm hw hB hz1 hk1 hS => ?_)
  obtain ⟨hP1, hK1, hD1⟩ := hB
  rw [ht] at hP1
  have hK1 := va_K.moved hvm.symm hK1
  obtain ⟨hP, hD⟩ := va_join (wr := [(h2, .inr (12, fM (vM av))), ((av 103), .inl ((kv 103), 12, .inl (fun _ => 0))), (o, .inl (kO, 1, .inr (.inl (fun _ => 0))))]) (w1 := []) hP hD [0] [1, 2, 3] rfl rfl (by decide) (by decide) hk1 hFc hP1 hD1
  generalize H1 = H at hP hS ⊢
  have hP : va_P (dC, dI) vwCl [(h2, .inr (12, fM (vM av))), ((av 103), .inl ((kv 103), 12, .inl (fun _ => 0))), (o, .inl (kO, 1, .inr (.inl (fun _ => 0))))] H := hP
  have hD : va_D A [(h2, .inr (12, fM (vM av))), ((av 103), .inl ((kv 103), 12, .inl (fun _ => 0))), (o, .inl (kO, 1, .inr (.inl (fun _ => 0))))] := hD
  refine W.widen (k := 137) (n := 182912) (by decide +kernel) (by decide +kernel) ?_
  obtain rfl := hw
  refine lv_aload_n hx hb dL_law_2053 rfl (lv_at hl 2 rfl) ?_
  have hPc := hP.sub (ws' := [(h2, .inr (12, fM (vM av))), ((av 103), .inl ((kv 103), 12, .inl (fun _ => 0)))]) [0, 1] rfl
  have hDc := hD.sub (ws' := [(h2, .inr (12, fM (vM av))), ((av 103), .inl ((kv 103), 12, .inl (fun _ => 0)))]) [0, 1] (by decide) rfl
  have hKc := hK.sub (tys' := [((kv 103), .int)]) [0] rfl
  have hFc := va_free (wc := [(h2, .inr (12, fM (vM av))), ((av 103), .inl ((kv 103), 12, .inl (fun _ => 0)))]) hD hS hA [0, 1] rfl
  refine va_calll (va_runV (As := []) (rest := [.long 0]) ⟨hx, hb, hml, hown, hts⟩ (p_X12_tree l dC dI h2 (vM av) (rfl) (av 103) (rfl) (kv 103) (fun _ => 0) H.size) (cwV 0 hts glaw37_1 rfl rfl rfl (by decide +kernel) ⟨by decide +kernel, by decide +kernel⟩) ⟨fun a U g mk q => by obtain ⟨q0, q1, qP, qK, qD⟩ := q; exact ⟨q0, q1, qP, va_K.moved (u := U) (U := U.calling g mk a) (Vm.Alike.refl U.vm) qK, qD⟩, va_recv hKc hPc (ci := 12) (q0 := 0) rfl rfl, fun U hU9 hW => ⟨rfl, by rw [hU9], by rw [hU9]; exact hPc, va_K.moved hW.alike hKc, hDc.weaken (fun _ _ _ _ => trivial)⟩⟩ rfl rfl hl.1 rfl (lv_room (Nat.le_of_ble_eq_true rfl)) dL_law_2054 ⟨by decide +kernel, by decide +kernel⟩) hS (fun q _ h => hFc q h) hFc (fun r2054 u t H1 locs ht hvm hw hB hz1 hk1 hS => ?_)
  obtain ⟨w2054, hwit2054⟩ : ∃ w9, w9 = u := ⟨u, rfl⟩
  subst hwit2054
  obtain ⟨hP1, hK1, hD1⟩ := hB
  rw [ht] at hP1
  have hK1 := va_K.moved hvm.symm hK1
  obtain ⟨hP, hD⟩ := va_join (wr := [(o, .inl (kO, 1, .inr (.inl (fun _ => 0))))]) (w1 := [(h2, .inr (12, fM w2054))]) hP hD [0, 1] [2] rfl rfl (by decide) (by decide) hk1 hFc hP1 hD1
  generalize H1 = H at hP hS ⊢
  have hP : va_P (dC, dI) vwCl [(o, .inl (kO, 1, .inr (.inl (fun _ => 0)))), (h2, .inr (12, fM w2054))] H := hP
  have hD : va_D A [(o, .inl (kO, 1, .inr (.inl (fun _ => 0)))), (h2, .inr (12, fM w2054))] := hD
  obtain ⟨rfl, f2054_0⟩ := hw
  refine W.lcmp hx hb dL_law_2057 ?_
  refine lv_topi (fun y1 hy1 => ?_)
  obtain rfl : 0 = y1 := (hy1.trans (by decide)).symm
  refine lv_if_eq (tgt := 2131) hx hb dL_law_2058 (by decide) (fun _ => ?_) (fun c9 => absurd (by decide) c9)
  refine lv_iinc (v := 6) (lv' := [(4, .int 6), (3, .ref o), (2, .ref h2), (1, .ref h1), (0, .ref b)]) hx hb dL_law_2131 hl (k := 0) rfl (by decide) (by decide) rfl (fun ls hl => ?_)
  refine lv_goto (tgt := 23) hx hb dL_law_2134 (by decide) ?_
  refine lv_iload hx hb dL_law_23 (lv_at hl 0 rfl) ?_
  refine lv_aload_n hx hb dL_law_25 rfl (lv_at hl 4 rfl) ?_
  refine va_slen hx hb hX hbl hbA hS dL_law_26 ?_
  refine lv_topi (fun y2 hy2 => ?_)
  obtain rfl : 6 = y2 := (hy2.trans (rfl)).symm
  refine lv_bipush (v := 6) hx hb dL_law_27 (by decide) ?_
  refine lv_isub hx hb dL_law_29 ?_
  refine lv_topi (fun y3 hy3 => ?_)
  obtain rfl : 0 = y3 := (hy3.trans (by decide)).symm
  refine lv_icmp_gt (tgt := 2137) hx hb dL_law_30 (by decide) (fun _ => ?_) (fun c9 => absurd (by decide) c9)
  refine lv_iconst (v := 1) hx hb dL_law_2137 (by decide) ?_
  refine W.widen (k := 600002) (n := 7302232) (by decide +kernel) (by decide +kernel) ?_
  refine va_forget (fun q hq => hA2 _ (hS.2.2 q hq)) ?_
  exact lw_ret hx hb hr hlocks dL_law_2138
theorem dL_law_2063 : decode cL_law 2063 = .ok (.aload_n 1, 1) := by decide +kernel
theorem dL_law_2064 : decode cL_law 2064 = .ok (.aload_n 0, 1) := by decide +kernel
theorem dL_law_2065 : decode cL_law 2065 = .ok (.iload 4, 2) := by decide +kernel
theorem dL_law_2067 : decode cL_law 2067 = .ok (.iconst 1, 1) := by decide +kernel
theorem dL_law_2068 : decode cL_law 2068 = .ok (.iadd, 1) := by decide +kernel
theorem dL_law_2069 : decode cL_law 2069 = .ok (.iaload, 1) := by decide +kernel
theorem dL_law_2070 : decode cL_law 2070 = .ok (.aload_n 0, 1) := by decide +kernel
theorem dL_law_2071 : decode cL_law 2071 = .ok (.iload 4, 2) := by decide +kernel
theorem dL_law_2073 : decode cL_law 2073 = .ok (.iconst 2, 1) := by decide +kernel
theorem dL_law_2074 : decode cL_law 2074 = .ok (.iadd, 1) := by decide +kernel
theorem dL_law_2075 : decode cL_law 2075 = .ok (.iaload, 1) := by decide +kernel
theorem dL_law_2076 : decode cL_law 2076 = .ok (.aload_n 3, 1) := by decide +kernel
theorem dL_law_2077 : decode cL_law 2077 = .ok (.invokestatic 239, 3) := by decide +kernel
theorem dL_law_2080 : decode cL_law 2080 = .ok (.istore 5, 2) := by decide +kernel
theorem dL_law_2082 : decode cL_law 2082 = .ok (.aload_n 2, 1) := by decide +kernel
theorem dL_law_2083 : decode cL_law 2083 = .ok (.aload_n 0, 1) := by decide +kernel
theorem dL_law_2084 : decode cL_law 2084 = .ok (.iload 4, 2) := by decide +kernel
theorem dL_law_2086 : decode cL_law 2086 = .ok (.iconst 1, 1) := by decide +kernel
theorem dL_law_2087 : decode cL_law 2087 = .ok (.iadd, 1) := by decide +kernel
theorem dL_law_2088 : decode cL_law 2088 = .ok (.iaload, 1) := by decide +kernel
theorem dL_law_2089 : decode cL_law 2089 = .ok (.aload_n 0, 1) := by decide +kernel
theorem dL_law_2090 : decode cL_law 2090 = .ok (.iload 4, 2) := by decide +kernel
theorem dL_law_2092 : decode cL_law 2092 = .ok (.iconst 2, 1) := by decide +kernel
theorem dL_law_2093 : decode cL_law 2093 = .ok (.iadd, 1) := by decide +kernel
theorem dL_law_2094 : decode cL_law 2094 = .ok (.iaload, 1) := by decide +kernel
theorem dL_law_2095 : decode cL_law 2095 = .ok (.invokevirtual 241, 3) := by decide +kernel
theorem dL_law_2098 : decode cL_law 2098 = .ok (.istore 6, 2) := by decide +kernel
theorem dL_law_2100 : decode cL_law 2100 = .ok (.aload_n 2, 1) := by decide +kernel
theorem dL_law_2101 : decode cL_law 2101 = .ok (.invokevirtual 111, 3) := by decide +kernel
theorem dL_law_2104 : decode cL_law 2104 = .ok (.iload 5, 2) := by decide +kernel
theorem dL_law_2106 : decode cL_law 2106 = .ok (.if_icmp .eq 5, 3) := by decide +kernel
theorem dL_law_2109 : decode cL_law 2109 = .ok (.iconst 0, 1) := by decide +kernel
theorem dL_law_2110 : decode cL_law 2110 = .ok (.ireturn, 1) := by decide +kernel
theorem dL_law_2111 : decode cL_law 2111 = .ok (.iload 5, 2) := by decide +kernel
theorem dL_law_2113 : decode cL_law 2113 = .ok (.ifCond .ne 15, 3) := by decide +kernel
theorem dL_law_2116 : decode cL_law 2116 = .ok (.aload_n 3, 1) := by decide +kernel
theorem dL_law_2117 : decode cL_law 2117 = .ok (.iconst 0, 1) := by decide +kernel
theorem dL_law_2118 : decode cL_law 2118 = .ok (.laload, 1) := by decide +kernel
theorem dL_law_2119 : decode cL_law 2119 = .ok (.iload 6, 2) := by decide +kernel
theorem dL_law_2121 : decode cL_law 2121 = .ok (.i2l, 1) := by decide +kernel
theorem dL_law_2122 : decode cL_law 2122 = .ok (.lcmp, 1) := by decide +kernel
theorem dL_law_2123 : decode cL_law 2123 = .ok (.ifCond .eq 5, 3) := by decide +kernel
theorem dL_law_2128 : decode cL_law 2128 = .ok (.goto 3, 3) := by decide +kernel
theorem glaw38_0 : GoodIn lw_tbl (va_wsS RL 239 yL_tour wsPL_tour) := goodIn_sub ((List.forall_mem_append.mpr ⟨(mem_p ([.methodLink RL 239 yL_tour, .static yL_tour, .initialized "OptimaWorksLaw"] : List Cond) [(10, 90), (10, 91), (1, 0)] (by decide +kernel)), ml_wsPL_tour⟩ : ∀ w ∈ va_wsS RL 239 yL_tour wsPL_tour, w ∈ lw_tbl)) (by decide +kernel)
theorem glaw38_1 : GoodIn lw_tbl (wsV RL 241 RX12 yX12_tour wsPX12_tour) := goodIn_sub ((List.forall_mem_append.mpr ⟨(mem_p ([.methodLink RL 241 yX12_tour, .instanceMethod yX12_tour, .selects RX12 yX12_tour yX12_tour, .initialized RX12] : List Cond) [(16, 44), (16, 45), (16, 46), (1, 4)] (by decide +kernel)), ml_wsPX12_tour⟩ : ∀ w ∈ wsV RL 241 RX12 yX12_tour wsPX12_tour, w ∈ lw_tbl)) (by decide +kernel)
theorem glaw38_2 : GoodIn lw_tbl (wsV RL 111 RX12 yX12_thrown wsPX12_thrown) := goodIn_sub ((List.forall_mem_append.mpr ⟨(mem_p ([.methodLink RL 111 yX12_thrown, .instanceMethod yX12_thrown, .selects RX12 yX12_thrown yX12_thrown, .initialized RX12] : List Cond) [(12, 139), (12, 140), (12, 141), (1, 4)] (by decide +kernel)), ml_wsPX12_thrown⟩ : ∀ w ∈ wsV RL 111 RX12 yX12_thrown wsPX12_thrown, w ∈ lw_tbl)) (by decide +kernel)
set_option maxHeartbeats 4000000 in
set_option maxRecDepth 100000 in
/-- the law's case 38: tour -/
theorem lc_38 {p : Program} {e : Env} {s : State} {m : MethodId} {below : List Frame} {meth : Method} {c : Code} (l : Launch) (hst : l.stackTraces = false) {b : Nat} {xs : Nat → Int32} (C0 : lw_At p s m meth c b 6 xs) {A : Nat → Prop} (hA : ∀ q : Nat, s.heap.size ≤ q → A q) (hA2 : ∀ q : Nat, A q → s.heap.size ≤ q) (X0 : lx_ok A s) (dC : Nat → ClassId) (dI : Nat → Nat → Nat) {h1 h2 o : Nat} {a : Nat → Nat} {k : Nat → ClassId} {av : Nat → Nat} {kv : Nat → ClassId} {kO : ClassId} {H : Heap} {locs : List Loc} {ls : Array Slot} (hK : va_K (dC, dI) vwCl [((kv 104), .int), ((kv 105), .int), (kO, .long)] s) (hP : va_P (dC, dI) vwCl [(h1, .inr (11, [.ref (a 0), .ref (a 1), .ref (a 3), .ref (a 14), .int 0, .null, .null, .null, .null, .null, .null])), (h2, .inr (12, fM (vM av))), ((av 104), .inl ((kv 104), 8, .inl (fun _ => 0))), ((av 105), .inl ((kv 105), 8, .inl (fun _ => 0))), (o, .inl (kO, 1, .inr (.inl (fun _ => 0))))] H) (hD : va_D A [(h1, .inr (11, [.ref (a 0), .ref (a 1), .ref (a 3), .ref (a 14), .int 0, .null, .null, .null, .null, .null, .null])), (h2, .inr (12, fM (vM av))), ((av 104), .inl ((kv 104), 8, .inl (fun _ => 0))), ((av 105), .inl ((kv 105), 8, .inl (fun _ => 0))), (o, .inl (kO, 1, .inr (.inl (fun _ => 0))))]) (hS : va_S A s.heap H locs) (hl : lv_has ls 7 [(4, .int 0), (3, .ref o), (2, .ref h2), (1, .ref h1), (0, .ref b)]) : W p l e room_1 s m #[Value.ref b] below meth c H locs 125 181434 (lw_Z below #[Value.ref b] s) (F0 m 2063 ls []) := by
  obtain ⟨hx, hb, hr, hml, hown, hts, hX, hbl, hlocks, hgv⟩ := id C0
  have hb : c.code = cL_law := hb
  have hown : s.vm.findClass RL = some m.cls := hown
  obtain ⟨hU, hN, hnX11_343, hnX11_392, hnX11_421, hncAI, hngX11_161, hngX11_79, hngX11_95⟩ := X0
  have hbA : ¬ A b := fun h => absurd (hA2 b h) (Nat.not_le.mpr hbl)
  refine lv_aload_n hx hb dL_law_2063 rfl (lv_at hl 3 rfl) ?_
  refine lv_aload_n hx hb dL_law_2064 rfl (lv_at hl 4 rfl) ?_
  refine lv_iload hx hb dL_law_2065 (lv_at hl 0 rfl) ?_
  refine lv_iconst (v := 1) hx hb dL_law_2067 (by decide) ?_
  refine lv_iadd hx hb dL_law_2068 ?_
  refine lv_topi (fun y1 hy1 => ?_)
  obtain rfl : 1 = y1 := (hy1.trans (by decide)).symm
  refine va_sld hx hb hX hbl hbA hS (show ¬ ((1 : Int32) < 0 ∨ 6 ≤ (1 : Int32).toNatClampNeg) by decide) dL_law_2069 ?_
  refine lv_topi (fun y2 hy2 => ?_)
  obtain rfl : (xs 1) = y2 := (hy2.trans (rfl)).symm
  refine lv_aload_n hx hb dL_law_2070 rfl (lv_at hl 4 rfl) ?_
  refine lv_iload hx hb dL_law_2071 (lv_at hl 0 rfl) ?_
  refine lv_iconst (v := 2) hx hb dL_law_2073 (by decide) ?_
  refine lv_iadd hx hb dL_law_2074 ?_
  refine lv_topi (fun y3 hy3 => ?_)
  obtain rfl : 2 = y3 := (hy3.trans (by decide)).symm
  refine va_sld hx hb hX hbl hbA hS (show ¬ ((2 : Int32) < 0 ∨ 6 ≤ (2 : Int32).toNatClampNeg) by decide) dL_law_2075 ?_
  refine lv_topi (fun y4 hy4 => ?_)
  obtain rfl : (xs 2) = y4 := (hy4.trans (rfl)).symm
  refine lv_aload_n hx hb dL_law_2076 rfl (lv_at hl 1 rfl) ?_
  have hPc := hP.sub (ws' := [(h1, .inr (11, [.ref (a 0), .ref (a 1), .ref (a 3), .ref (a 14), .int 0, .null, .null, .null, .null, .null, .null])), (o, .inl (kO, 1, .inr (.inl (fun _ => 0))))]) [0, 4] rfl
  have hDc := hD.sub (ws' := [(h1, .inr (11, [.ref (a 0), .ref (a 1), .ref (a 3), .ref (a 14), .int 0, .null, .null, .null, .null, .null, .null])), (o, .inl (kO, 1, .inr (.inl (fun _ => 0))))]) [0, 4] (by decide) rfl
  have hKc := hK.sub (tys' := [(kO, .long)]) [2] rfl
  have hFc := va_free (wc := [(h1, .inr (11, [.ref (a 0), .ref (a 1), .ref (a 3), .ref (a 14), .int 0, .null, .null, .null, .null, .null, .null])), (o, .inl (kO, 1, .inr (.inl (fun _ => 0))))]) hD hS hA [0, 4] rfl
  refine va_calli (vx_runSW (As := [.ref h1, .int (xs 1), .int (xs 2), .ref o]) (rest := []) ⟨hx, hb, hml, hown, hts⟩ (p_L_tour l hst dC dI h1 a o kO (xs 1) (xs 2) H.size) (vx_cwSW 4 hts glaw38_0 rfl rfl rfl (by decide +kernel) ⟨by decide +kernel, by decide +kernel⟩) ⟨fun a U g mk q => by obtain ⟨q0, q1, qP, qK, qD, qU, qN, qngX11_79, qhnX11_421⟩ := q; exact ⟨q0, q1, qP, va_K.moved (u := U) (U := U.calling g mk a) (Vm.Alike.refl U.vm) qK, qD, vx_Zq.moved (u := U) (U := U.calling g mk a) (Vm.Alike.refl U.vm) qU, vx_Zq.moved (u := U) (U := U.calling g mk a) (Vm.Alike.refl U.vm) qN, fun w h => va_Nw.same (u := U) (U := U.calling g mk a) (ngX11_79_ot w h) rfl (qngX11_79 w h), va_Nw.same (u := U) (U := U.calling g mk a) rfl rfl qhnX11_421⟩, fun U hU9 hW => ⟨rfl, by rw [hU9], by rw [hU9]; exact hPc, va_K.moved hW.alike hKc, hDc.weaken (fun _ _ _ _ => trivial), by rw [hU9]; exact ((hU.kept (fun a h1 h2 => hS.2.1 a h1 h2)).narrow hFc).moved hW.alike, by rw [hU9]; exact ((hN.kept (fun a h1 h2 => hS.2.1 a h1 h2)).narrow hFc).moved hW.alike, fun w h => cd_warm (ngX11_79_cd w h) hW (hngX11_79 w h), va_Nw.warmM hW hnX11_421⟩⟩ rfl rfl hl.1 rfl (lv_room (Nat.le_of_ble_eq_true rfl)) dL_law_2077 ⟨by decide +kernel, by decide +kernel⟩) hS (fun q _ h => hFc q h) hFc (fun r2077 u t H1 locs ht hvm hw hB hz1 hk1 hS => ?_)
  obtain ⟨go2077, hwit2077⟩ : ∃ w9, w9 = u := ⟨u, rfl⟩
  subst hwit2077
  obtain ⟨hP1, hK1, hD1⟩ := hB
  rw [ht] at hP1
  have hK1 := va_K.moved hvm.symm hK1
  obtain ⟨hP, hD⟩ := va_join (wr := [(h2, .inr (12, fM (vM av))), ((av 104), .inl ((kv 104), 8, .inl (fun _ => 0))), ((av 105), .inl ((kv 105), 8, .inl (fun _ => 0)))]) (w1 := [(o, .inl (kO, 1, .inr (.inl go2077)))]) hP hD [0, 4] [1, 2, 3] rfl rfl (by decide) (by decide) hk1 hFc hP1 hD1
  generalize H1 = H at hP hS ⊢
  have hP : va_P (dC, dI) vwCl [(h2, .inr (12, fM (vM av))), ((av 104), .inl ((kv 104), 8, .inl (fun _ => 0))), ((av 105), .inl ((kv 105), 8, .inl (fun _ => 0))), (o, .inl (kO, 1, .inr (.inl go2077)))] H := hP
  have hD : va_D A [(h2, .inr (12, fM (vM av))), ((av 104), .inl ((kv 104), 8, .inl (fun _ => 0))), ((av 105), .inl ((kv 105), 8, .inl (fun _ => 0))), (o, .inl (kO, 1, .inr (.inl go2077)))] := hD
  refine W.widen (k := 138) (n := 182918) (by decide +kernel) (by decide +kernel) ?_
  rcases hw with ⟨rfl, f2077_0, f2077_1⟩ | ⟨rfl, f2077_0⟩
  · refine lv_istore (lv' := [(5, .int 0), (4, .int 0), (3, .ref o), (2, .ref h2), (1, .ref h1), (0, .ref b)]) hx hb dL_law_2080 hl (by decide) rfl (fun ls hl => ?_)
    refine lv_aload_n hx hb dL_law_2082 rfl (lv_at hl 3 rfl) ?_
    refine lv_aload_n hx hb dL_law_2083 rfl (lv_at hl 5 rfl) ?_
    refine lv_iload hx hb dL_law_2084 (lv_at hl 1 rfl) ?_
    refine lv_iconst (v := 1) hx hb dL_law_2086 (by decide) ?_
    refine lv_iadd hx hb dL_law_2087 ?_
    refine lv_topi (fun y5 hy5 => ?_)
    obtain rfl : 1 = y5 := (hy5.trans (by decide)).symm
    refine va_sld hx hb hX hbl hbA hS (show ¬ ((1 : Int32) < 0 ∨ 6 ≤ (1 : Int32).toNatClampNeg) by decide) dL_law_2088 ?_
    refine lv_topi (fun y6 hy6 => ?_)
    obtain rfl : (xs 1) = y6 := (hy6.trans (rfl)).symm
    refine lv_aload_n hx hb dL_law_2089 rfl (lv_at hl 5 rfl) ?_
    refine lv_iload hx hb dL_law_2090 (lv_at hl 1 rfl) ?_
    refine lv_iconst (v := 2) hx hb dL_law_2092 (by decide) ?_
    refine lv_iadd hx hb dL_law_2093 ?_
    refine lv_topi (fun y7 hy7 => ?_)
    obtain rfl : 2 = y7 := (hy7.trans (by decide)).symm
    refine va_sld hx hb hX hbl hbA hS (show ¬ ((2 : Int32) < 0 ∨ 6 ≤ (2 : Int32).toNatClampNeg) by decide) dL_law_2094 ?_
    refine lv_topi (fun y8 hy8 => ?_)
    obtain rfl : (xs 2) = y8 := (hy8.trans (rfl)).symm
    have hPc := hP.sub (ws' := [(h2, .inr (12, fM (vM av))), ((av 104), .inl ((kv 104), 8, .inl (fun _ => 0))), ((av 105), .inl ((kv 105), 8, .inl (fun _ => 0)))]) [0, 1, 2] rfl
    have hDc := hD.sub (ws' := [(h2, .inr (12, fM (vM av))), ((av 104), .inl ((kv 104), 8, .inl (fun _ => 0))), ((av 105), .inl ((kv 105), 8, .inl (fun _ => 0)))]) [0, 1, 2] (by decide) rfl
    have hKc := hK.sub (tys' := [((kv 104), .int), ((kv 105), .int)]) [0, 1] rfl
    have hFc := va_free (wc := [(h2, .inr (12, fM (vM av))), ((av 104), .inl ((kv 104), 8, .inl (fun _ => 0))), ((av 105), .inl ((kv 105), 8, .inl (fun _ => 0)))]) hD hS hA [0, 1, 2] rfl
    refine va_calli (va_runV (As := [.int (xs 1), .int (xs 2)]) (rest := []) ⟨hx, hb, hml, hown, hts⟩ (p_X12_tour l dC dI h2 (vM av) (rfl) (av 104) (rfl) (kv 104) (fun _ => 0) (av 105) (rfl) (kv 105) (xs 1) (xs 2) H.size) (cwV 2 hts glaw38_1 rfl rfl rfl (by decide +kernel) ⟨by decide +kernel, by decide +kernel⟩) ⟨fun a U g mk q => by obtain ⟨q0, q1, qP, qK, qD⟩ := q; exact ⟨q0, q1, qP, va_K.moved (u := U) (U := U.calling g mk a) (Vm.Alike.refl U.vm) qK, qD⟩, va_recv hKc hPc (ci := 12) (q0 := 0) rfl rfl, fun U hU9 hW => ⟨rfl, by rw [hU9], by rw [hU9]; exact hPc, va_K.moved hW.alike hKc, hDc.weaken (fun _ _ _ _ => trivial)⟩⟩ rfl rfl hl.1 rfl (lv_room (Nat.le_of_ble_eq_true rfl)) dL_law_2095 ⟨by decide +kernel, by decide +kernel⟩) hS (fun q _ h => hFc q h) hFc (fun r2095 u t H1 locs ht hvm hw hB hz1 hk1 hS => ?_)
    obtain ⟨w2095, hwit2095⟩ : ∃ w9, w9 = u := ⟨u, rfl⟩
    subst hwit2095
    obtain ⟨hP1, hK1, hD1⟩ := hB
    rw [ht] at hP1
    have hK1 := va_K.moved hvm.symm hK1
    obtain ⟨hP, hD⟩ := va_join (wr := [(o, .inl (kO, 1, .inr (.inl go2077)))]) (w1 := [(h2, .inr (12, fM w2095))]) hP hD [0, 1, 2] [3] rfl rfl (by decide) (by decide) hk1 hFc hP1 hD1
    generalize H1 = H at hP hS ⊢
    have hP : va_P (dC, dI) vwCl [(o, .inl (kO, 1, .inr (.inl go2077))), (h2, .inr (12, fM w2095))] H := hP
    have hD : va_D A [(o, .inl (kO, 1, .inr (.inl go2077))), (h2, .inr (12, fM w2095))] := hD
    rcases hw with ⟨rfl, f2095_0, f2095_1⟩ | ⟨rfl, f2095_0, f2095_1⟩
    · refine lv_istore (lv' := [(6, .int (-1)), (5, .int 0), (4, .int 0), (3, .ref o), (2, .ref h2), (1, .ref h1), (0, .ref b)]) hx hb dL_law_2098 hl (by decide) rfl (fun ls hl => ?_)
      refine lv_aload_n hx hb dL_law_2100 rfl (lv_at hl 4 rfl) ?_
      have hPc := hP.sub (ws' := [(h2, .inr (12, fM w2095))]) [1] rfl
      have hDc := hD.sub (ws' := [(h2, .inr (12, fM w2095))]) [1] (by decide) rfl
      have hKc := hK.sub (tys' := []) [] rfl
      have hFc := va_free (wc := [(h2, .inr (12, fM w2095))]) hD hS hA [1] rfl
      refine va_calli (va_runV (As := []) (rest := []) ⟨hx, hb, hml, hown, hts⟩ (p_X12_thrown l dC dI h2 w2095 0 (f2095_1) H.size) (cwV 0 hts glaw38_2 rfl rfl rfl (by decide +kernel) ⟨by decide +kernel, by decide +kernel⟩) ⟨fun a U g mk q => by obtain ⟨q0, q1, qP, qK, qD⟩ := q; exact ⟨q0, q1, qP, va_K.moved (u := U) (U := U.calling g mk a) (Vm.Alike.refl U.vm) qK, qD⟩, va_recv hKc hPc (ci := 12) (q0 := 0) rfl rfl, fun U hU9 hW => ⟨rfl, by rw [hU9], by rw [hU9]; exact hPc, va_K.moved hW.alike hKc, hDc.weaken (fun _ _ _ _ => trivial)⟩⟩ rfl rfl hl.1 rfl (lv_room (Nat.le_of_ble_eq_true rfl)) dL_law_2101 ⟨by decide +kernel, by decide +kernel⟩) hS (fun q _ h => hFc q h) hFc (fun r2101 u t H1 locs ht hvm hw hB hz1 hk1 hS => ?_)
      obtain ⟨hP1, hK1, hD1⟩ := hB
      rw [ht] at hP1
      have hK1 := va_K.moved hvm.symm hK1
      obtain ⟨hP, hD⟩ := va_join (wr := [(o, .inl (kO, 1, .inr (.inl go2077)))]) (w1 := []) hP hD [1] [0] rfl rfl (by decide) (by decide) hk1 hFc hP1 hD1
      generalize H1 = H at hP hS ⊢
      have hP : va_P (dC, dI) vwCl [(o, .inl (kO, 1, .inr (.inl go2077)))] H := hP
      have hD : va_D A [(o, .inl (kO, 1, .inr (.inl go2077)))] := hD
      obtain rfl := hw
      refine lv_iload hx hb dL_law_2104 (lv_at hl 1 rfl) ?_
      refine lv_icmp_eq (tgt := 2111) hx hb dL_law_2106 (by decide) (fun _ => ?_) (fun c9 => absurd (by decide) c9)
      refine lv_iload hx hb dL_law_2111 (lv_at hl 1 rfl) ?_
      refine lv_if_ne (tgt := 2128) hx hb dL_law_2113 (by decide) (fun c9 => absurd c9 (by decide)) (fun _ => ?_)
      refine lv_aload_n hx hb dL_law_2116 rfl (lv_at hl 3 rfl) ?_
      refine lv_iconst (v := 0) hx hb dL_law_2117 (by decide) ?_
      refine va_lald hx hb hK hP 0 2 rfl rfl (show ¬ ((0 : Int32) < 0 ∨ 1 ≤ (0 : Int32).toNatClampNeg) by decide) dL_law_2118 ?_
      refine lv_topl (fun y9 hy9 => ?_)
      obtain rfl : (-1) = y9 := (hy9.trans (f2077_1)).symm
      refine lv_iload hx hb dL_law_2119 (lv_at hl 0 rfl) ?_
      refine lv_i2l hx hb dL_law_2121 rfl ?_
      refine lv_topl (fun y10 hy10 => ?_)
      obtain rfl : (-1) = y10 := (hy10.trans (by decide)).symm
      refine W.lcmp hx hb dL_law_2122 ?_
      refine lv_topi (fun y11 hy11 => ?_)
      obtain rfl : 0 = y11 := (hy11.trans (by decide)).symm
      refine lv_if_eq (tgt := 2128) hx hb dL_law_2123 (by decide) (fun _ => ?_) (fun c9 => absurd (by decide) c9)
      refine lv_goto (tgt := 2131) hx hb dL_law_2128 (by decide) ?_
      refine lv_iinc (v := 6) (lv' := [(4, .int 6), (6, .int (-1)), (5, .int 0), (3, .ref o), (2, .ref h2), (1, .ref h1), (0, .ref b)]) hx hb dL_law_2131 hl (k := 2) rfl (by decide) (by decide) rfl (fun ls hl => ?_)
      refine lv_goto (tgt := 23) hx hb dL_law_2134 (by decide) ?_
      refine lv_iload hx hb dL_law_23 (lv_at hl 0 rfl) ?_
      refine lv_aload_n hx hb dL_law_25 rfl (lv_at hl 6 rfl) ?_
      refine va_slen hx hb hX hbl hbA hS dL_law_26 ?_
      refine lv_topi (fun y12 hy12 => ?_)
      obtain rfl : 6 = y12 := (hy12.trans (rfl)).symm
      refine lv_bipush (v := 6) hx hb dL_law_27 (by decide) ?_
      refine lv_isub hx hb dL_law_29 ?_
      refine lv_topi (fun y13 hy13 => ?_)
      obtain rfl : 0 = y13 := (hy13.trans (by decide)).symm
      refine lv_icmp_gt (tgt := 2137) hx hb dL_law_30 (by decide) (fun _ => ?_) (fun c9 => absurd (by decide) c9)
      refine lv_iconst (v := 1) hx hb dL_law_2137 (by decide) ?_
      refine W.widen (k := 600002) (n := 7302232) (by decide +kernel) (by decide +kernel) ?_
      refine va_forget (fun q hq => hA2 _ (hS.2.2 q hq)) ?_
      exact lw_ret hx hb hr hlocks dL_law_2138
    · refine lv_istore (lv' := [(6, .int 0), (5, .int 0), (4, .int 0), (3, .ref o), (2, .ref h2), (1, .ref h1), (0, .ref b)]) hx hb dL_law_2098 hl (by decide) rfl (fun ls hl => ?_)
      refine lv_aload_n hx hb dL_law_2100 rfl (lv_at hl 4 rfl) ?_
      have hPc := hP.sub (ws' := [(h2, .inr (12, fM w2095))]) [1] rfl
      have hDc := hD.sub (ws' := [(h2, .inr (12, fM w2095))]) [1] (by decide) rfl
      have hKc := hK.sub (tys' := []) [] rfl
      have hFc := va_free (wc := [(h2, .inr (12, fM w2095))]) hD hS hA [1] rfl
      refine va_calli (va_runV (As := []) (rest := []) ⟨hx, hb, hml, hown, hts⟩ (p_X12_thrown l dC dI h2 w2095 1 (f2095_1) H.size) (cwV 0 hts glaw38_2 rfl rfl rfl (by decide +kernel) ⟨by decide +kernel, by decide +kernel⟩) ⟨fun a U g mk q => by obtain ⟨q0, q1, qP, qK, qD⟩ := q; exact ⟨q0, q1, qP, va_K.moved (u := U) (U := U.calling g mk a) (Vm.Alike.refl U.vm) qK, qD⟩, va_recv hKc hPc (ci := 12) (q0 := 0) rfl rfl, fun U hU9 hW => ⟨rfl, by rw [hU9], by rw [hU9]; exact hPc, va_K.moved hW.alike hKc, hDc.weaken (fun _ _ _ _ => trivial)⟩⟩ rfl rfl hl.1 rfl (lv_room (Nat.le_of_ble_eq_true rfl)) dL_law_2101 ⟨by decide +kernel, by decide +kernel⟩) hS (fun q _ h => hFc q h) hFc (fun r2101_1 u t H1 locs ht hvm hw hB hz1 hk1 hS => ?_)
      obtain ⟨hP1, hK1, hD1⟩ := hB
      rw [ht] at hP1
      have hK1 := va_K.moved hvm.symm hK1
      obtain ⟨hP, hD⟩ := va_join (wr := [(o, .inl (kO, 1, .inr (.inl go2077)))]) (w1 := []) hP hD [1] [0] rfl rfl (by decide) (by decide) hk1 hFc hP1 hD1
      generalize H1 = H at hP hS ⊢
      have hP : va_P (dC, dI) vwCl [(o, .inl (kO, 1, .inr (.inl go2077)))] H := hP
      have hD : va_D A [(o, .inl (kO, 1, .inr (.inl go2077)))] := hD
      obtain rfl := hw
      refine lv_iload hx hb dL_law_2104 (lv_at hl 1 rfl) ?_
      refine lv_icmp_eq (tgt := 2111) hx hb dL_law_2106 (by decide) (fun c9 => absurd c9 (by decide)) (fun _ => ?_)
      refine lv_iconst (v := 0) hx hb dL_law_2109 (by decide) ?_
      refine W.widen (k := 600002) (n := 7302232) (by decide +kernel) (by decide +kernel) ?_
      exact False.elim (by omega)
  · refine lv_istore (lv' := [(5, .int 1), (4, .int 0), (3, .ref o), (2, .ref h2), (1, .ref h1), (0, .ref b)]) hx hb dL_law_2080 hl (by decide) rfl (fun ls hl => ?_)
    refine lv_aload_n hx hb dL_law_2082 rfl (lv_at hl 3 rfl) ?_
    refine lv_aload_n hx hb dL_law_2083 rfl (lv_at hl 5 rfl) ?_
    refine lv_iload hx hb dL_law_2084 (lv_at hl 1 rfl) ?_
    refine lv_iconst (v := 1) hx hb dL_law_2086 (by decide) ?_
    refine lv_iadd hx hb dL_law_2087 ?_
    refine lv_topi (fun y14 hy14 => ?_)
    obtain rfl : 1 = y14 := (hy14.trans (by decide)).symm
    refine va_sld hx hb hX hbl hbA hS (show ¬ ((1 : Int32) < 0 ∨ 6 ≤ (1 : Int32).toNatClampNeg) by decide) dL_law_2088 ?_
    refine lv_topi (fun y15 hy15 => ?_)
    obtain rfl : (xs 1) = y15 := (hy15.trans (rfl)).symm
    refine lv_aload_n hx hb dL_law_2089 rfl (lv_at hl 5 rfl) ?_
    refine lv_iload hx hb dL_law_2090 (lv_at hl 1 rfl) ?_
    refine lv_iconst (v := 2) hx hb dL_law_2092 (by decide) ?_
    refine lv_iadd hx hb dL_law_2093 ?_
    refine lv_topi (fun y16 hy16 => ?_)
    obtain rfl : 2 = y16 := (hy16.trans (by decide)).symm
    refine va_sld hx hb hX hbl hbA hS (show ¬ ((2 : Int32) < 0 ∨ 6 ≤ (2 : Int32).toNatClampNeg) by decide) dL_law_2094 ?_
    refine lv_topi (fun y17 hy17 => ?_)
    obtain rfl : (xs 2) = y17 := (hy17.trans (rfl)).symm
    have hPc := hP.sub (ws' := [(h2, .inr (12, fM (vM av))), ((av 104), .inl ((kv 104), 8, .inl (fun _ => 0))), ((av 105), .inl ((kv 105), 8, .inl (fun _ => 0)))]) [0, 1, 2] rfl
    have hDc := hD.sub (ws' := [(h2, .inr (12, fM (vM av))), ((av 104), .inl ((kv 104), 8, .inl (fun _ => 0))), ((av 105), .inl ((kv 105), 8, .inl (fun _ => 0)))]) [0, 1, 2] (by decide) rfl
    have hKc := hK.sub (tys' := [((kv 104), .int), ((kv 105), .int)]) [0, 1] rfl
    have hFc := va_free (wc := [(h2, .inr (12, fM (vM av))), ((av 104), .inl ((kv 104), 8, .inl (fun _ => 0))), ((av 105), .inl ((kv 105), 8, .inl (fun _ => 0)))]) hD hS hA [0, 1, 2] rfl
    refine va_calli (va_runV (As := [.int (xs 1), .int (xs 2)]) (rest := []) ⟨hx, hb, hml, hown, hts⟩ (p_X12_tour l dC dI h2 (vM av) (rfl) (av 104) (rfl) (kv 104) (fun _ => 0) (av 105) (rfl) (kv 105) (xs 1) (xs 2) H.size) (cwV 2 hts glaw38_1 rfl rfl rfl (by decide +kernel) ⟨by decide +kernel, by decide +kernel⟩) ⟨fun a U g mk q => by obtain ⟨q0, q1, qP, qK, qD⟩ := q; exact ⟨q0, q1, qP, va_K.moved (u := U) (U := U.calling g mk a) (Vm.Alike.refl U.vm) qK, qD⟩, va_recv hKc hPc (ci := 12) (q0 := 0) rfl rfl, fun U hU9 hW => ⟨rfl, by rw [hU9], by rw [hU9]; exact hPc, va_K.moved hW.alike hKc, hDc.weaken (fun _ _ _ _ => trivial)⟩⟩ rfl rfl hl.1 rfl (lv_room (Nat.le_of_ble_eq_true rfl)) dL_law_2095 ⟨by decide +kernel, by decide +kernel⟩) hS (fun q _ h => hFc q h) hFc (fun r2095_1 u t H1 locs ht hvm hw hB hz1 hk1 hS => ?_)
    obtain ⟨w2095_1, hwit2095_1⟩ : ∃ w9, w9 = u := ⟨u, rfl⟩
    subst hwit2095_1
    obtain ⟨hP1, hK1, hD1⟩ := hB
    rw [ht] at hP1
    have hK1 := va_K.moved hvm.symm hK1
    obtain ⟨hP, hD⟩ := va_join (wr := [(o, .inl (kO, 1, .inr (.inl go2077)))]) (w1 := [(h2, .inr (12, fM w2095_1))]) hP hD [0, 1, 2] [3] rfl rfl (by decide) (by decide) hk1 hFc hP1 hD1
    generalize H1 = H at hP hS ⊢
    have hP : va_P (dC, dI) vwCl [(o, .inl (kO, 1, .inr (.inl go2077))), (h2, .inr (12, fM w2095_1))] H := hP
    have hD : va_D A [(o, .inl (kO, 1, .inr (.inl go2077))), (h2, .inr (12, fM w2095_1))] := hD
    rcases hw with ⟨rfl, f2095_1_0, f2095_1_1⟩ | ⟨rfl, f2095_1_0, f2095_1_1⟩
    · refine lv_istore (lv' := [(6, .int (-1)), (5, .int 1), (4, .int 0), (3, .ref o), (2, .ref h2), (1, .ref h1), (0, .ref b)]) hx hb dL_law_2098 hl (by decide) rfl (fun ls hl => ?_)
      refine lv_aload_n hx hb dL_law_2100 rfl (lv_at hl 4 rfl) ?_
      have hPc := hP.sub (ws' := [(h2, .inr (12, fM w2095_1))]) [1] rfl
      have hDc := hD.sub (ws' := [(h2, .inr (12, fM w2095_1))]) [1] (by decide) rfl
      have hKc := hK.sub (tys' := []) [] rfl
      have hFc := va_free (wc := [(h2, .inr (12, fM w2095_1))]) hD hS hA [1] rfl
      refine va_calli (va_runV (As := []) (rest := []) ⟨hx, hb, hml, hown, hts⟩ (p_X12_thrown l dC dI h2 w2095_1 0 (f2095_1_1) H.size) (cwV 0 hts glaw38_2 rfl rfl rfl (by decide +kernel) ⟨by decide +kernel, by decide +kernel⟩) ⟨fun a U g mk q => by obtain ⟨q0, q1, qP, qK, qD⟩ := q; exact ⟨q0, q1, qP, va_K.moved (u := U) (U := U.calling g mk a) (Vm.Alike.refl U.vm) qK, qD⟩, va_recv hKc hPc (ci := 12) (q0 := 0) rfl rfl, fun U hU9 hW => ⟨rfl, by rw [hU9], by rw [hU9]; exact hPc, va_K.moved hW.alike hKc, hDc.weaken (fun _ _ _ _ => trivial)⟩⟩ rfl rfl hl.1 rfl (lv_room (Nat.le_of_ble_eq_true rfl)) dL_law_2101 ⟨by decide +kernel, by decide +kernel⟩) hS (fun q _ h => hFc q h) hFc (fun r2101_2 u t H1 locs ht hvm hw hB hz1 hk1 hS => ?_)
      obtain ⟨hP1, hK1, hD1⟩ := hB
      rw [ht] at hP1
      have hK1 := va_K.moved hvm.symm hK1
      obtain ⟨hP, hD⟩ := va_join (wr := [(o, .inl (kO, 1, .inr (.inl go2077)))]) (w1 := []) hP hD [1] [0] rfl rfl (by decide) (by decide) hk1 hFc hP1 hD1
      generalize H1 = H at hP hS ⊢
      have hP : va_P (dC, dI) vwCl [(o, .inl (kO, 1, .inr (.inl go2077)))] H := hP
      have hD : va_D A [(o, .inl (kO, 1, .inr (.inl go2077)))] := hD
      obtain rfl := hw
      refine lv_iload hx hb dL_law_2104 (lv_at hl 1 rfl) ?_
      refine lv_icmp_eq (tgt := 2111) hx hb dL_law_2106 (by decide) (fun c9 => absurd c9 (by decide)) (fun _ => ?_)
      refine lv_iconst (v := 0) hx hb dL_law_2109 (by decide) ?_
      refine W.widen (k := 600002) (n := 7302232) (by decide +kernel) (by decide +kernel) ?_
      exact False.elim (by omega)
    · refine lv_istore (lv' := [(6, .int 0), (5, .int 1), (4, .int 0), (3, .ref o), (2, .ref h2), (1, .ref h1), (0, .ref b)]) hx hb dL_law_2098 hl (by decide) rfl (fun ls hl => ?_)
      refine lv_aload_n hx hb dL_law_2100 rfl (lv_at hl 4 rfl) ?_
      have hPc := hP.sub (ws' := [(h2, .inr (12, fM w2095_1))]) [1] rfl
      have hDc := hD.sub (ws' := [(h2, .inr (12, fM w2095_1))]) [1] (by decide) rfl
      have hKc := hK.sub (tys' := []) [] rfl
      have hFc := va_free (wc := [(h2, .inr (12, fM w2095_1))]) hD hS hA [1] rfl
      refine va_calli (va_runV (As := []) (rest := []) ⟨hx, hb, hml, hown, hts⟩ (p_X12_thrown l dC dI h2 w2095_1 1 (f2095_1_1) H.size) (cwV 0 hts glaw38_2 rfl rfl rfl (by decide +kernel) ⟨by decide +kernel, by decide +kernel⟩) ⟨fun a U g mk q => by obtain ⟨q0, q1, qP, qK, qD⟩ := q; exact ⟨q0, q1, qP, va_K.moved (u := U) (U := U.calling g mk a) (Vm.Alike.refl U.vm) qK, qD⟩, va_recv hKc hPc (ci := 12) (q0 := 0) rfl rfl, fun U hU9 hW => ⟨rfl, by rw [hU9], by rw [hU9]; exact hPc, va_K.moved hW.alike hKc, hDc.weaken (fun _ _ _ _ => trivial)⟩⟩ rfl rfl hl.1 rfl (lv_room (Nat.le_of_ble_eq_true rfl)) dL_law_2101 ⟨by decide +kernel, by decide +kernel⟩) hS (fun q _ h => hFc q h) hFc (fun r2101_3 u t H1 locs ht hvm hw hB hz1 hk1 hS => ?_)
      obtain ⟨hP1, hK1, hD1⟩ := hB
      rw [ht] at hP1
      have hK1 := va_K.moved hvm.symm hK1
      obtain ⟨hP, hD⟩ := va_join (wr := [(o, .inl (kO, 1, .inr (.inl go2077)))]) (w1 := []) hP hD [1] [0] rfl rfl (by decide) (by decide) hk1 hFc hP1 hD1
      generalize H1 = H at hP hS ⊢
      have hP : va_P (dC, dI) vwCl [(o, .inl (kO, 1, .inr (.inl go2077)))] H := hP
      have hD : va_D A [(o, .inl (kO, 1, .inr (.inl go2077)))] := hD
      obtain rfl := hw
      refine lv_iload hx hb dL_law_2104 (lv_at hl 1 rfl) ?_
      refine lv_icmp_eq (tgt := 2111) hx hb dL_law_2106 (by decide) (fun _ => ?_) (fun c9 => absurd (by decide) c9)
      refine lv_iload hx hb dL_law_2111 (lv_at hl 1 rfl) ?_
      refine lv_if_ne (tgt := 2128) hx hb dL_law_2113 (by decide) (fun _ => ?_) (fun c9 => absurd c9 (by decide))
      refine lv_goto (tgt := 2131) hx hb dL_law_2128 (by decide) ?_
      refine lv_iinc (v := 6) (lv' := [(4, .int 6), (6, .int 0), (5, .int 1), (3, .ref o), (2, .ref h2), (1, .ref h1), (0, .ref b)]) hx hb dL_law_2131 hl (k := 2) rfl (by decide) (by decide) rfl (fun ls hl => ?_)
      refine lv_goto (tgt := 23) hx hb dL_law_2134 (by decide) ?_
      refine lv_iload hx hb dL_law_23 (lv_at hl 0 rfl) ?_
      refine lv_aload_n hx hb dL_law_25 rfl (lv_at hl 6 rfl) ?_
      refine va_slen hx hb hX hbl hbA hS dL_law_26 ?_
      refine lv_topi (fun y18 hy18 => ?_)
      obtain rfl : 6 = y18 := (hy18.trans (rfl)).symm
      refine lv_bipush (v := 6) hx hb dL_law_27 (by decide) ?_
      refine lv_isub hx hb dL_law_29 ?_
      refine lv_topi (fun y19 hy19 => ?_)
      obtain rfl : 0 = y19 := (hy19.trans (by decide)).symm
      refine lv_icmp_gt (tgt := 2137) hx hb dL_law_30 (by decide) (fun _ => ?_) (fun c9 => absurd (by decide) c9)
      refine lv_iconst (v := 1) hx hb dL_law_2137 (by decide) ?_
      refine W.widen (k := 600002) (n := 7302232) (by decide +kernel) (by decide +kernel) ?_
      refine va_forget (fun q hq => hA2 _ (hS.2.2 q hq)) ?_
      exact lw_ret hx hb hr hlocks dL_law_2138

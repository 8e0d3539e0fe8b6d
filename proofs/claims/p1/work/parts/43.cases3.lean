theorem dL_law_1222 : decode cL_law 1222 = .ok (.aload_n 1, 1) := by decide +kernel
theorem dL_law_1223 : decode cL_law 1223 = .ok (.aload_n 0, 1) := by decide +kernel
theorem dL_law_1224 : decode cL_law 1224 = .ok (.iload 4, 2) := by decide +kernel
theorem dL_law_1226 : decode cL_law 1226 = .ok (.iconst 1, 1) := by decide +kernel
theorem dL_law_1227 : decode cL_law 1227 = .ok (.iadd, 1) := by decide +kernel
theorem dL_law_1228 : decode cL_law 1228 = .ok (.iaload, 1) := by decide +kernel
theorem dL_law_1229 : decode cL_law 1229 = .ok (.aload_n 3, 1) := by decide +kernel
theorem dL_law_1230 : decode cL_law 1230 = .ok (.invokestatic 171, 3) := by decide +kernel
theorem dL_law_1233 : decode cL_law 1233 = .ok (.istore 5, 2) := by decide +kernel
theorem dL_law_1235 : decode cL_law 1235 = .ok (.aload_n 2, 1) := by decide +kernel
theorem dL_law_1236 : decode cL_law 1236 = .ok (.aload_n 0, 1) := by decide +kernel
theorem dL_law_1237 : decode cL_law 1237 = .ok (.iload 4, 2) := by decide +kernel
theorem dL_law_1239 : decode cL_law 1239 = .ok (.iconst 1, 1) := by decide +kernel
theorem dL_law_1240 : decode cL_law 1240 = .ok (.iadd, 1) := by decide +kernel
theorem dL_law_1241 : decode cL_law 1241 = .ok (.iaload, 1) := by decide +kernel
theorem dL_law_1242 : decode cL_law 1242 = .ok (.invokevirtual 173, 3) := by decide +kernel
theorem dL_law_1245 : decode cL_law 1245 = .ok (.istore 6, 2) := by decide +kernel
theorem dL_law_1247 : decode cL_law 1247 = .ok (.aload_n 2, 1) := by decide +kernel
theorem dL_law_1248 : decode cL_law 1248 = .ok (.invokevirtual 111, 3) := by decide +kernel
theorem dL_law_1251 : decode cL_law 1251 = .ok (.iload 5, 2) := by decide +kernel
theorem dL_law_1253 : decode cL_law 1253 = .ok (.if_icmp .eq 5, 3) := by decide +kernel
theorem dL_law_1256 : decode cL_law 1256 = .ok (.iconst 0, 1) := by decide +kernel
theorem dL_law_1257 : decode cL_law 1257 = .ok (.ireturn, 1) := by decide +kernel
theorem dL_law_1258 : decode cL_law 1258 = .ok (.iload 5, 2) := by decide +kernel
theorem dL_law_1260 : decode cL_law 1260 = .ok (.ifCond .ne 15, 3) := by decide +kernel
theorem dL_law_1263 : decode cL_law 1263 = .ok (.aload_n 3, 1) := by decide +kernel
theorem dL_law_1264 : decode cL_law 1264 = .ok (.iconst 0, 1) := by decide +kernel
theorem dL_law_1265 : decode cL_law 1265 = .ok (.laload, 1) := by decide +kernel
theorem dL_law_1266 : decode cL_law 1266 = .ok (.iload 6, 2) := by decide +kernel
theorem dL_law_1268 : decode cL_law 1268 = .ok (.i2l, 1) := by decide +kernel
theorem dL_law_1269 : decode cL_law 1269 = .ok (.lcmp, 1) := by decide +kernel
theorem dL_law_1270 : decode cL_law 1270 = .ok (.ifCond .eq 5, 3) := by decide +kernel
theorem dL_law_1275 : decode cL_law 1275 = .ok (.goto 856, 3) := by decide +kernel
theorem glaw20_0 : GoodIn lw_tbl (va_wsS RL 171 yL_holder wsPL_holder) := goodIn_sub ((List.forall_mem_append.mpr ⟨(mem_p ([.methodLink RL 171 yL_holder, .static yL_holder, .initialized "OptimaWorksLaw"] : List Cond) [(9, 205), (9, 206), (1, 0)] (by decide +kernel)), ml_wsPL_holder⟩ : ∀ w ∈ va_wsS RL 171 yL_holder wsPL_holder, w ∈ lw_tbl)) (by decide +kernel)
theorem glaw20_1 : GoodIn lw_tbl (wsV RL 173 RX12 yX12_holder wsPX12_holder) := goodIn_sub ((List.forall_mem_append.mpr ⟨(mem_p ([.methodLink RL 173 yX12_holder, .instanceMethod yX12_holder, .selects RX12 yX12_holder yX12_holder, .initialized RX12] : List Cond) [(15, 92), (15, 93), (15, 94), (1, 4)] (by decide +kernel)), ml_wsPX12_holder⟩ : ∀ w ∈ wsV RL 173 RX12 yX12_holder wsPX12_holder, w ∈ lw_tbl)) (by decide +kernel)
theorem glaw20_2 : GoodIn lw_tbl (wsV RL 111 RX12 yX12_thrown wsPX12_thrown) := goodIn_sub ((List.forall_mem_append.mpr ⟨(mem_p ([.methodLink RL 111 yX12_thrown, .instanceMethod yX12_thrown, .selects RX12 yX12_thrown yX12_thrown, .initialized RX12] : List Cond) [(12, 139), (12, 140), (12, 141), (1, 4)] (by decide +kernel)), ml_wsPX12_thrown⟩ : ∀ w ∈ wsV RL 111 RX12 yX12_thrown wsPX12_thrown, w ∈ lw_tbl)) (by decide +kernel)
set_option maxHeartbeats 4000000 in
set_option maxRecDepth 100000 in
/-- the law's case 20: holder -/
theorem lc_20 {p : Program} {e : Env} {s : State} {m : MethodId} {below : List Frame} {meth : Method} {c : Code} (l : Launch) (hst : l.stackTraces = false) {b : Nat} {xs : Nat → Int32} (C0 : lw_At p s m meth c b 6 xs) {A : Nat → Prop} (hA : ∀ q : Nat, s.heap.size ≤ q → A q) (hA2 : ∀ q : Nat, A q → s.heap.size ≤ q) (X0 : lx_ok A s) (dC : Nat → ClassId) (dI : Nat → Nat → Nat) {h1 h2 o : Nat} {a : Nat → Nat} {k : Nat → ClassId} {av : Nat → Nat} {kv : Nat → ClassId} {kO : ClassId} {H : Heap} {locs : List Loc} {ls : Array Slot} (hK : va_K (dC, dI) vwCl [((kv 78), .int), (kO, .long)] s) (hP : va_P (dC, dI) vwCl [(h1, .inr (11, [.ref (a 0), .ref (a 1), .ref (a 3), .ref (a 14), .int 0, .null, .null, .null, .null, .null, .null])), (h2, .inr (12, fM (vM av))), ((av 78), .inl ((kv 78), 10, .inl (fun _ => 0))), (o, .inl (kO, 1, .inr (.inl (fun _ => 0))))] H) (hD : va_D A [(h1, .inr (11, [.ref (a 0), .ref (a 1), .ref (a 3), .ref (a 14), .int 0, .null, .null, .null, .null, .null, .null])), (h2, .inr (12, fM (vM av))), ((av 78), .inl ((kv 78), 10, .inl (fun _ => 0))), (o, .inl (kO, 1, .inr (.inl (fun _ => 0))))]) (hS : va_S A s.heap H locs) (hl : lv_has ls 7 [(4, .int 0), (3, .ref o), (2, .ref h2), (1, .ref h1), (0, .ref b)]) : W p l e room_1 s m #[Value.ref b] below meth c H locs 125 181434 (lw_Z below #[Value.ref b] s) (F0 m 1222 ls []) := by
  obtain ⟨hx, hb, hr, hml, hown, hts, hX, hbl, hlocks, hgv⟩ := id C0
  have hb : c.code = cL_law := hb
  have hown : s.vm.findClass RL = some m.cls := hown
  obtain ⟨hU, hN, hnX11_343, hnX11_392, hnX11_421, hncAI, hngX11_161, hngX11_79, hngX11_95⟩ := X0
  have hbA : ¬ A b := fun h => absurd (hA2 b h) (Nat.not_le.mpr hbl)
  refine lv_aload_n hx hb dL_law_1222 rfl (lv_at hl 3 rfl) ?_
  refine lv_aload_n hx hb dL_law_1223 rfl (lv_at hl 4 rfl) ?_
  refine lv_iload hx hb dL_law_1224 (lv_at hl 0 rfl) ?_
  refine lv_iconst (v := 1) hx hb dL_law_1226 (by decide) ?_
  refine lv_iadd hx hb dL_law_1227 ?_
  refine lv_topi (fun y1 hy1 => ?_)
  obtain rfl : 1 = y1 := (hy1.trans (by decide)).symm
  refine va_sld hx hb hX hbl hbA hS (show ¬ ((1 : Int32) < 0 ∨ 6 ≤ (1 : Int32).toNatClampNeg) by decide) dL_law_1228 ?_
  refine lv_topi (fun y2 hy2 => ?_)
  obtain rfl : (xs 1) = y2 := (hy2.trans (rfl)).symm
  refine lv_aload_n hx hb dL_law_1229 rfl (lv_at hl 1 rfl) ?_
  have hPc := hP.sub (ws' := [(h1, .inr (11, [.ref (a 0), .ref (a 1), .ref (a 3), .ref (a 14), .int 0, .null, .null, .null, .null, .null, .null])), (o, .inl (kO, 1, .inr (.inl (fun _ => 0))))]) [0, 3] rfl
  have hDc := hD.sub (ws' := [(h1, .inr (11, [.ref (a 0), .ref (a 1), .ref (a 3), .ref (a 14), .int 0, .null, .null, .null, .null, .null, .null])), (o, .inl (kO, 1, .inr (.inl (fun _ => 0))))]) [0, 3] (by decide) rfl
  have hKc := hK.sub (tys' := [(kO, .long)]) [1] rfl
  have hFc := va_free (wc := [(h1, .inr (11, [.ref (a 0), .ref (a 1), .ref (a 3), .ref (a 14), .int 0, .null, .null, .null, .null, .null, .null])), (o, .inl (kO, 1, .inr (.inl (fun _ => 0))))]) hD hS hA [0, 3] rfl
  refine va_calli (vx_runSW (As := [.ref h1, .int (xs 1), .ref o]) (rest := []) ⟨hx, hb, hml, hown, hts⟩ (p_L_holder l hst dC dI h1 a o kO (xs 1) H.size) (vx_cwSW 3 hts glaw20_0 rfl rfl rfl (by decide +kernel) ⟨by decide +kernel, by decide +kernel⟩) ⟨fun a U g mk q => by obtain ⟨q0, q1, qP, qK, qD, qU, qN, qngX11_79, qhnX11_343⟩ := q; exact ⟨q0, q1, qP, va_K.moved (u := U) (U := U.calling g mk a) (Vm.Alike.refl U.vm) qK, qD, vx_Zq.moved (u := U) (U := U.calling g mk a) (Vm.Alike.refl U.vm) qU, vx_Zq.moved (u := U) (U := U.calling g mk a) (Vm.Alike.refl U.vm) qN, fun w h => va_Nw.same (u := U) (U := U.calling g mk a) (ngX11_79_ot w h) rfl (qngX11_79 w h), va_Nw.same (u := U) (U := U.calling g mk a) rfl rfl qhnX11_343⟩, fun U hU9 hW => ⟨rfl, by rw [hU9], by rw [hU9]; exact hPc, va_K.moved hW.alike hKc, hDc.weaken (fun _ _ _ _ => trivial), by rw [hU9]; exact ((hU.kept (fun a h1 h2 => hS.2.1 a h1 h2)).narrow hFc).moved hW.alike, by rw [hU9]; exact ((hN.kept (fun a h1 h2 => hS.2.1 a h1 h2)).narrow hFc).moved hW.alike, fun w h => cd_warm (ngX11_79_cd w h) hW (hngX11_79 w h), va_Nw.warmM hW hnX11_343⟩⟩ rfl rfl hl.1 rfl (lv_room (Nat.le_of_ble_eq_true rfl)) dL_law_1230 ⟨by decide +kernel, by decide +kernel⟩) hS (fun q _ h => hFc q h) hFc (fun r1230 u t H1 locs ht hvm hw hB hz1 hk1 hS => ?_)
  obtain ⟨go1230, hwit1230⟩ : ∃ w9, w9 = u := ⟨u, rfl⟩
  subst hwit1230
  obtain ⟨hP1, hK1, hD1⟩ := hB
  rw [ht] at hP1
  have hK1 := va_K.moved hvm.symm hK1
  obtain ⟨hP, hD⟩ := va_join (wr := [(h2, .inr (12, fM (vM av))), ((av 78), .inl ((kv 78), 10, .inl (fun _ => 0)))]) (w1 := [(o, .inl (kO, 1, .inr (.inl go1230)))]) hP hD [0, 3] [1, 2] rfl rfl (by decide) (by decide) hk1 hFc hP1 hD1
  generalize H1 = H at hP hS ⊢
  have hP : va_P (dC, dI) vwCl [(h2, .inr (12, fM (vM av))), ((av 78), .inl ((kv 78), 10, .inl (fun _ => 0))), (o, .inl (kO, 1, .inr (.inl go1230)))] H := hP
  have hD : va_D A [(h2, .inr (12, fM (vM av))), ((av 78), .inl ((kv 78), 10, .inl (fun _ => 0))), (o, .inl (kO, 1, .inr (.inl go1230)))] := hD
  refine W.widen (k := 141) (n := 182848) (by decide +kernel) (by decide +kernel) ?_
  rcases hw with ⟨rfl, f1230_0, f1230_1⟩ | ⟨rfl, f1230_0⟩
  · refine lv_istore (lv' := [(5, .int 0), (4, .int 0), (3, .ref o), (2, .ref h2), (1, .ref h1), (0, .ref b)]) hx hb dL_law_1233 hl (by decide) rfl (fun ls hl => ?_)
    refine lv_aload_n hx hb dL_law_1235 rfl (lv_at hl 3 rfl) ?_
    refine lv_aload_n hx hb dL_law_1236 rfl (lv_at hl 5 rfl) ?_
    refine lv_iload hx hb dL_law_1237 (lv_at hl 1 rfl) ?_
    refine lv_iconst (v := 1) hx hb dL_law_1239 (by decide) ?_
    refine lv_iadd hx hb dL_law_1240 ?_
    refine lv_topi (fun y3 hy3 => ?_)
    obtain rfl : 1 = y3 := (hy3.trans (by decide)).symm
    refine va_sld hx hb hX hbl hbA hS (show ¬ ((1 : Int32) < 0 ∨ 6 ≤ (1 : Int32).toNatClampNeg) by decide) dL_law_1241 ?_
    refine lv_topi (fun y4 hy4 => ?_)
    obtain rfl : (xs 1) = y4 := (hy4.trans (rfl)).symm
    have hPc := hP.sub (ws' := [(h2, .inr (12, fM (vM av))), ((av 78), .inl ((kv 78), 10, .inl (fun _ => 0)))]) [0, 1] rfl
    have hDc := hD.sub (ws' := [(h2, .inr (12, fM (vM av))), ((av 78), .inl ((kv 78), 10, .inl (fun _ => 0)))]) [0, 1] (by decide) rfl
    have hKc := hK.sub (tys' := [((kv 78), .int)]) [0] rfl
    have hFc := va_free (wc := [(h2, .inr (12, fM (vM av))), ((av 78), .inl ((kv 78), 10, .inl (fun _ => 0)))]) hD hS hA [0, 1] rfl
    refine va_calli (va_runV (As := [.int (xs 1)]) (rest := []) ⟨hx, hb, hml, hown, hts⟩ (p_X12_holder l dC dI h2 (vM av) (rfl) (av 78) (rfl) (kv 78) (fun _ => 0) (xs 1) H.size) (cwV 1 hts glaw20_1 rfl rfl rfl (by decide +kernel) ⟨by decide +kernel, by decide +kernel⟩) ⟨fun a U g mk q => by obtain ⟨q0, q1, qP, qK, qD⟩ := q; exact ⟨q0, q1, qP, va_K.moved (u := U) (U := U.calling g mk a) (Vm.Alike.refl U.vm) qK, qD⟩, va_recv hKc hPc (ci := 12) (q0 := 0) rfl rfl, fun U hU9 hW => ⟨rfl, by rw [hU9], by rw [hU9]; exact hPc, va_K.moved hW.alike hKc, hDc.weaken (fun _ _ _ _ => trivial)⟩⟩ rfl rfl hl.1 rfl (lv_room (Nat.le_of_ble_eq_true rfl)) dL_law_1242 ⟨by decide +kernel, by decide +kernel⟩) hS (fun q _ h => hFc q h) hFc (fun r1242 u t H1 locs ht hvm hw hB hz1 hk1 hS => ?_)
    obtain ⟨w1242, hwit1242⟩ : ∃ w9, w9 = u := ⟨u, rfl⟩
    subst hwit1242
    obtain ⟨hP1, hK1, hD1⟩ := hB
    rw [ht] at hP1
    have hK1 := va_K.moved hvm.symm hK1
    obtain ⟨hP, hD⟩ := va_join (wr := [(o, .inl (kO, 1, .inr (.inl go1230)))]) (w1 := [(h2, .inr (12, fM w1242))]) hP hD [0, 1] [2] rfl rfl (by decide) (by decide) hk1 hFc hP1 hD1
    generalize H1 = H at hP hS ⊢
    have hP : va_P (dC, dI) vwCl [(o, .inl (kO, 1, .inr (.inl go1230))), (h2, .inr (12, fM w1242))] H := hP
    have hD : va_D A [(o, .inl (kO, 1, .inr (.inl go1230))), (h2, .inr (12, fM w1242))] := hD
    rcases hw with ⟨rfl, f1242_0, f1242_1⟩ | ⟨rfl, f1242_0, f1242_1⟩
    · refine lv_istore (lv' := [(6, .int 0), (5, .int 0), (4, .int 0), (3, .ref o), (2, .ref h2), (1, .ref h1), (0, .ref b)]) hx hb dL_law_1245 hl (by decide) rfl (fun ls hl => ?_)
      refine lv_aload_n hx hb dL_law_1247 rfl (lv_at hl 4 rfl) ?_
      have hPc := hP.sub (ws' := [(h2, .inr (12, fM w1242))]) [1] rfl
      have hDc := hD.sub (ws' := [(h2, .inr (12, fM w1242))]) [1] (by decide) rfl
      have hKc := hK.sub (tys' := []) [] rfl
      have hFc := va_free (wc := [(h2, .inr (12, fM w1242))]) hD hS hA [1] rfl
      refine va_calli (va_runV (As := []) (rest := []) ⟨hx, hb, hml, hown, hts⟩ (p_X12_thrown l dC dI h2 w1242 1 (f1242_1) H.size) (cwV 0 hts glaw20_2 rfl rfl rfl (by decide +kernel) ⟨by decide +kernel, by decide +kernel⟩) ⟨fun a U g mk q => by obtain ⟨q0, q1, qP, qK, qD⟩ := q; exact ⟨q0, q1, qP, va_K.moved (u := U) (U := U.calling g mk a) (Vm.Alike.refl U.vm) qK, qD⟩, va_recv hKc hPc (ci := 12) (q0 := 0) rfl rfl, fun U hU9 hW => ⟨rfl, by rw [hU9], by rw [hU9]; exact hPc, va_K.moved hW.alike hKc, hDc.weaken (fun _ _ _ _ => trivial)⟩⟩ rfl rfl hl.1 rfl (lv_room (Nat.le_of_ble_eq_true rfl)) dL_law_1248 ⟨by decide +kernel, by decide +kernel⟩) hS (fun q _ h => hFc q h) hFc (fun r1248 u t H1 locs ht hvm hw hB hz1 hk1 hS => ?_)
      obtain ⟨hP1, hK1, hD1⟩ := hB
      rw [ht] at hP1
      have hK1 := va_K.moved hvm.symm hK1
      obtain ⟨hP, hD⟩ := va_join (wr := [(o, .inl (kO, 1, .inr (.inl go1230)))]) (w1 := []) hP hD [1] [0] rfl rfl (by decide) (by decide) hk1 hFc hP1 hD1
      generalize H1 = H at hP hS ⊢
      have hP : va_P (dC, dI) vwCl [(o, .inl (kO, 1, .inr (.inl go1230)))] H := hP
      have hD : va_D A [(o, .inl (kO, 1, .inr (.inl go1230)))] := hD
      obtain rfl := hw
      refine lv_iload hx hb dL_law_1251 (lv_at hl 1 rfl) ?_
      refine lv_icmp_eq (tgt := 1258) hx hb dL_law_1253 (by decide) (fun c9 => absurd c9 (by decide)) (fun _ => ?_)
      refine lv_iconst (v := 0) hx hb dL_law_1256 (by decide) ?_
      refine W.widen (k := 600002) (n := 7302232) (by decide +kernel) (by decide +kernel) ?_
      exact False.elim (by omega)
    · refine lv_istore (lv' := [(6, .int 0), (5, .int 0), (4, .int 0), (3, .ref o), (2, .ref h2), (1, .ref h1), (0, .ref b)]) hx hb dL_law_1245 hl (by decide) rfl (fun ls hl => ?_)
      refine lv_aload_n hx hb dL_law_1247 rfl (lv_at hl 4 rfl) ?_
      have hPc := hP.sub (ws' := [(h2, .inr (12, fM w1242))]) [1] rfl
      have hDc := hD.sub (ws' := [(h2, .inr (12, fM w1242))]) [1] (by decide) rfl
      have hKc := hK.sub (tys' := []) [] rfl
      have hFc := va_free (wc := [(h2, .inr (12, fM w1242))]) hD hS hA [1] rfl
      refine va_calli (va_runV (As := []) (rest := []) ⟨hx, hb, hml, hown, hts⟩ (p_X12_thrown l dC dI h2 w1242 0 (f1242_1) H.size) (cwV 0 hts glaw20_2 rfl rfl rfl (by decide +kernel) ⟨by decide +kernel, by decide +kernel⟩) ⟨fun a U g mk q => by obtain ⟨q0, q1, qP, qK, qD⟩ := q; exact ⟨q0, q1, qP, va_K.moved (u := U) (U := U.calling g mk a) (Vm.Alike.refl U.vm) qK, qD⟩, va_recv hKc hPc (ci := 12) (q0 := 0) rfl rfl, fun U hU9 hW => ⟨rfl, by rw [hU9], by rw [hU9]; exact hPc, va_K.moved hW.alike hKc, hDc.weaken (fun _ _ _ _ => trivial)⟩⟩ rfl rfl hl.1 rfl (lv_room (Nat.le_of_ble_eq_true rfl)) dL_law_1248 ⟨by decide +kernel, by decide +kernel⟩) hS (fun q _ h => hFc q h) hFc (fun r1248_1 u t H1 locs ht hvm hw hB hz1 hk1 hS => ?_)
      obtain ⟨hP1, hK1, hD1⟩ := hB
      rw [ht] at hP1
      have hK1 := va_K.moved hvm.symm hK1
      obtain ⟨hP, hD⟩ := va_join (wr := [(o, .inl (kO, 1, .inr (.inl go1230)))]) (w1 := []) hP hD [1] [0] rfl rfl (by decide) (by decide) hk1 hFc hP1 hD1
      generalize H1 = H at hP hS ⊢
      have hP : va_P (dC, dI) vwCl [(o, .inl (kO, 1, .inr (.inl go1230)))] H := hP
      have hD : va_D A [(o, .inl (kO, 1, .inr (.inl go1230)))] := hD
      obtain rfl := hw
      refine lv_iload hx hb dL_law_1251 (lv_at hl 1 rfl) ?_
      refine lv_icmp_eq (tgt := 1258) hx hb dL_law_1253 (by decide) (fun _ => ?_) (fun c9 => absurd (by decide) c9)
      refine lv_iload hx hb dL_law_1258 (lv_at hl 1 rfl) ?_
      refine lv_if_ne (tgt := 1275) hx hb dL_law_1260 (by decide) (fun c9 => absurd c9 (by decide)) (fun _ => ?_)
      refine lv_aload_n hx hb dL_law_1263 rfl (lv_at hl 3 rfl) ?_
      refine lv_iconst (v := 0) hx hb dL_law_1264 (by decide) ?_
      refine va_lald hx hb hK hP 0 1 rfl rfl (show ¬ ((0 : Int32) < 0 ∨ 1 ≤ (0 : Int32).toNatClampNeg) by decide) dL_law_1265 ?_
      refine lv_topl (fun y5 hy5 => ?_)
      obtain rfl : 0 = y5 := (hy5.trans (f1230_1)).symm
      refine lv_iload hx hb dL_law_1266 (lv_at hl 0 rfl) ?_
      refine lv_i2l hx hb dL_law_1268 rfl ?_
      refine lv_topl (fun y6 hy6 => ?_)
      obtain rfl : 0 = y6 := (hy6.trans (by decide)).symm
      refine W.lcmp hx hb dL_law_1269 ?_
      refine lv_topi (fun y7 hy7 => ?_)
      obtain rfl : 0 = y7 := (hy7.trans (by decide)).symm
      refine lv_if_eq (tgt := 1275) hx hb dL_law_1270 (by decide) (fun _ => ?_) (fun c9 => absurd (by decide) c9)
      refine lv_goto (tgt := 2131) hx hb dL_law_1275 (by decide) ?_
      refine lv_iinc (v := 6) (lv' := [(4, .int 6), (6, .int 0), (5, .int 0), (3, .ref o), (2, .ref h2), (1, .ref h1), (0, .ref b)]) hx hb dL_law_2131 hl (k := 2) rfl (by decide) (by decide) rfl (fun ls hl => ?_)
      refine lv_goto (tgt := 23) hx hb dL_law_2134 (by decide) ?_
      refine lv_iload hx hb dL_law_23 (lv_at hl 0 rfl) ?_
      refine lv_aload_n hx hb dL_law_25 rfl (lv_at hl 6 rfl) ?_
      refine va_slen hx hb hX hbl hbA hS dL_law_26 ?_
      refine lv_topi (fun y8 hy8 => ?_)
      obtain rfl : 6 = y8 := (hy8.trans (rfl)).symm
      refine lv_bipush (v := 6) hx hb dL_law_27 (by decide) ?_
      refine lv_isub hx hb dL_law_29 ?_
      refine lv_topi (fun y9 hy9 => ?_)
      obtain rfl : 0 = y9 := (hy9.trans (by decide)).symm
      refine lv_icmp_gt (tgt := 2137) hx hb dL_law_30 (by decide) (fun _ => ?_) (fun c9 => absurd (by decide) c9)
      refine lv_iconst (v := 1) hx hb dL_law_2137 (by decide) ?_
      refine W.widen (k := 600002) (n := 7302232) (by decide +kernel) (by decide +kernel) ?_
      refine va_forget (fun q hq => hA2 _ (hS.2.2 q hq)) ?_
      exact lw_ret hx hb hr hlocks dL_law_2138
  · refine lv_istore (lv' := [(5, .int 1), (4, .int 0), (3, .ref o), (2, .ref h2), (1, .ref h1), (0, .ref b)]) hx hb dL_law_1233 hl (by decide) rfl (fun ls hl => ?_)
    refine lv_aload_n hx hb dL_law_1235 rfl (lv_at hl 3 rfl) ?_
    refine lv_aload_n hx hb dL_law_1236 rfl (lv_at hl 5 rfl) ?_
    refine lv_iload hx hb dL_law_1237 (lv_at hl 1 rfl) ?_
    refine lv_iconst (v := 1) hx hb dL_law_1239 (by decide) ?_
    refine lv_iadd hx hb dL_law_1240 ?_
    refine lv_topi (fun y10 hy10 => ?_)
    obtain rfl : 1 = y10 := (hy10.trans (by decide)).symm
    refine va_sld hx hb hX hbl hbA hS (show ¬ ((1 : Int32) < 0 ∨ 6 ≤ (1 : Int32).toNatClampNeg) by decide) dL_law_1241 ?_
    refine lv_topi (fun y11 hy11 => ?_)
    obtain rfl : (xs 1) = y11 := (hy11.trans (rfl)).symm
    have hPc := hP.sub (ws' := [(h2, .inr (12, fM (vM av))), ((av 78), .inl ((kv 78), 10, .inl (fun _ => 0)))]) [0, 1] rfl
    have hDc := hD.sub (ws' := [(h2, .inr (12, fM (vM av))), ((av 78), .inl ((kv 78), 10, .inl (fun _ => 0)))]) [0, 1] (by decide) rfl
    have hKc := hK.sub (tys' := [((kv 78), .int)]) [0] rfl
    have hFc := va_free (wc := [(h2, .inr (12, fM (vM av))), ((av 78), .inl ((kv 78), 10, .inl (fun _ => 0)))]) hD hS hA [0, 1] rfl
    refine va_calli (va_runV (As := [.int (xs 1)]) (rest := []) ⟨hx, hb, hml, hown, hts⟩ (p_X12_holder l dC dI h2 (vM av) (rfl) (av 78) (rfl) (kv 78) (fun _ => 0) (xs 1) H.size) (cwV 1 hts glaw20_1 rfl rfl rfl (by decide +kernel) ⟨by decide +kernel, by decide +kernel⟩) ⟨fun a U g mk q => by obtain ⟨q0, q1, qP, qK, qD⟩ := q; exact ⟨q0, q1, qP, va_K.moved (u := U) (U := U.calling g mk a) (Vm.Alike.refl U.vm) qK, qD⟩, va_recv hKc hPc (ci := 12) (q0 := 0) rfl rfl, fun U hU9 hW => ⟨rfl, by rw [hU9], by rw [hU9]; exact hPc, va_K.moved hW.alike hKc, hDc.weaken (fun _ _ _ _ => trivial)⟩⟩ rfl rfl hl.1 rfl (lv_room (Nat.le_of_ble_eq_true rfl)) dL_law_1242 ⟨by decide +kernel, by decide +kernel⟩) hS (fun q _ h => hFc q h) hFc (fun r1242_1 u t H1 locs ht hvm hw hB hz1 hk1 hS => ?_)
    obtain ⟨w1242_1, hwit1242_1⟩ : ∃ w9, w9 = u := ⟨u, rfl⟩
    subst hwit1242_1
    obtain ⟨hP1, hK1, hD1⟩ := hB
    rw [ht] at hP1
    have hK1 := va_K.moved hvm.symm hK1
    obtain ⟨hP, hD⟩ := va_join (wr := [(o, .inl (kO, 1, .inr (.inl go1230)))]) (w1 := [(h2, .inr (12, fM w1242_1))]) hP hD [0, 1] [2] rfl rfl (by decide) (by decide) hk1 hFc hP1 hD1
    generalize H1 = H at hP hS ⊢
    have hP : va_P (dC, dI) vwCl [(o, .inl (kO, 1, .inr (.inl go1230))), (h2, .inr (12, fM w1242_1))] H := hP
    have hD : va_D A [(o, .inl (kO, 1, .inr (.inl go1230))), (h2, .inr (12, fM w1242_1))] := hD
    rcases hw with ⟨rfl, f1242_1_0, f1242_1_1⟩ | ⟨rfl, f1242_1_0, f1242_1_1⟩
    · refine lv_istore (lv' := [(6, .int 0), (5, .int 1), (4, .int 0), (3, .ref o), (2, .ref h2), (1, .ref h1), (0, .ref b)]) hx hb dL_law_1245 hl (by decide) rfl (fun ls hl => ?_)
      refine lv_aload_n hx hb dL_law_1247 rfl (lv_at hl 4 rfl) ?_
      have hPc := hP.sub (ws' := [(h2, .inr (12, fM w1242_1))]) [1] rfl
      have hDc := hD.sub (ws' := [(h2, .inr (12, fM w1242_1))]) [1] (by decide) rfl
      have hKc := hK.sub (tys' := []) [] rfl
      have hFc := va_free (wc := [(h2, .inr (12, fM w1242_1))]) hD hS hA [1] rfl
      refine va_calli (va_runV (As := []) (rest := []) ⟨hx, hb, hml, hown, hts⟩ (p_X12_thrown l dC dI h2 w1242_1 1 (f1242_1_1) H.size) (cwV 0 hts glaw20_2 rfl rfl rfl (by decide +kernel) ⟨by decide +kernel, by decide +kernel⟩) ⟨fun a U g mk q => by obtain ⟨q0, q1, qP, qK, qD⟩ := q; exact ⟨q0, q1, qP, va_K.moved (u := U) (U := U.calling g mk a) (Vm.Alike.refl U.vm) qK, qD⟩, va_recv hKc hPc (ci := 12) (q0 := 0) rfl rfl, fun U hU9 hW => ⟨rfl, by rw [hU9], by rw [hU9]; exact hPc, va_K.moved hW.alike hKc, hDc.weaken (fun _ _ _ _ => trivial)⟩⟩ rfl rfl hl.1 rfl (lv_room (Nat.le_of_ble_eq_true rfl)) dL_law_1248 ⟨by decide +kernel, by decide +kernel⟩) hS (fun q _ h => hFc q h) hFc (fun r1248_2 u t H1 locs ht hvm hw hB hz1 hk1 hS => ?_)
      obtain ⟨hP1, hK1, hD1⟩ := hB
      rw [ht] at hP1
      have hK1 := va_K.moved hvm.symm hK1
      obtain ⟨hP, hD⟩ := va_join (wr := [(o, .inl (kO, 1, .inr (.inl go1230)))]) (w1 := []) hP hD [1] [0] rfl rfl (by decide) (by decide) hk1 hFc hP1 hD1
      generalize H1 = H at hP hS ⊢
      have hP : va_P (dC, dI) vwCl [(o, .inl (kO, 1, .inr (.inl go1230)))] H := hP
      have hD : va_D A [(o, .inl (kO, 1, .inr (.inl go1230)))] := hD
      obtain rfl := hw
      refine lv_iload hx hb dL_law_1251 (lv_at hl 1 rfl) ?_
      refine lv_icmp_eq (tgt := 1258) hx hb dL_law_1253 (by decide) (fun _ => ?_) (fun c9 => absurd (by decide) c9)
      refine lv_iload hx hb dL_law_1258 (lv_at hl 1 rfl) ?_
      refine lv_if_ne (tgt := 1275) hx hb dL_law_1260 (by decide) (fun _ => ?_) (fun c9 => absurd c9 (by decide))
      refine lv_goto (tgt := 2131) hx hb dL_law_1275 (by decide) ?_
      refine lv_iinc (v := 6) (lv' := [(4, .int 6), (6, .int 0), (5, .int 1), (3, .ref o), (2, .ref h2), (1, .ref h1), (0, .ref b)]) hx hb dL_law_2131 hl (k := 2) rfl (by decide) (by decide) rfl (fun ls hl => ?_)
      refine lv_goto (tgt := 23) hx hb dL_law_2134 (by decide) ?_
      refine lv_iload hx hb dL_law_23 (lv_at hl 0 rfl) ?_
      refine lv_aload_n hx hb dL_law_25 rfl (lv_at hl 6 rfl) ?_
      refine va_slen hx hb hX hbl hbA hS dL_law_26 ?_
      refine lv_topi (fun y12 hy12 => ?_)
      obtain rfl : 6 = y12 := (hy12.trans (rfl)).symm
      refine lv_bipush (v := 6) hx hb dL_law_27 (by decide) ?_
      refine lv_isub hx hb dL_law_29 ?_
      refine lv_topi (fun y13 hy13 => ?_)
      obtain rfl : 0 = y13 := (hy13.trans (by decide)).symm
      refine lv_icmp_gt (tgt := 2137) hx hb dL_law_30 (by decide) (fun _ => ?_) (fun c9 => absurd (by decide) c9)
      refine lv_iconst (v := 1) hx hb dL_law_2137 (by decide) ?_
      refine W.widen (k := 600002) (n := 7302232) (by decide +kernel) (by decide +kernel) ?_
      refine va_forget (fun q hq => hA2 _ (hS.2.2 q hq)) ?_
      exact lw_ret hx hb hr hlocks dL_law_2138
    · refine lv_istore (lv' := [(6, .int 0), (5, .int 1), (4, .int 0), (3, .ref o), (2, .ref h2), (1, .ref h1), (0, .ref b)]) hx hb dL_law_1245 hl (by decide) rfl (fun ls hl => ?_)
      refine lv_aload_n hx hb dL_law_1247 rfl (lv_at hl 4 rfl) ?_
      have hPc := hP.sub (ws' := [(h2, .inr (12, fM w1242_1))]) [1] rfl
      have hDc := hD.sub (ws' := [(h2, .inr (12, fM w1242_1))]) [1] (by decide) rfl
      have hKc := hK.sub (tys' := []) [] rfl
      have hFc := va_free (wc := [(h2, .inr (12, fM w1242_1))]) hD hS hA [1] rfl
      refine va_calli (va_runV (As := []) (rest := []) ⟨hx, hb, hml, hown, hts⟩ (p_X12_thrown l dC dI h2 w1242_1 0 (f1242_1_1) H.size) (cwV 0 hts glaw20_2 rfl rfl rfl (by decide +kernel) ⟨by decide +kernel, by decide +kernel⟩) ⟨fun a U g mk q => by obtain ⟨q0, q1, qP, qK, qD⟩ := q; exact ⟨q0, q1, qP, va_K.moved (u := U) (U := U.calling g mk a) (Vm.Alike.refl U.vm) qK, qD⟩, va_recv hKc hPc (ci := 12) (q0 := 0) rfl rfl, fun U hU9 hW => ⟨rfl, by rw [hU9], by rw [hU9]; exact hPc, va_K.moved hW.alike hKc, hDc.weaken (fun _ _ _ _ => trivial)⟩⟩ rfl rfl hl.1 rfl (lv_room (Nat.le_of_ble_eq_true rfl)) dL_law_1248 ⟨by decide +kernel, by decide +kernel⟩) hS (fun q _ h => hFc q h) hFc (fun r1248_3 u t H1 locs ht hvm hw hB hz1 hk1 hS => ?_)
      obtain ⟨hP1, hK1, hD1⟩ := hB
      rw [ht] at hP1
      have hK1 := va_K.moved hvm.symm hK1
      obtain ⟨hP, hD⟩ := va_join (wr := [(o, .inl (kO, 1, .inr (.inl go1230)))]) (w1 := []) hP hD [1] [0] rfl rfl (by decide) (by decide) hk1 hFc hP1 hD1
      generalize H1 = H at hP hS ⊢
      have hP : va_P (dC, dI) vwCl [(o, .inl (kO, 1, .inr (.inl go1230)))] H := hP
      have hD : va_D A [(o, .inl (kO, 1, .inr (.inl go1230)))] := hD
      obtain rfl := hw
      refine lv_iload hx hb dL_law_1251 (lv_at hl 1 rfl) ?_
      refine lv_icmp_eq (tgt := 1258) hx hb dL_law_1253 (by decide) (fun c9 => absurd c9 (by decide)) (fun _ => ?_)
      refine lv_iconst (v := 0) hx hb dL_law_1256 (by decide) ?_
      refine W.widen (k := 600002) (n := 7302232) (by decide +kernel) (by decide +kernel) ?_
      exact False.elim (by omega)
theorem dL_law_1278 : decode cL_law 1278 = .ok (.aload_n 1, 1) := by decide +kernel
theorem dL_law_1279 : decode cL_law 1279 = .ok (.aload_n 0, 1) := by decide +kernel
theorem dL_law_1280 : decode cL_law 1280 = .ok (.iload 4, 2) := by decide +kernel
theorem dL_law_1282 : decode cL_law 1282 = .ok (.iconst 1, 1) := by decide +kernel
theorem dL_law_1283 : decode cL_law 1283 = .ok (.iadd, 1) := by decide +kernel
theorem dL_law_1284 : decode cL_law 1284 = .ok (.iaload, 1) := by decide +kernel
theorem dL_law_1285 : decode cL_law 1285 = .ok (.aload_n 0, 1) := by decide +kernel
theorem dL_law_1286 : decode cL_law 1286 = .ok (.iload 4, 2) := by decide +kernel
theorem dL_law_1288 : decode cL_law 1288 = .ok (.iconst 2, 1) := by decide +kernel
theorem dL_law_1289 : decode cL_law 1289 = .ok (.iadd, 1) := by decide +kernel
theorem dL_law_1290 : decode cL_law 1290 = .ok (.iaload, 1) := by decide +kernel
theorem dL_law_1291 : decode cL_law 1291 = .ok (.aload_n 0, 1) := by decide +kernel
theorem dL_law_1292 : decode cL_law 1292 = .ok (.iload 4, 2) := by decide +kernel
theorem dL_law_1294 : decode cL_law 1294 = .ok (.iconst 3, 1) := by decide +kernel
theorem dL_law_1295 : decode cL_law 1295 = .ok (.iadd, 1) := by decide +kernel
theorem dL_law_1296 : decode cL_law 1296 = .ok (.iaload, 1) := by decide +kernel
theorem dL_law_1297 : decode cL_law 1297 = .ok (.aload_n 0, 1) := by decide +kernel
theorem dL_law_1298 : decode cL_law 1298 = .ok (.iload 4, 2) := by decide +kernel
theorem dL_law_1300 : decode cL_law 1300 = .ok (.iconst 4, 1) := by decide +kernel
theorem dL_law_1301 : decode cL_law 1301 = .ok (.iadd, 1) := by decide +kernel
theorem dL_law_1302 : decode cL_law 1302 = .ok (.iaload, 1) := by decide +kernel
theorem dL_law_1303 : decode cL_law 1303 = .ok (.aload_n 3, 1) := by decide +kernel
theorem dL_law_1304 : decode cL_law 1304 = .ok (.invokestatic 174, 3) := by decide +kernel
theorem dL_law_1307 : decode cL_law 1307 = .ok (.istore 5, 2) := by decide +kernel
theorem dL_law_1309 : decode cL_law 1309 = .ok (.aload_n 2, 1) := by decide +kernel
theorem dL_law_1310 : decode cL_law 1310 = .ok (.aload_n 0, 1) := by decide +kernel
theorem dL_law_1311 : decode cL_law 1311 = .ok (.iload 4, 2) := by decide +kernel
theorem dL_law_1313 : decode cL_law 1313 = .ok (.iconst 1, 1) := by decide +kernel
theorem dL_law_1314 : decode cL_law 1314 = .ok (.iadd, 1) := by decide +kernel
theorem dL_law_1315 : decode cL_law 1315 = .ok (.iaload, 1) := by decide +kernel
theorem dL_law_1316 : decode cL_law 1316 = .ok (.aload_n 0, 1) := by decide +kernel
theorem dL_law_1317 : decode cL_law 1317 = .ok (.iload 4, 2) := by decide +kernel
theorem dL_law_1319 : decode cL_law 1319 = .ok (.iconst 2, 1) := by decide +kernel
theorem dL_law_1320 : decode cL_law 1320 = .ok (.iadd, 1) := by decide +kernel
theorem dL_law_1321 : decode cL_law 1321 = .ok (.iaload, 1) := by decide +kernel
theorem dL_law_1322 : decode cL_law 1322 = .ok (.aload_n 0, 1) := by decide +kernel
theorem dL_law_1323 : decode cL_law 1323 = .ok (.iload 4, 2) := by decide +kernel
theorem dL_law_1325 : decode cL_law 1325 = .ok (.iconst 3, 1) := by decide +kernel
theorem dL_law_1326 : decode cL_law 1326 = .ok (.iadd, 1) := by decide +kernel
theorem dL_law_1327 : decode cL_law 1327 = .ok (.iaload, 1) := by decide +kernel
theorem dL_law_1328 : decode cL_law 1328 = .ok (.aload_n 0, 1) := by decide +kernel
theorem dL_law_1329 : decode cL_law 1329 = .ok (.iload 4, 2) := by decide +kernel
theorem dL_law_1331 : decode cL_law 1331 = .ok (.iconst 4, 1) := by decide +kernel
theorem dL_law_1332 : decode cL_law 1332 = .ok (.iadd, 1) := by decide +kernel
theorem dL_law_1333 : decode cL_law 1333 = .ok (.iaload, 1) := by decide +kernel
theorem dL_law_1334 : decode cL_law 1334 = .ok (.invokevirtual 177, 3) := by decide +kernel
theorem dL_law_1337 : decode cL_law 1337 = .ok (.istore 6, 2) := by decide +kernel
theorem dL_law_1339 : decode cL_law 1339 = .ok (.aload_n 2, 1) := by decide +kernel
theorem dL_law_1340 : decode cL_law 1340 = .ok (.invokevirtual 111, 3) := by decide +kernel
theorem dL_law_1343 : decode cL_law 1343 = .ok (.iload 5, 2) := by decide +kernel
theorem dL_law_1345 : decode cL_law 1345 = .ok (.if_icmp .eq 5, 3) := by decide +kernel
theorem dL_law_1350 : decode cL_law 1350 = .ok (.iload 5, 2) := by decide +kernel
theorem dL_law_1352 : decode cL_law 1352 = .ok (.ifCond .ne 15, 3) := by decide +kernel
theorem dL_law_1367 : decode cL_law 1367 = .ok (.goto 764, 3) := by decide +kernel
theorem glaw21_0 : GoodIn lw_tbl (va_wsS RL 174 yL_rule wsPL_rule) := goodIn_sub ((List.forall_mem_append.mpr ⟨(mem_p ([.methodLink RL 174 yL_rule, .static yL_rule, .initialized "OptimaWorksLaw"] : List Cond) [(9, 216), (9, 217), (1, 0)] (by decide +kernel)), ml_wsPL_rule⟩ : ∀ w ∈ va_wsS RL 174 yL_rule wsPL_rule, w ∈ lw_tbl)) (by decide +kernel)
theorem glaw21_1 : GoodIn lw_tbl (wsV RL 177 RX12 yX12_rule wsPX12_rule) := goodIn_sub ((List.forall_mem_append.mpr ⟨(mem_p ([.methodLink RL 177 yX12_rule, .instanceMethod yX12_rule, .selects RX12 yX12_rule yX12_rule, .initialized RX12] : List Cond) [(15, 97), (15, 98), (15, 99), (1, 4)] (by decide +kernel)), ml_wsPX12_rule⟩ : ∀ w ∈ wsV RL 177 RX12 yX12_rule wsPX12_rule, w ∈ lw_tbl)) (by decide +kernel)
theorem glaw21_2 : GoodIn lw_tbl (wsV RL 111 RX12 yX12_thrown wsPX12_thrown) := goodIn_sub ((List.forall_mem_append.mpr ⟨(mem_p ([.methodLink RL 111 yX12_thrown, .instanceMethod yX12_thrown, .selects RX12 yX12_thrown yX12_thrown, .initialized RX12] : List Cond) [(12, 139), (12, 140), (12, 141), (1, 4)] (by decide +kernel)), ml_wsPX12_thrown⟩ : ∀ w ∈ wsV RL 111 RX12 yX12_thrown wsPX12_thrown, w ∈ lw_tbl)) (by decide +kernel)
set_option maxHeartbeats 4000000 in
set_option maxRecDepth 100000 in
/-- the law's case 21: rule -/
theorem lc_21 {p : Program} {e : Env} {s : State} {m : MethodId} {below : List Frame} {meth : Method} {c : Code} (l : Launch) (hst : l.stackTraces = false) {b : Nat} {xs : Nat → Int32} (C0 : lw_At p s m meth c b 6 xs) {A : Nat → Prop} (hA : ∀ q : Nat, s.heap.size ≤ q → A q) (hA2 : ∀ q : Nat, A q → s.heap.size ≤ q) (X0 : lx_ok A s) (dC : Nat → ClassId) (dI : Nat → Nat → Nat) {h1 h2 o : Nat} {a : Nat → Nat} {k : Nat → ClassId} {av : Nat → Nat} {kv : Nat → ClassId} {kO : ClassId} {H : Heap} {locs : List Loc} {ls : Array Slot} (hK : va_K (dC, dI) vwCl [(kO, .long)] s) (hP : va_P (dC, dI) vwCl [(h1, .inr (11, [.ref (a 0), .ref (a 1), .ref (a 3), .ref (a 14), .int 0, .null, .null, .null, .null, .null, .null])), (h2, .inr (12, fM (vM av))), (o, .inl (kO, 1, .inr (.inl (fun _ => 0))))] H) (hD : va_D A [(h1, .inr (11, [.ref (a 0), .ref (a 1), .ref (a 3), .ref (a 14), .int 0, .null, .null, .null, .null, .null, .null])), (h2, .inr (12, fM (vM av))), (o, .inl (kO, 1, .inr (.inl (fun _ => 0))))]) (hS : va_S A s.heap H locs) (hl : lv_has ls 7 [(4, .int 0), (3, .ref o), (2, .ref h2), (1, .ref h1), (0, .ref b)]) : W p l e room_1 s m #[Value.ref b] below meth c H locs 125 181434 (lw_Z below #[Value.ref b] s) (F0 m 1278 ls []) := by
  obtain ⟨hx, hb, hr, hml, hown, hts, hX, hbl, hlocks, hgv⟩ := id C0
  have hb : c.code = cL_law := hb
  have hown : s.vm.findClass RL = some m.cls := hown
  obtain ⟨hU, hN, hnX11_343, hnX11_392, hnX11_421, hncAI, hngX11_161, hngX11_79, hngX11_95⟩ := X0
  have hbA : ¬ A b := fun h => absurd (hA2 b h) (Nat.not_le.mpr hbl)
  refine lv_aload_n hx hb dL_law_1278 rfl (lv_at hl 3 rfl) ?_
  refine lv_aload_n hx hb dL_law_1279 rfl (lv_at hl 4 rfl) ?_
  refine lv_iload hx hb dL_law_1280 (lv_at hl 0 rfl) ?_
  refine lv_iconst (v := 1) hx hb dL_law_1282 (by decide) ?_
  refine lv_iadd hx hb dL_law_1283 ?_
  refine lv_topi (fun y1 hy1 => ?_)
  obtain rfl : 1 = y1 := (hy1.trans (by decide)).symm
  refine va_sld hx hb hX hbl hbA hS (show ¬ ((1 : Int32) < 0 ∨ 6 ≤ (1 : Int32).toNatClampNeg) by decide) dL_law_1284 ?_
  refine lv_topi (fun y2 hy2 => ?_)
  obtain rfl : (xs 1) = y2 := (hy2.trans (rfl)).symm
  refine lv_aload_n hx hb dL_law_1285 rfl (lv_at hl 4 rfl) ?_
  refine lv_iload hx hb dL_law_1286 (lv_at hl 0 rfl) ?_
  refine lv_iconst (v := 2) hx hb dL_law_1288 (by decide) ?_
  refine lv_iadd hx hb dL_law_1289 ?_
  refine lv_topi (fun y3 hy3 => ?_)
  obtain rfl : 2 = y3 := (hy3.trans (by decide)).symm
  refine va_sld hx hb hX hbl hbA hS (show ¬ ((2 : Int32) < 0 ∨ 6 ≤ (2 : Int32).toNatClampNeg) by decide) dL_law_1290 ?_
  refine lv_topi (fun y4 hy4 => ?_)
  obtain rfl : (xs 2) = y4 := (hy4.trans (rfl)).symm
  refine lv_aload_n hx hb dL_law_1291 rfl (lv_at hl 4 rfl) ?_
  refine lv_iload hx hb dL_law_1292 (lv_at hl 0 rfl) ?_
  refine lv_iconst (v := 3) hx hb dL_law_1294 (by decide) ?_
  refine lv_iadd hx hb dL_law_1295 ?_
  refine lv_topi (fun y5 hy5 => ?_)
  obtain rfl : 3 = y5 := (hy5.trans (by decide)).symm
  refine va_sld hx hb hX hbl hbA hS (show ¬ ((3 : Int32) < 0 ∨ 6 ≤ (3 : Int32).toNatClampNeg) by decide) dL_law_1296 ?_
  refine lv_topi (fun y6 hy6 => ?_)
  obtain rfl : (xs 3) = y6 := (hy6.trans (rfl)).symm
  refine lv_aload_n hx hb dL_law_1297 rfl (lv_at hl 4 rfl) ?_
  refine lv_iload hx hb dL_law_1298 (lv_at hl 0 rfl) ?_
  refine lv_iconst (v := 4) hx hb dL_law_1300 (by decide) ?_
  refine lv_iadd hx hb dL_law_1301 ?_
  refine lv_topi (fun y7 hy7 => ?_)
  obtain rfl : 4 = y7 := (hy7.trans (by decide)).symm
  refine va_sld hx hb hX hbl hbA hS (show ¬ ((4 : Int32) < 0 ∨ 6 ≤ (4 : Int32).toNatClampNeg) by decide) dL_law_1302 ?_
  refine lv_topi (fun y8 hy8 => ?_)
  obtain rfl : (xs 4) = y8 := (hy8.trans (rfl)).symm
  refine lv_aload_n hx hb dL_law_1303 rfl (lv_at hl 1 rfl) ?_
  have hPc := hP.sub (ws' := [(h1, .inr (11, [.ref (a 0), .ref (a 1), .ref (a 3), .ref (a 14), .int 0, .null, .null, .null, .null, .null, .null])), (o, .inl (kO, 1, .inr (.inl (fun _ => 0))))]) [0, 2] rfl
  have hDc := hD.sub (ws' := [(h1, .inr (11, [.ref (a 0), .ref (a 1), .ref (a 3), .ref (a 14), .int 0, .null, .null, .null, .null, .null, .null])), (o, .inl (kO, 1, .inr (.inl (fun _ => 0))))]) [0, 2] (by decide) rfl
  have hKc := hK.sub (tys' := [(kO, .long)]) [0] rfl
  have hFc := va_free (wc := [(h1, .inr (11, [.ref (a 0), .ref (a 1), .ref (a 3), .ref (a 14), .int 0, .null, .null, .null, .null, .null, .null])), (o, .inl (kO, 1, .inr (.inl (fun _ => 0))))]) hD hS hA [0, 2] rfl
  refine va_calli (vx_runSW (As := [.ref h1, .int (xs 1), .int (xs 2), .int (xs 3), .int (xs 4), .ref o]) (rest := []) ⟨hx, hb, hml, hown, hts⟩ (p_L_rule l hst dC dI h1 a o kO (xs 1) (xs 2) (xs 3) (xs 4) H.size) (vx_cwSW 6 hts glaw21_0 rfl rfl rfl (by decide +kernel) ⟨by decide +kernel, by decide +kernel⟩) ⟨fun a U g mk q => by obtain ⟨q0, q1, qP, qK, qD, qU, qN, qngX11_79, qhnX11_343⟩ := q; exact ⟨q0, q1, qP, va_K.moved (u := U) (U := U.calling g mk a) (Vm.Alike.refl U.vm) qK, qD, vx_Zq.moved (u := U) (U := U.calling g mk a) (Vm.Alike.refl U.vm) qU, vx_Zq.moved (u := U) (U := U.calling g mk a) (Vm.Alike.refl U.vm) qN, fun w h => va_Nw.same (u := U) (U := U.calling g mk a) (ngX11_79_ot w h) rfl (qngX11_79 w h), va_Nw.same (u := U) (U := U.calling g mk a) rfl rfl qhnX11_343⟩, fun U hU9 hW => ⟨rfl, by rw [hU9], by rw [hU9]; exact hPc, va_K.moved hW.alike hKc, hDc.weaken (fun _ _ _ _ => trivial), by rw [hU9]; exact ((hU.kept (fun a h1 h2 => hS.2.1 a h1 h2)).narrow hFc).moved hW.alike, by rw [hU9]; exact ((hN.kept (fun a h1 h2 => hS.2.1 a h1 h2)).narrow hFc).moved hW.alike, fun w h => cd_warm (ngX11_79_cd w h) hW (hngX11_79 w h), va_Nw.warmM hW hnX11_343⟩⟩ rfl rfl hl.1 rfl (lv_room (Nat.le_of_ble_eq_true rfl)) dL_law_1304 ⟨by decide +kernel, by decide +kernel⟩) hS (fun q _ h => hFc q h) hFc (fun r1304 u t H1 locs ht hvm hw hB hz1 hk1 hS => ?_)
  obtain ⟨go1304, hwit1304⟩ : ∃ w9, w9 = u := ⟨u, rfl⟩
  subst hwit1304
  obtain ⟨hP1, hK1, hD1⟩ := hB
  rw [ht] at hP1
  have hK1 := va_K.moved hvm.symm hK1
  obtain ⟨hP, hD⟩ := va_join (wr := [(h2, .inr (12, fM (vM av)))]) (w1 := [(o, .inl (kO, 1, .inr (.inl go1304)))]) hP hD [0, 2] [1] rfl rfl (by decide) (by decide) hk1 hFc hP1 hD1
  generalize H1 = H at hP hS ⊢
  have hP : va_P (dC, dI) vwCl [(h2, .inr (12, fM (vM av))), (o, .inl (kO, 1, .inr (.inl go1304)))] H := hP
  have hD : va_D A [(h2, .inr (12, fM (vM av))), (o, .inl (kO, 1, .inr (.inl go1304)))] := hD
  refine W.widen (k := 141) (n := 182848) (by decide +kernel) (by decide +kernel) ?_
  obtain rfl := hw
  refine lv_istore (lv' := [(5, .int 1), (4, .int 0), (3, .ref o), (2, .ref h2), (1, .ref h1), (0, .ref b)]) hx hb dL_law_1307 hl (by decide) rfl (fun ls hl => ?_)
  refine lv_aload_n hx hb dL_law_1309 rfl (lv_at hl 3 rfl) ?_
  refine lv_aload_n hx hb dL_law_1310 rfl (lv_at hl 5 rfl) ?_
  refine lv_iload hx hb dL_law_1311 (lv_at hl 1 rfl) ?_
  refine lv_iconst (v := 1) hx hb dL_law_1313 (by decide) ?_
  refine lv_iadd hx hb dL_law_1314 ?_
  refine lv_topi (fun y9 hy9 => ?_)
  obtain rfl : 1 = y9 := (hy9.trans (by decide)).symm
  refine va_sld hx hb hX hbl hbA hS (show ¬ ((1 : Int32) < 0 ∨ 6 ≤ (1 : Int32).toNatClampNeg) by decide) dL_law_1315 ?_
  refine lv_topi (fun y10 hy10 => ?_)
  obtain rfl : (xs 1) = y10 := (hy10.trans (rfl)).symm
  refine lv_aload_n hx hb dL_law_1316 rfl (lv_at hl 5 rfl) ?_
  refine lv_iload hx hb dL_law_1317 (lv_at hl 1 rfl) ?_
  refine lv_iconst (v := 2) hx hb dL_law_1319 (by decide) ?_
  refine lv_iadd hx hb dL_law_1320 ?_
  refine lv_topi (fun y11 hy11 => ?_)
  obtain rfl : 2 = y11 := (hy11.trans (by decide)).symm
  refine va_sld hx hb hX hbl hbA hS (show ¬ ((2 : Int32) < 0 ∨ 6 ≤ (2 : Int32).toNatClampNeg) by decide) dL_law_1321 ?_
  refine lv_topi (fun y12 hy12 => ?_)
  obtain rfl : (xs 2) = y12 := (hy12.trans (rfl)).symm
  refine lv_aload_n hx hb dL_law_1322 rfl (lv_at hl 5 rfl) ?_
  refine lv_iload hx hb dL_law_1323 (lv_at hl 1 rfl) ?_
  refine lv_iconst (v := 3) hx hb dL_law_1325 (by decide) ?_
  refine lv_iadd hx hb dL_law_1326 ?_
  refine lv_topi (fun y13 hy13 => ?_)
  obtain rfl : 3 = y13 := (hy13.trans (by decide)).symm
  refine va_sld hx hb hX hbl hbA hS (show ¬ ((3 : Int32) < 0 ∨ 6 ≤ (3 : Int32).toNatClampNeg) by decide) dL_law_1327 ?_
  refine lv_topi (fun y14 hy14 => ?_)
  obtain rfl : (xs 3) = y14 := (hy14.trans (rfl)).symm
  refine lv_aload_n hx hb dL_law_1328 rfl (lv_at hl 5 rfl) ?_
  refine lv_iload hx hb dL_law_1329 (lv_at hl 1 rfl) ?_
  refine lv_iconst (v := 4) hx hb dL_law_1331 (by decide) ?_
  refine lv_iadd hx hb dL_law_1332 ?_
  refine lv_topi (fun y15 hy15 => ?_)
  obtain rfl : 4 = y15 := (hy15.trans (by decide)).symm
  refine va_sld hx hb hX hbl hbA hS (show ¬ ((4 : Int32) < 0 ∨ 6 ≤ (4 : Int32).toNatClampNeg) by decide) dL_law_1333 ?_
  refine lv_topi (fun y16 hy16 => ?_)
  obtain rfl : (xs 4) = y16 := (hy16.trans (rfl)).symm
  have hPc := hP.sub (ws' := [(h2, .inr (12, fM (vM av)))]) [0] rfl
  have hDc := hD.sub (ws' := [(h2, .inr (12, fM (vM av)))]) [0] (by decide) rfl
  have hKc := hK.sub (tys' := []) [] rfl
  have hFc := va_free (wc := [(h2, .inr (12, fM (vM av)))]) hD hS hA [0] rfl
  refine va_calli (va_runV (As := [.int (xs 1), .int (xs 2), .int (xs 3), .int (xs 4)]) (rest := []) ⟨hx, hb, hml, hown, hts⟩ (p_X12_rule l dC dI h2 (vM av) (rfl) (xs 1) (xs 2) (xs 3) (xs 4) H.size) (cwV 4 hts glaw21_1 rfl rfl rfl (by decide +kernel) ⟨by decide +kernel, by decide +kernel⟩) ⟨fun a U g mk q => by obtain ⟨q0, q1, qP, qK, qD⟩ := q; exact ⟨q0, q1, qP, va_K.moved (u := U) (U := U.calling g mk a) (Vm.Alike.refl U.vm) qK, qD⟩, va_recv hKc hPc (ci := 12) (q0 := 0) rfl rfl, fun U hU9 hW => ⟨rfl, by rw [hU9], by rw [hU9]; exact hPc, va_K.moved hW.alike hKc, hDc.weaken (fun _ _ _ _ => trivial)⟩⟩ rfl rfl hl.1 rfl (lv_room (Nat.le_of_ble_eq_true rfl)) dL_law_1334 ⟨by decide +kernel, by decide +kernel⟩) hS (fun q _ h => hFc q h) hFc (fun r1334 u t H1 locs ht hvm hw hB hz1 hk1 hS => ?_)
  obtain ⟨w1334, hwit1334⟩ : ∃ w9, w9 = u := ⟨u, rfl⟩
  subst hwit1334
  obtain ⟨hP1, hK1, hD1⟩ := hB
  rw [ht] at hP1
  have hK1 := va_K.moved hvm.symm hK1
  obtain ⟨hP, hD⟩ := va_join (wr := [(o, .inl (kO, 1, .inr (.inl go1304)))]) (w1 := [(h2, .inr (12, fM w1334))]) hP hD [0] [1] rfl rfl (by decide) (by decide) hk1 hFc hP1 hD1
  generalize H1 = H at hP hS ⊢
  have hP : va_P (dC, dI) vwCl [(o, .inl (kO, 1, .inr (.inl go1304))), (h2, .inr (12, fM w1334))] H := hP
  have hD : va_D A [(o, .inl (kO, 1, .inr (.inl go1304))), (h2, .inr (12, fM w1334))] := hD
  obtain ⟨rfl, f1334_0⟩ := hw
  refine lv_istore (lv' := [(6, .int 0), (5, .int 1), (4, .int 0), (3, .ref o), (2, .ref h2), (1, .ref h1), (0, .ref b)]) hx hb dL_law_1337 hl (by decide) rfl (fun ls hl => ?_)
  refine lv_aload_n hx hb dL_law_1339 rfl (lv_at hl 4 rfl) ?_
  have hPc := hP.sub (ws' := [(h2, .inr (12, fM w1334))]) [1] rfl
  have hDc := hD.sub (ws' := [(h2, .inr (12, fM w1334))]) [1] (by decide) rfl
  have hKc := hK.sub (tys' := []) [] rfl
  have hFc := va_free (wc := [(h2, .inr (12, fM w1334))]) hD hS hA [1] rfl
  refine va_calli (va_runV (As := []) (rest := []) ⟨hx, hb, hml, hown, hts⟩ (p_X12_thrown l dC dI h2 w1334 1 (f1334_0) H.size) (cwV 0 hts glaw21_2 rfl rfl rfl (by decide +kernel) ⟨by decide +kernel, by decide +kernel⟩) ⟨fun a U g mk q => by obtain ⟨q0, q1, qP, qK, qD⟩ := q; exact ⟨q0, q1, qP, va_K.moved (u := U) (U := U.calling g mk a) (Vm.Alike.refl U.vm) qK, qD⟩, va_recv hKc hPc (ci := 12) (q0 := 0) rfl rfl, fun U hU9 hW => ⟨rfl, by rw [hU9], by rw [hU9]; exact hPc, va_K.moved hW.alike hKc, hDc.weaken (fun _ _ _ _ => trivial)⟩⟩ rfl rfl hl.1 rfl (lv_room (Nat.le_of_ble_eq_true rfl)) dL_law_1340 ⟨by decide +kernel, by decide +kernel⟩) hS (fun q _ h => hFc q h) hFc (fun r1340 u t H1 locs ht hvm hw hB hz1 hk1 hS => ?_)
  obtain ⟨hP1, hK1, hD1⟩ := hB
  rw [ht] at hP1
  have hK1 := va_K.moved hvm.symm hK1
  obtain ⟨hP, hD⟩ := va_join (wr := [(o, .inl (kO, 1, .inr (.inl go1304)))]) (w1 := []) hP hD [1] [0] rfl rfl (by decide) (by decide) hk1 hFc hP1 hD1
  generalize H1 = H at hP hS ⊢
  have hP : va_P (dC, dI) vwCl [(o, .inl (kO, 1, .inr (.inl go1304)))] H := hP
  have hD : va_D A [(o, .inl (kO, 1, .inr (.inl go1304)))] := hD
  obtain rfl := hw
  refine lv_iload hx hb dL_law_1343 (lv_at hl 1 rfl) ?_
  refine lv_icmp_eq (tgt := 1350) hx hb dL_law_1345 (by decide) (fun _ => ?_) (fun c9 => absurd (by decide) c9)
  refine lv_iload hx hb dL_law_1350 (lv_at hl 1 rfl) ?_
  refine lv_if_ne (tgt := 1367) hx hb dL_law_1352 (by decide) (fun _ => ?_) (fun c9 => absurd c9 (by decide))
  refine lv_goto (tgt := 2131) hx hb dL_law_1367 (by decide) ?_
  refine lv_iinc (v := 6) (lv' := [(4, .int 6), (6, .int 0), (5, .int 1), (3, .ref o), (2, .ref h2), (1, .ref h1), (0, .ref b)]) hx hb dL_law_2131 hl (k := 2) rfl (by decide) (by decide) rfl (fun ls hl => ?_)
  refine lv_goto (tgt := 23) hx hb dL_law_2134 (by decide) ?_
  refine lv_iload hx hb dL_law_23 (lv_at hl 0 rfl) ?_
  refine lv_aload_n hx hb dL_law_25 rfl (lv_at hl 6 rfl) ?_
  refine va_slen hx hb hX hbl hbA hS dL_law_26 ?_
  refine lv_topi (fun y17 hy17 => ?_)
  obtain rfl : 6 = y17 := (hy17.trans (rfl)).symm
  refine lv_bipush (v := 6) hx hb dL_law_27 (by decide) ?_
  refine lv_isub hx hb dL_law_29 ?_
  refine lv_topi (fun y18 hy18 => ?_)
  obtain rfl : 0 = y18 := (hy18.trans (by decide)).symm
  refine lv_icmp_gt (tgt := 2137) hx hb dL_law_30 (by decide) (fun _ => ?_) (fun c9 => absurd (by decide) c9)
  refine lv_iconst (v := 1) hx hb dL_law_2137 (by decide) ?_
  refine W.widen (k := 600002) (n := 7302232) (by decide +kernel) (by decide +kernel) ?_
  refine va_forget (fun q hq => hA2 _ (hS.2.2 q hq)) ?_
  exact lw_ret hx hb hr hlocks dL_law_2138
theorem dL_law_1370 : decode cL_law 1370 = .ok (.aload_n 1, 1) := by decide +kernel
theorem dL_law_1371 : decode cL_law 1371 = .ok (.aload_n 0, 1) := by decide +kernel
theorem dL_law_1372 : decode cL_law 1372 = .ok (.iload 4, 2) := by decide +kernel
theorem dL_law_1374 : decode cL_law 1374 = .ok (.iconst 1, 1) := by decide +kernel
theorem dL_law_1375 : decode cL_law 1375 = .ok (.iadd, 1) := by decide +kernel
theorem dL_law_1376 : decode cL_law 1376 = .ok (.iaload, 1) := by decide +kernel
theorem dL_law_1377 : decode cL_law 1377 = .ok (.aload_n 0, 1) := by decide +kernel
theorem dL_law_1378 : decode cL_law 1378 = .ok (.iload 4, 2) := by decide +kernel
theorem dL_law_1380 : decode cL_law 1380 = .ok (.iconst 2, 1) := by decide +kernel
theorem dL_law_1381 : decode cL_law 1381 = .ok (.iadd, 1) := by decide +kernel
theorem dL_law_1382 : decode cL_law 1382 = .ok (.iaload, 1) := by decide +kernel
theorem dL_law_1383 : decode cL_law 1383 = .ok (.invokevirtual 178, 3) := by decide +kernel
theorem dL_law_1386 : decode cL_law 1386 = .ok (.aload_n 2, 1) := by decide +kernel
theorem dL_law_1387 : decode cL_law 1387 = .ok (.aload_n 0, 1) := by decide +kernel
theorem dL_law_1388 : decode cL_law 1388 = .ok (.iload 4, 2) := by decide +kernel
theorem dL_law_1390 : decode cL_law 1390 = .ok (.iconst 1, 1) := by decide +kernel
theorem dL_law_1391 : decode cL_law 1391 = .ok (.iadd, 1) := by decide +kernel
theorem dL_law_1392 : decode cL_law 1392 = .ok (.iaload, 1) := by decide +kernel
theorem dL_law_1393 : decode cL_law 1393 = .ok (.aload_n 0, 1) := by decide +kernel
theorem dL_law_1394 : decode cL_law 1394 = .ok (.iload 4, 2) := by decide +kernel
theorem dL_law_1396 : decode cL_law 1396 = .ok (.iconst 2, 1) := by decide +kernel
theorem dL_law_1397 : decode cL_law 1397 = .ok (.iadd, 1) := by decide +kernel
theorem dL_law_1398 : decode cL_law 1398 = .ok (.iaload, 1) := by decide +kernel
theorem dL_law_1399 : decode cL_law 1399 = .ok (.invokevirtual 182, 3) := by decide +kernel
theorem dL_law_1402 : decode cL_law 1402 = .ok (.if_icmp .eq 729, 3) := by decide +kernel
theorem dL_law_1405 : decode cL_law 1405 = .ok (.iconst 0, 1) := by decide +kernel
theorem dL_law_1406 : decode cL_law 1406 = .ok (.ireturn, 1) := by decide +kernel
theorem glaw22_0 : GoodIn lw_tbl (wsV RL 178 RX11 yX11_pair wsPX11_pair) := goodIn_sub ((List.forall_mem_append.mpr ⟨(mem_p ([.methodLink RL 178 yX11_pair, .instanceMethod yX11_pair, .selects RX11 yX11_pair yX11_pair, .initialized RX11] : List Cond) [(2, 45), (2, 46), (2, 47), (1, 1)] (by decide +kernel)), ml_wsPX11_pair⟩ : ∀ w ∈ wsV RL 178 RX11 yX11_pair wsPX11_pair, w ∈ lw_tbl)) (by decide +kernel)
theorem glaw22_1 : GoodIn lw_tbl (wsV RL 182 RX12 yX12_pair wsPX12_pair) := goodIn_sub ((List.forall_mem_append.mpr ⟨(mem_p ([.methodLink RL 182 yX12_pair, .instanceMethod yX12_pair, .selects RX12 yX12_pair yX12_pair, .initialized RX12] : List Cond) [(15, 113), (15, 114), (15, 115), (1, 4)] (by decide +kernel)), ml_wsPX12_pair⟩ : ∀ w ∈ wsV RL 182 RX12 yX12_pair wsPX12_pair, w ∈ lw_tbl)) (by decide +kernel)
set_option maxHeartbeats 4000000 in
set_option maxRecDepth 100000 in
/-- the law's case 22: pair -/
theorem lc_22 {p : Program} {e : Env} {s : State} {m : MethodId} {below : List Frame} {meth : Method} {c : Code} (l : Launch) (hst : l.stackTraces = false) {b : Nat} {xs : Nat → Int32} (C0 : lw_At p s m meth c b 6 xs) {A : Nat → Prop} (hA : ∀ q : Nat, s.heap.size ≤ q → A q) (hA2 : ∀ q : Nat, A q → s.heap.size ≤ q) (X0 : lx_ok A s) (dC : Nat → ClassId) (dI : Nat → Nat → Nat) {h1 h2 o : Nat} {a : Nat → Nat} {k : Nat → ClassId} {av : Nat → Nat} {kv : Nat → ClassId} {kO : ClassId} {H : Heap} {locs : List Loc} {ls : Array Slot} (hK : va_K (dC, dI) vwCl [((kv 85), .int), (kO, .long)] s) (hP : va_P (dC, dI) vwCl [(h1, .inr (11, [.ref (a 0), .ref (a 1), .ref (a 3), .ref (a 14), .int 0, .null, .null, .null, .null, .null, .null])), (h2, .inr (12, fM (vM av))), ((av 85), .inl ((kv 85), 16, .inl (fun _ => 0))), (o, .inl (kO, 1, .inr (.inl (fun _ => 0))))] H) (hD : va_D A [(h1, .inr (11, [.ref (a 0), .ref (a 1), .ref (a 3), .ref (a 14), .int 0, .null, .null, .null, .null, .null, .null])), (h2, .inr (12, fM (vM av))), ((av 85), .inl ((kv 85), 16, .inl (fun _ => 0))), (o, .inl (kO, 1, .inr (.inl (fun _ => 0))))]) (hS : va_S A s.heap H locs) (hl : lv_has ls 7 [(4, .int 0), (3, .ref o), (2, .ref h2), (1, .ref h1), (0, .ref b)]) : W p l e room_1 s m #[Value.ref b] below meth c H locs 125 181434 (lw_Z below #[Value.ref b] s) (F0 m 1370 ls []) := by
  obtain ⟨hx, hb, hr, hml, hown, hts, hX, hbl, hlocks, hgv⟩ := id C0
  have hb : c.code = cL_law := hb
  have hown : s.vm.findClass RL = some m.cls := hown
  obtain ⟨hU, hN, hnX11_343, hnX11_392, hnX11_421, hncAI, hngX11_161, hngX11_79, hngX11_95⟩ := X0
  have hbA : ¬ A b := fun h => absurd (hA2 b h) (Nat.not_le.mpr hbl)
  refine lv_aload_n hx hb dL_law_1370 rfl (lv_at hl 3 rfl) ?_
  refine lv_aload_n hx hb dL_law_1371 rfl (lv_at hl 4 rfl) ?_
  refine lv_iload hx hb dL_law_1372 (lv_at hl 0 rfl) ?_
  refine lv_iconst (v := 1) hx hb dL_law_1374 (by decide) ?_
  refine lv_iadd hx hb dL_law_1375 ?_
  refine lv_topi (fun y1 hy1 => ?_)
  obtain rfl : 1 = y1 := (hy1.trans (by decide)).symm
  refine va_sld hx hb hX hbl hbA hS (show ¬ ((1 : Int32) < 0 ∨ 6 ≤ (1 : Int32).toNatClampNeg) by decide) dL_law_1376 ?_
  refine lv_topi (fun y2 hy2 => ?_)
  obtain rfl : (xs 1) = y2 := (hy2.trans (rfl)).symm
  refine lv_aload_n hx hb dL_law_1377 rfl (lv_at hl 4 rfl) ?_
  refine lv_iload hx hb dL_law_1378 (lv_at hl 0 rfl) ?_
  refine lv_iconst (v := 2) hx hb dL_law_1380 (by decide) ?_
  refine lv_iadd hx hb dL_law_1381 ?_
  refine lv_topi (fun y3 hy3 => ?_)
  obtain rfl : 2 = y3 := (hy3.trans (by decide)).symm
  refine va_sld hx hb hX hbl hbA hS (show ¬ ((2 : Int32) < 0 ∨ 6 ≤ (2 : Int32).toNatClampNeg) by decide) dL_law_1382 ?_
  refine lv_topi (fun y4 hy4 => ?_)
  obtain rfl : (xs 2) = y4 := (hy4.trans (rfl)).symm
  have hPc := hP.sub (ws' := [(h1, .inr (11, [.ref (a 0), .ref (a 1), .ref (a 3), .ref (a 14), .int 0, .null, .null, .null, .null, .null, .null]))]) [0] rfl
  have hDc := hD.sub (ws' := [(h1, .inr (11, [.ref (a 0), .ref (a 1), .ref (a 3), .ref (a 14), .int 0, .null, .null, .null, .null, .null, .null]))]) [0] (by decide) rfl
  have hKc := hK.sub (tys' := []) [] rfl
  have hFc := va_free (wc := [(h1, .inr (11, [.ref (a 0), .ref (a 1), .ref (a 3), .ref (a 14), .int 0, .null, .null, .null, .null, .null, .null]))]) hD hS hA [0] rfl
  refine va_calli (va_runV (As := [.int (xs 1), .int (xs 2)]) (rest := []) ⟨hx, hb, hml, hown, hts⟩ (p_X11_pair l dC dI h1 a (xs 1) (xs 2) H.size) (cwV 2 hts glaw22_0 rfl rfl rfl (by decide +kernel) ⟨by decide +kernel, by decide +kernel⟩) ⟨fun a U g mk q => by obtain ⟨q0, q1, qP, qK, qD, qhnX11_343⟩ := q; exact ⟨q0, q1, qP, va_K.moved (u := U) (U := U.calling g mk a) (Vm.Alike.refl U.vm) qK, qD, va_Nw.same (u := U) (U := U.calling g mk a) rfl rfl qhnX11_343⟩, va_recv hKc hPc (ci := 11) (q0 := 0) rfl rfl, fun U hU9 hW => ⟨rfl, by rw [hU9], by rw [hU9]; exact hPc, va_K.moved hW.alike hKc, hDc.weaken (fun _ _ _ _ => trivial), va_Nw.warmM hW hnX11_343⟩⟩ rfl rfl hl.1 rfl (lv_room (Nat.le_of_ble_eq_true rfl)) dL_law_1383 ⟨by decide +kernel, by decide +kernel⟩) hS (fun q _ h => hFc q h) hFc (fun r1383 u t H1 locs ht hvm hw hB hz1 hk1 hS => ?_)
  obtain ⟨hP1, hK1, hD1⟩ := hB
  rw [ht] at hP1
  have hK1 := va_K.moved hvm.symm hK1
  obtain ⟨hP, hD⟩ := va_join (wr := [(h2, .inr (12, fM (vM av))), ((av 85), .inl ((kv 85), 16, .inl (fun _ => 0))), (o, .inl (kO, 1, .inr (.inl (fun _ => 0))))]) (w1 := []) hP hD [0] [1, 2, 3] rfl rfl (by decide) (by decide) hk1 hFc hP1 hD1
  generalize H1 = H at hP hS ⊢
  have hP : va_P (dC, dI) vwCl [(h2, .inr (12, fM (vM av))), ((av 85), .inl ((kv 85), 16, .inl (fun _ => 0))), (o, .inl (kO, 1, .inr (.inl (fun _ => 0))))] H := hP
  have hD : va_D A [(h2, .inr (12, fM (vM av))), ((av 85), .inl ((kv 85), 16, .inl (fun _ => 0))), (o, .inl (kO, 1, .inr (.inl (fun _ => 0))))] := hD
  refine W.widen (k := 140) (n := 182842) (by decide +kernel) (by decide +kernel) ?_
  rcases hw with ⟨rfl, f1383_0⟩ | ⟨rfl, f1383_0⟩
  · refine lv_aload_n hx hb dL_law_1386 rfl (lv_at hl 2 rfl) ?_
    refine lv_aload_n hx hb dL_law_1387 rfl (lv_at hl 4 rfl) ?_
    refine lv_iload hx hb dL_law_1388 (lv_at hl 0 rfl) ?_
    refine lv_iconst (v := 1) hx hb dL_law_1390 (by decide) ?_
    refine lv_iadd hx hb dL_law_1391 ?_
    refine lv_topi (fun y5 hy5 => ?_)
    obtain rfl : 1 = y5 := (hy5.trans (by decide)).symm
    refine va_sld hx hb hX hbl hbA hS (show ¬ ((1 : Int32) < 0 ∨ 6 ≤ (1 : Int32).toNatClampNeg) by decide) dL_law_1392 ?_
    refine lv_topi (fun y6 hy6 => ?_)
    obtain rfl : (xs 1) = y6 := (hy6.trans (rfl)).symm
    refine lv_aload_n hx hb dL_law_1393 rfl (lv_at hl 4 rfl) ?_
    refine lv_iload hx hb dL_law_1394 (lv_at hl 0 rfl) ?_
    refine lv_iconst (v := 2) hx hb dL_law_1396 (by decide) ?_
    refine lv_iadd hx hb dL_law_1397 ?_
    refine lv_topi (fun y7 hy7 => ?_)
    obtain rfl : 2 = y7 := (hy7.trans (by decide)).symm
    refine va_sld hx hb hX hbl hbA hS (show ¬ ((2 : Int32) < 0 ∨ 6 ≤ (2 : Int32).toNatClampNeg) by decide) dL_law_1398 ?_
    refine lv_topi (fun y8 hy8 => ?_)
    obtain rfl : (xs 2) = y8 := (hy8.trans (rfl)).symm
    have hPc := hP.sub (ws' := [(h2, .inr (12, fM (vM av))), ((av 85), .inl ((kv 85), 16, .inl (fun _ => 0)))]) [0, 1] rfl
    have hDc := hD.sub (ws' := [(h2, .inr (12, fM (vM av))), ((av 85), .inl ((kv 85), 16, .inl (fun _ => 0)))]) [0, 1] (by decide) rfl
    have hKc := hK.sub (tys' := [((kv 85), .int)]) [0] rfl
    have hFc := va_free (wc := [(h2, .inr (12, fM (vM av))), ((av 85), .inl ((kv 85), 16, .inl (fun _ => 0)))]) hD hS hA [0, 1] rfl
    refine va_calli (va_runV (As := [.int (xs 1), .int (xs 2)]) (rest := [.int 0]) ⟨hx, hb, hml, hown, hts⟩ (p_X12_pair l dC dI h2 (vM av) (av 85) (rfl) (kv 85) (fun _ => 0) (xs 1) (xs 2) H.size) (cwV 2 hts glaw22_1 rfl rfl rfl (by decide +kernel) ⟨by decide +kernel, by decide +kernel⟩) ⟨fun a U g mk q => by obtain ⟨q0, q1, qP, qK, qD⟩ := q; exact ⟨q0, q1, qP, va_K.moved (u := U) (U := U.calling g mk a) (Vm.Alike.refl U.vm) qK, qD⟩, va_recv hKc hPc (ci := 12) (q0 := 0) rfl rfl, fun U hU9 hW => ⟨rfl, by rw [hU9], by rw [hU9]; exact hPc, va_K.moved hW.alike hKc, hDc.weaken (fun _ _ _ _ => trivial)⟩⟩ rfl rfl hl.1 rfl (lv_room (Nat.le_of_ble_eq_true rfl)) dL_law_1399 ⟨by decide +kernel, by decide +kernel⟩) hS (fun q _ h => hFc q h) hFc (fun r1399 u t H1 locs ht hvm hw hB hz1 hk1 hS => ?_)
    obtain ⟨w1399, hwit1399⟩ : ∃ w9, w9 = u := ⟨u, rfl⟩
    subst hwit1399
    obtain ⟨hP1, hK1, hD1⟩ := hB
    rw [ht] at hP1
    have hK1 := va_K.moved hvm.symm hK1
    obtain ⟨hP, hD⟩ := va_join (wr := [(o, .inl (kO, 1, .inr (.inl (fun _ => 0))))]) (w1 := [(h2, .inr (12, fM w1399))]) hP hD [0, 1] [2] rfl rfl (by decide) (by decide) hk1 hFc hP1 hD1
    generalize H1 = H at hP hS ⊢
    have hP : va_P (dC, dI) vwCl [(o, .inl (kO, 1, .inr (.inl (fun _ => 0)))), (h2, .inr (12, fM w1399))] H := hP
    have hD : va_D A [(o, .inl (kO, 1, .inr (.inl (fun _ => 0)))), (h2, .inr (12, fM w1399))] := hD
    rcases hw with ⟨rfl, f1399_0, f1399_1⟩ | ⟨rfl, f1399_0, f1399_1⟩
    · refine lv_icmp_eq (tgt := 2131) hx hb dL_law_1402 (by decide) (fun _ => ?_) (fun c9 => absurd (by decide) c9)
      refine lv_iinc (v := 6) (lv' := [(4, .int 6), (3, .ref o), (2, .ref h2), (1, .ref h1), (0, .ref b)]) hx hb dL_law_2131 hl (k := 0) rfl (by decide) (by decide) rfl (fun ls hl => ?_)
      refine lv_goto (tgt := 23) hx hb dL_law_2134 (by decide) ?_
      refine lv_iload hx hb dL_law_23 (lv_at hl 0 rfl) ?_
      refine lv_aload_n hx hb dL_law_25 rfl (lv_at hl 4 rfl) ?_
      refine va_slen hx hb hX hbl hbA hS dL_law_26 ?_
      refine lv_topi (fun y9 hy9 => ?_)
      obtain rfl : 6 = y9 := (hy9.trans (rfl)).symm
      refine lv_bipush (v := 6) hx hb dL_law_27 (by decide) ?_
      refine lv_isub hx hb dL_law_29 ?_
      refine lv_topi (fun y10 hy10 => ?_)
      obtain rfl : 0 = y10 := (hy10.trans (by decide)).symm
      refine lv_icmp_gt (tgt := 2137) hx hb dL_law_30 (by decide) (fun _ => ?_) (fun c9 => absurd (by decide) c9)
      refine lv_iconst (v := 1) hx hb dL_law_2137 (by decide) ?_
      refine W.widen (k := 600002) (n := 7302232) (by decide +kernel) (by decide +kernel) ?_
      refine va_forget (fun q hq => hA2 _ (hS.2.2 q hq)) ?_
      exact lw_ret hx hb hr hlocks dL_law_2138
    · refine lv_icmp_eq (tgt := 2131) hx hb dL_law_1402 (by decide) (fun c9 => absurd c9 (by decide)) (fun _ => ?_)
      refine lv_iconst (v := 0) hx hb dL_law_1405 (by decide) ?_
      refine W.widen (k := 600002) (n := 7302232) (by decide +kernel) (by decide +kernel) ?_
      exact False.elim (by omega)
  · refine lv_aload_n hx hb dL_law_1386 rfl (lv_at hl 2 rfl) ?_
    refine lv_aload_n hx hb dL_law_1387 rfl (lv_at hl 4 rfl) ?_
    refine lv_iload hx hb dL_law_1388 (lv_at hl 0 rfl) ?_
    refine lv_iconst (v := 1) hx hb dL_law_1390 (by decide) ?_
    refine lv_iadd hx hb dL_law_1391 ?_
    refine lv_topi (fun y11 hy11 => ?_)
    obtain rfl : 1 = y11 := (hy11.trans (by decide)).symm
    refine va_sld hx hb hX hbl hbA hS (show ¬ ((1 : Int32) < 0 ∨ 6 ≤ (1 : Int32).toNatClampNeg) by decide) dL_law_1392 ?_
    refine lv_topi (fun y12 hy12 => ?_)
    obtain rfl : (xs 1) = y12 := (hy12.trans (rfl)).symm
    refine lv_aload_n hx hb dL_law_1393 rfl (lv_at hl 4 rfl) ?_
    refine lv_iload hx hb dL_law_1394 (lv_at hl 0 rfl) ?_
    refine lv_iconst (v := 2) hx hb dL_law_1396 (by decide) ?_
    refine lv_iadd hx hb dL_law_1397 ?_
    refine lv_topi (fun y13 hy13 => ?_)
    obtain rfl : 2 = y13 := (hy13.trans (by decide)).symm
    refine va_sld hx hb hX hbl hbA hS (show ¬ ((2 : Int32) < 0 ∨ 6 ≤ (2 : Int32).toNatClampNeg) by decide) dL_law_1398 ?_
    refine lv_topi (fun y14 hy14 => ?_)
    obtain rfl : (xs 2) = y14 := (hy14.trans (rfl)).symm
    have hPc := hP.sub (ws' := [(h2, .inr (12, fM (vM av))), ((av 85), .inl ((kv 85), 16, .inl (fun _ => 0)))]) [0, 1] rfl
    have hDc := hD.sub (ws' := [(h2, .inr (12, fM (vM av))), ((av 85), .inl ((kv 85), 16, .inl (fun _ => 0)))]) [0, 1] (by decide) rfl
    have hKc := hK.sub (tys' := [((kv 85), .int)]) [0] rfl
    have hFc := va_free (wc := [(h2, .inr (12, fM (vM av))), ((av 85), .inl ((kv 85), 16, .inl (fun _ => 0)))]) hD hS hA [0, 1] rfl
    refine va_calli (va_runV (As := [.int (xs 1), .int (xs 2)]) (rest := [.int 1]) ⟨hx, hb, hml, hown, hts⟩ (p_X12_pair l dC dI h2 (vM av) (av 85) (rfl) (kv 85) (fun _ => 0) (xs 1) (xs 2) H.size) (cwV 2 hts glaw22_1 rfl rfl rfl (by decide +kernel) ⟨by decide +kernel, by decide +kernel⟩) ⟨fun a U g mk q => by obtain ⟨q0, q1, qP, qK, qD⟩ := q; exact ⟨q0, q1, qP, va_K.moved (u := U) (U := U.calling g mk a) (Vm.Alike.refl U.vm) qK, qD⟩, va_recv hKc hPc (ci := 12) (q0 := 0) rfl rfl, fun U hU9 hW => ⟨rfl, by rw [hU9], by rw [hU9]; exact hPc, va_K.moved hW.alike hKc, hDc.weaken (fun _ _ _ _ => trivial)⟩⟩ rfl rfl hl.1 rfl (lv_room (Nat.le_of_ble_eq_true rfl)) dL_law_1399 ⟨by decide +kernel, by decide +kernel⟩) hS (fun q _ h => hFc q h) hFc (fun r1399_1 u t H1 locs ht hvm hw hB hz1 hk1 hS => ?_)
    obtain ⟨w1399_1, hwit1399_1⟩ : ∃ w9, w9 = u := ⟨u, rfl⟩
    subst hwit1399_1
    obtain ⟨hP1, hK1, hD1⟩ := hB
    rw [ht] at hP1
    have hK1 := va_K.moved hvm.symm hK1
    obtain ⟨hP, hD⟩ := va_join (wr := [(o, .inl (kO, 1, .inr (.inl (fun _ => 0))))]) (w1 := [(h2, .inr (12, fM w1399_1))]) hP hD [0, 1] [2] rfl rfl (by decide) (by decide) hk1 hFc hP1 hD1
    generalize H1 = H at hP hS ⊢
    have hP : va_P (dC, dI) vwCl [(o, .inl (kO, 1, .inr (.inl (fun _ => 0)))), (h2, .inr (12, fM w1399_1))] H := hP
    have hD : va_D A [(o, .inl (kO, 1, .inr (.inl (fun _ => 0)))), (h2, .inr (12, fM w1399_1))] := hD
    rcases hw with ⟨rfl, f1399_1_0, f1399_1_1⟩ | ⟨rfl, f1399_1_0, f1399_1_1⟩
    · refine lv_icmp_eq (tgt := 2131) hx hb dL_law_1402 (by decide) (fun c9 => absurd c9 (by decide)) (fun _ => ?_)
      refine lv_iconst (v := 0) hx hb dL_law_1405 (by decide) ?_
      refine W.widen (k := 600002) (n := 7302232) (by decide +kernel) (by decide +kernel) ?_
      exact False.elim (by omega)
    · refine lv_icmp_eq (tgt := 2131) hx hb dL_law_1402 (by decide) (fun _ => ?_) (fun c9 => absurd (by decide) c9)
      refine lv_iinc (v := 6) (lv' := [(4, .int 6), (3, .ref o), (2, .ref h2), (1, .ref h1), (0, .ref b)]) hx hb dL_law_2131 hl (k := 0) rfl (by decide) (by decide) rfl (fun ls hl => ?_)
      refine lv_goto (tgt := 23) hx hb dL_law_2134 (by decide) ?_
      refine lv_iload hx hb dL_law_23 (lv_at hl 0 rfl) ?_
      refine lv_aload_n hx hb dL_law_25 rfl (lv_at hl 4 rfl) ?_
      refine va_slen hx hb hX hbl hbA hS dL_law_26 ?_
      refine lv_topi (fun y15 hy15 => ?_)
      obtain rfl : 6 = y15 := (hy15.trans (rfl)).symm
      refine lv_bipush (v := 6) hx hb dL_law_27 (by decide) ?_
      refine lv_isub hx hb dL_law_29 ?_
      refine lv_topi (fun y16 hy16 => ?_)
      obtain rfl : 0 = y16 := (hy16.trans (by decide)).symm
      refine lv_icmp_gt (tgt := 2137) hx hb dL_law_30 (by decide) (fun _ => ?_) (fun c9 => absurd (by decide) c9)
      refine lv_iconst (v := 1) hx hb dL_law_2137 (by decide) ?_
      refine W.widen (k := 600002) (n := 7302232) (by decide +kernel) (by decide +kernel) ?_
      refine va_forget (fun q hq => hA2 _ (hS.2.2 q hq)) ?_
      exact lw_ret hx hb hr hlocks dL_law_2138
theorem dL_law_1407 : decode cL_law 1407 = .ok (.aload_n 1, 1) := by decide +kernel
theorem dL_law_1408 : decode cL_law 1408 = .ok (.aload_n 0, 1) := by decide +kernel
theorem dL_law_1409 : decode cL_law 1409 = .ok (.iload 4, 2) := by decide +kernel
theorem dL_law_1411 : decode cL_law 1411 = .ok (.iconst 1, 1) := by decide +kernel
theorem dL_law_1412 : decode cL_law 1412 = .ok (.iadd, 1) := by decide +kernel
theorem dL_law_1413 : decode cL_law 1413 = .ok (.iaload, 1) := by decide +kernel
theorem dL_law_1414 : decode cL_law 1414 = .ok (.invokevirtual 183, 3) := by decide +kernel
theorem dL_law_1417 : decode cL_law 1417 = .ok (.aload_n 2, 1) := by decide +kernel
theorem dL_law_1418 : decode cL_law 1418 = .ok (.aload_n 0, 1) := by decide +kernel
theorem dL_law_1419 : decode cL_law 1419 = .ok (.iload 4, 2) := by decide +kernel
theorem dL_law_1421 : decode cL_law 1421 = .ok (.iconst 1, 1) := by decide +kernel
theorem dL_law_1422 : decode cL_law 1422 = .ok (.iadd, 1) := by decide +kernel
theorem dL_law_1423 : decode cL_law 1423 = .ok (.iaload, 1) := by decide +kernel
theorem dL_law_1424 : decode cL_law 1424 = .ok (.invokevirtual 186, 3) := by decide +kernel
theorem dL_law_1427 : decode cL_law 1427 = .ok (.if_icmp .eq 704, 3) := by decide +kernel
theorem glaw23_0 : GoodIn lw_tbl (wsV RL 183 RX11 yX11_left wsPX11_left) := goodIn_sub ((List.forall_mem_append.mpr ⟨(mem_p ([.methodLink RL 183 yX11_left, .instanceMethod yX11_left, .selects RX11 yX11_left yX11_left, .initialized RX11] : List Cond) [(2, 125), (2, 126), (2, 127), (1, 1)] (by decide +kernel)), ml_wsPX11_left⟩ : ∀ w ∈ wsV RL 183 RX11 yX11_left wsPX11_left, w ∈ lw_tbl)) (by decide +kernel)
theorem glaw23_1 : GoodIn lw_tbl (wsV RL 186 RX12 yX12_left wsPX12_left) := goodIn_sub ((List.forall_mem_append.mpr ⟨(mem_p ([.methodLink RL 186 yX12_left, .instanceMethod yX12_left, .selects RX12 yX12_left yX12_left, .initialized RX12] : List Cond) [(15, 122), (15, 123), (15, 124), (1, 4)] (by decide +kernel)), ml_wsPX12_left⟩ : ∀ w ∈ wsV RL 186 RX12 yX12_left wsPX12_left, w ∈ lw_tbl)) (by decide +kernel)
set_option maxHeartbeats 4000000 in
set_option maxRecDepth 100000 in
/-- the law's case 23: left -/
theorem lc_23 {p : Program} {e : Env} {s : State} {m : MethodId} {below : List Frame} {meth : Method} {c : Code} (l : Launch) (hst : l.stackTraces = false) {b : Nat} {xs : Nat → Int32} (C0 : lw_At p s m meth c b 6 xs) {A : Nat → Prop} (hA : ∀ q : Nat, s.heap.size ≤ q → A q) (hA2 : ∀ q : Nat, A q → s.heap.size ≤ q) (X0 : lx_ok A s) (dC : Nat → ClassId) (dI : Nat → Nat → Nat) {h1 h2 o : Nat} {a : Nat → Nat} {k : Nat → ClassId} {av : Nat → Nat} {kv : Nat → ClassId} {kO : ClassId} {H : Heap} {locs : List Loc} {ls : Array Slot} (hK : va_K (dC, dI) vwCl [(kO, .long)] s) (hP : va_P (dC, dI) vwCl [(h1, .inr (11, [.ref (a 0), .ref (a 1), .ref (a 3), .ref (a 14), .int 0, .null, .null, .null, .null, .null, .null])), (h2, .inr (12, fM (vM av))), (o, .inl (kO, 1, .inr (.inl (fun _ => 0))))] H) (hD : va_D A [(h1, .inr (11, [.ref (a 0), .ref (a 1), .ref (a 3), .ref (a 14), .int 0, .null, .null, .null, .null, .null, .null])), (h2, .inr (12, fM (vM av))), (o, .inl (kO, 1, .inr (.inl (fun _ => 0))))]) (hS : va_S A s.heap H locs) (hl : lv_has ls 7 [(4, .int 0), (3, .ref o), (2, .ref h2), (1, .ref h1), (0, .ref b)]) : W p l e room_1 s m #[Value.ref b] below meth c H locs 125 181434 (lw_Z below #[Value.ref b] s) (F0 m 1407 ls []) := by
  obtain ⟨hx, hb, hr, hml, hown, hts, hX, hbl, hlocks, hgv⟩ := id C0
  have hb : c.code = cL_law := hb
  have hown : s.vm.findClass RL = some m.cls := hown
  obtain ⟨hU, hN, hnX11_343, hnX11_392, hnX11_421, hncAI, hngX11_161, hngX11_79, hngX11_95⟩ := X0
  have hbA : ¬ A b := fun h => absurd (hA2 b h) (Nat.not_le.mpr hbl)
  refine lv_aload_n hx hb dL_law_1407 rfl (lv_at hl 3 rfl) ?_
  refine lv_aload_n hx hb dL_law_1408 rfl (lv_at hl 4 rfl) ?_
  refine lv_iload hx hb dL_law_1409 (lv_at hl 0 rfl) ?_
  refine lv_iconst (v := 1) hx hb dL_law_1411 (by decide) ?_
  refine lv_iadd hx hb dL_law_1412 ?_
  refine lv_topi (fun y1 hy1 => ?_)
  obtain rfl : 1 = y1 := (hy1.trans (by decide)).symm
  refine va_sld hx hb hX hbl hbA hS (show ¬ ((1 : Int32) < 0 ∨ 6 ≤ (1 : Int32).toNatClampNeg) by decide) dL_law_1413 ?_
  refine lv_topi (fun y2 hy2 => ?_)
  obtain rfl : (xs 1) = y2 := (hy2.trans (rfl)).symm
  have hPc := hP.sub (ws' := [(h1, .inr (11, [.ref (a 0), .ref (a 1), .ref (a 3), .ref (a 14), .int 0, .null, .null, .null, .null, .null, .null]))]) [0] rfl
  have hDc := hD.sub (ws' := [(h1, .inr (11, [.ref (a 0), .ref (a 1), .ref (a 3), .ref (a 14), .int 0, .null, .null, .null, .null, .null, .null]))]) [0] (by decide) rfl
  have hKc := hK.sub (tys' := []) [] rfl
  have hFc := va_free (wc := [(h1, .inr (11, [.ref (a 0), .ref (a 1), .ref (a 3), .ref (a 14), .int 0, .null, .null, .null, .null, .null, .null]))]) hD hS hA [0] rfl
  refine va_calli (va_runV (As := [.int (xs 1)]) (rest := []) ⟨hx, hb, hml, hown, hts⟩ (p_X11_left l dC dI h1 a (xs 1) H.size) (cwV 1 hts glaw23_0 rfl rfl rfl (by decide +kernel) ⟨by decide +kernel, by decide +kernel⟩) ⟨fun a U g mk q => by obtain ⟨q0, q1, qP, qK, qD⟩ := q; exact ⟨q0, q1, qP, va_K.moved (u := U) (U := U.calling g mk a) (Vm.Alike.refl U.vm) qK, qD⟩, va_recv hKc hPc (ci := 11) (q0 := 0) rfl rfl, fun U hU9 hW => ⟨rfl, by rw [hU9], by rw [hU9]; exact hPc, va_K.moved hW.alike hKc, hDc.weaken (fun _ _ _ _ => trivial)⟩⟩ rfl rfl hl.1 rfl (lv_room (Nat.le_of_ble_eq_true rfl)) dL_law_1414 ⟨by decide +kernel, by decide +kernel⟩) hS (fun q _ h => hFc q h) hFc (fun r1414 u t H1 locs ht hvm hw hB hz1 hk1 hS => ?_)
  obtain ⟨hP1, hK1, hD1⟩ := hB
  rw [ht] at hP1
  have hK1 := va_K.moved hvm.symm hK1
  obtain ⟨hP, hD⟩ := va_join (wr := [(h2, .inr (12, fM (vM av))), (o, .inl (kO, 1, .inr (.inl (fun _ => 0))))]) (w1 := []) hP hD [0] [1, 2] rfl rfl (by decide) (by decide) hk1 hFc hP1 hD1
  generalize H1 = H at hP hS ⊢
  have hP : va_P (dC, dI) vwCl [(h2, .inr (12, fM (vM av))), (o, .inl (kO, 1, .inr (.inl (fun _ => 0))))] H := hP
  have hD : va_D A [(h2, .inr (12, fM (vM av))), (o, .inl (kO, 1, .inr (.inl (fun _ => 0))))] := hD
  obtain rfl := hw
  refine lv_aload_n hx hb dL_law_1417 rfl (lv_at hl 2 rfl) ?_
  refine lv_aload_n hx hb dL_law_1418 rfl (lv_at hl 4 rfl) ?_
  refine lv_iload hx hb dL_law_1419 (lv_at hl 0 rfl) ?_
  refine lv_iconst (v := 1) hx hb dL_law_1421 (by decide) ?_
  refine lv_iadd hx hb dL_law_1422 ?_
  refine lv_topi (fun y3 hy3 => ?_)
  obtain rfl : 1 = y3 := (hy3.trans (by decide)).symm
  refine va_sld hx hb hX hbl hbA hS (show ¬ ((1 : Int32) < 0 ∨ 6 ≤ (1 : Int32).toNatClampNeg) by decide) dL_law_1423 ?_
  refine lv_topi (fun y4 hy4 => ?_)
  obtain rfl : (xs 1) = y4 := (hy4.trans (rfl)).symm
  have hPc := hP.sub (ws' := [(h2, .inr (12, fM (vM av)))]) [0] rfl
  have hDc := hD.sub (ws' := [(h2, .inr (12, fM (vM av)))]) [0] (by decide) rfl
  have hKc := hK.sub (tys' := []) [] rfl
  have hFc := va_free (wc := [(h2, .inr (12, fM (vM av)))]) hD hS hA [0] rfl
  refine va_calli (va_runV (As := [.int (xs 1)]) (rest := [.int (-1)]) ⟨hx, hb, hml, hown, hts⟩ (p_X12_left l dC dI h2 (vM av) (rfl) (xs 1) H.size) (cwV 1 hts glaw23_1 rfl rfl rfl (by decide +kernel) ⟨by decide +kernel, by decide +kernel⟩) ⟨fun a U g mk q => by obtain ⟨q0, q1, qP, qK, qD⟩ := q; exact ⟨q0, q1, qP, va_K.moved (u := U) (U := U.calling g mk a) (Vm.Alike.refl U.vm) qK, qD⟩, va_recv hKc hPc (ci := 12) (q0 := 0) rfl rfl, fun U hU9 hW => ⟨rfl, by rw [hU9], by rw [hU9]; exact hPc, va_K.moved hW.alike hKc, hDc.weaken (fun _ _ _ _ => trivial)⟩⟩ rfl rfl hl.1 rfl (lv_room (Nat.le_of_ble_eq_true rfl)) dL_law_1424 ⟨by decide +kernel, by decide +kernel⟩) hS (fun q _ h => hFc q h) hFc (fun r1424 u t H1 locs ht hvm hw hB hz1 hk1 hS => ?_)
  obtain ⟨w1424, hwit1424⟩ : ∃ w9, w9 = u := ⟨u, rfl⟩
  subst hwit1424
  obtain ⟨hP1, hK1, hD1⟩ := hB
  rw [ht] at hP1
  have hK1 := va_K.moved hvm.symm hK1
  obtain ⟨hP, hD⟩ := va_join (wr := [(o, .inl (kO, 1, .inr (.inl (fun _ => 0))))]) (w1 := [(h2, .inr (12, fM w1424))]) hP hD [0] [1] rfl rfl (by decide) (by decide) hk1 hFc hP1 hD1
  generalize H1 = H at hP hS ⊢
  have hP : va_P (dC, dI) vwCl [(o, .inl (kO, 1, .inr (.inl (fun _ => 0)))), (h2, .inr (12, fM w1424))] H := hP
  have hD : va_D A [(o, .inl (kO, 1, .inr (.inl (fun _ => 0)))), (h2, .inr (12, fM w1424))] := hD
  obtain ⟨rfl, f1424_0⟩ := hw
  refine lv_icmp_eq (tgt := 2131) hx hb dL_law_1427 (by decide) (fun _ => ?_) (fun c9 => absurd (by decide) c9)
  refine lv_iinc (v := 6) (lv' := [(4, .int 6), (3, .ref o), (2, .ref h2), (1, .ref h1), (0, .ref b)]) hx hb dL_law_2131 hl (k := 0) rfl (by decide) (by decide) rfl (fun ls hl => ?_)
  refine lv_goto (tgt := 23) hx hb dL_law_2134 (by decide) ?_
  refine lv_iload hx hb dL_law_23 (lv_at hl 0 rfl) ?_
  refine lv_aload_n hx hb dL_law_25 rfl (lv_at hl 4 rfl) ?_
  refine va_slen hx hb hX hbl hbA hS dL_law_26 ?_
  refine lv_topi (fun y5 hy5 => ?_)
  obtain rfl : 6 = y5 := (hy5.trans (rfl)).symm
  refine lv_bipush (v := 6) hx hb dL_law_27 (by decide) ?_
  refine lv_isub hx hb dL_law_29 ?_
  refine lv_topi (fun y6 hy6 => ?_)
  obtain rfl : 0 = y6 := (hy6.trans (by decide)).symm
  refine lv_icmp_gt (tgt := 2137) hx hb dL_law_30 (by decide) (fun _ => ?_) (fun c9 => absurd (by decide) c9)
  refine lv_iconst (v := 1) hx hb dL_law_2137 (by decide) ?_
  refine W.widen (k := 600002) (n := 7302232) (by decide +kernel) (by decide +kernel) ?_
  refine va_forget (fun q hq => hA2 _ (hS.2.2 q hq)) ?_
  exact lw_ret hx hb hr hlocks dL_law_2138
theorem dL_law_1432 : decode cL_law 1432 = .ok (.aload_n 1, 1) := by decide +kernel
theorem dL_law_1433 : decode cL_law 1433 = .ok (.invokevirtual 187, 3) := by decide +kernel
theorem dL_law_1436 : decode cL_law 1436 = .ok (.aload_n 2, 1) := by decide +kernel
theorem dL_law_1437 : decode cL_law 1437 = .ok (.invokevirtual 190, 3) := by decide +kernel
theorem dL_law_1440 : decode cL_law 1440 = .ok (.if_icmp .eq 691, 3) := by decide +kernel
theorem glaw24_0 : GoodIn lw_tbl (wsV RL 187 RX11 yX11_listing wsPX11_listing) := goodIn_sub ((List.forall_mem_append.mpr ⟨(mem_p ([.methodLink RL 187 yX11_listing, .instanceMethod yX11_listing, .selects RX11 yX11_listing yX11_listing, .initialized RX11] : List Cond) [(2, 206), (2, 207), (2, 208), (1, 1)] (by decide +kernel)), ml_wsPX11_listing⟩ : ∀ w ∈ wsV RL 187 RX11 yX11_listing wsPX11_listing, w ∈ lw_tbl)) (by decide +kernel)
theorem glaw24_1 : GoodIn lw_tbl (wsV RL 190 RX12 yX12_listing wsPX12_listing) := goodIn_sub ((List.forall_mem_append.mpr ⟨(mem_p ([.methodLink RL 190 yX12_listing, .instanceMethod yX12_listing, .selects RX12 yX12_listing yX12_listing, .initialized RX12] : List Cond) [(15, 178), (15, 179), (15, 180), (1, 4)] (by decide +kernel)), ml_wsPX12_listing⟩ : ∀ w ∈ wsV RL 190 RX12 yX12_listing wsPX12_listing, w ∈ lw_tbl)) (by decide +kernel)
set_option maxHeartbeats 4000000 in
set_option maxRecDepth 100000 in
/-- the law's case 24: listing -/
theorem lc_24 {p : Program} {e : Env} {s : State} {m : MethodId} {below : List Frame} {meth : Method} {c : Code} (l : Launch) (hst : l.stackTraces = false) {b : Nat} {xs : Nat → Int32} (C0 : lw_At p s m meth c b 6 xs) {A : Nat → Prop} (hA : ∀ q : Nat, s.heap.size ≤ q → A q) (hA2 : ∀ q : Nat, A q → s.heap.size ≤ q) (X0 : lx_ok A s) (dC : Nat → ClassId) (dI : Nat → Nat → Nat) {h1 h2 o : Nat} {a : Nat → Nat} {k : Nat → ClassId} {av : Nat → Nat} {kv : Nat → ClassId} {kO : ClassId} {H : Heap} {locs : List Loc} {ls : Array Slot} (hK : va_K (dC, dI) vwCl [(kO, .long)] s) (hP : va_P (dC, dI) vwCl [(h1, .inr (11, [.ref (a 0), .ref (a 1), .ref (a 3), .ref (a 14), .int 0, .null, .null, .null, .null, .null, .null])), (h2, .inr (12, fM (vM av))), (o, .inl (kO, 1, .inr (.inl (fun _ => 0))))] H) (hD : va_D A [(h1, .inr (11, [.ref (a 0), .ref (a 1), .ref (a 3), .ref (a 14), .int 0, .null, .null, .null, .null, .null, .null])), (h2, .inr (12, fM (vM av))), (o, .inl (kO, 1, .inr (.inl (fun _ => 0))))]) (hS : va_S A s.heap H locs) (hl : lv_has ls 7 [(4, .int 0), (3, .ref o), (2, .ref h2), (1, .ref h1), (0, .ref b)]) : W p l e room_1 s m #[Value.ref b] below meth c H locs 125 181434 (lw_Z below #[Value.ref b] s) (F0 m 1432 ls []) := by
  obtain ⟨hx, hb, hr, hml, hown, hts, hX, hbl, hlocks, hgv⟩ := id C0
  have hb : c.code = cL_law := hb
  have hown : s.vm.findClass RL = some m.cls := hown
  obtain ⟨hU, hN, hnX11_343, hnX11_392, hnX11_421, hncAI, hngX11_161, hngX11_79, hngX11_95⟩ := X0
  have hbA : ¬ A b := fun h => absurd (hA2 b h) (Nat.not_le.mpr hbl)
  refine lv_aload_n hx hb dL_law_1432 rfl (lv_at hl 3 rfl) ?_
  have hPc := hP.sub (ws' := [(h1, .inr (11, [.ref (a 0), .ref (a 1), .ref (a 3), .ref (a 14), .int 0, .null, .null, .null, .null, .null, .null]))]) [0] rfl
  have hDc := hD.sub (ws' := [(h1, .inr (11, [.ref (a 0), .ref (a 1), .ref (a 3), .ref (a 14), .int 0, .null, .null, .null, .null, .null, .null]))]) [0] (by decide) rfl
  have hKc := hK.sub (tys' := []) [] rfl
  have hFc := va_free (wc := [(h1, .inr (11, [.ref (a 0), .ref (a 1), .ref (a 3), .ref (a 14), .int 0, .null, .null, .null, .null, .null, .null]))]) hD hS hA [0] rfl
  refine va_calli (va_runV (As := []) (rest := []) ⟨hx, hb, hml, hown, hts⟩ (p_X11_listing l dC dI h1 a H.size) (cwV 0 hts glaw24_0 rfl rfl rfl (by decide +kernel) ⟨by decide +kernel, by decide +kernel⟩) ⟨fun a U g mk q => by obtain ⟨q0, q1, qP, qK, qD, qhnX11_343⟩ := q; exact ⟨q0, q1, qP, va_K.moved (u := U) (U := U.calling g mk a) (Vm.Alike.refl U.vm) qK, qD, va_Nw.same (u := U) (U := U.calling g mk a) rfl rfl qhnX11_343⟩, va_recv hKc hPc (ci := 11) (q0 := 0) rfl rfl, fun U hU9 hW => ⟨rfl, by rw [hU9], by rw [hU9]; exact hPc, va_K.moved hW.alike hKc, hDc.weaken (fun _ _ _ _ => trivial), va_Nw.warmM hW hnX11_343⟩⟩ rfl rfl hl.1 rfl (lv_room (Nat.le_of_ble_eq_true rfl)) dL_law_1433 ⟨by decide +kernel, by decide +kernel⟩) hS (fun q _ h => hFc q h) hFc (fun r1433 u t H1 locs ht hvm hw hB hz1 hk1 hS => ?_)
  obtain ⟨hP1, hK1, hD1⟩ := hB
  rw [ht] at hP1
  have hK1 := va_K.moved hvm.symm hK1
  obtain ⟨hP, hD⟩ := va_join (wr := [(h2, .inr (12, fM (vM av))), (o, .inl (kO, 1, .inr (.inl (fun _ => 0))))]) (w1 := []) hP hD [0] [1, 2] rfl rfl (by decide) (by decide) hk1 hFc hP1 hD1
  generalize H1 = H at hP hS ⊢
  have hP : va_P (dC, dI) vwCl [(h2, .inr (12, fM (vM av))), (o, .inl (kO, 1, .inr (.inl (fun _ => 0))))] H := hP
  have hD : va_D A [(h2, .inr (12, fM (vM av))), (o, .inl (kO, 1, .inr (.inl (fun _ => 0))))] := hD
  refine W.widen (k := 141) (n := 182850) (by decide +kernel) (by decide +kernel) ?_
  obtain rfl := hw
  refine lv_aload_n hx hb dL_law_1436 rfl (lv_at hl 2 rfl) ?_
  have hPc := hP.sub (ws' := [(h2, .inr (12, fM (vM av)))]) [0] rfl
  have hDc := hD.sub (ws' := [(h2, .inr (12, fM (vM av)))]) [0] (by decide) rfl
  have hKc := hK.sub (tys' := []) [] rfl
  have hFc := va_free (wc := [(h2, .inr (12, fM (vM av)))]) hD hS hA [0] rfl
  refine va_calli (va_runV (As := []) (rest := [.int 1]) ⟨hx, hb, hml, hown, hts⟩ (p_X12_listing l dC dI h2 (vM av) (rfl) (rfl) (rfl) H.size) (cwV 0 hts glaw24_1 rfl rfl rfl (by decide +kernel) ⟨by decide +kernel, by decide +kernel⟩) ⟨fun a U g mk q => by obtain ⟨q0, q1, qP, qK, qD⟩ := q; exact ⟨q0, q1, qP, va_K.moved (u := U) (U := U.calling g mk a) (Vm.Alike.refl U.vm) qK, qD⟩, va_recv hKc hPc (ci := 12) (q0 := 0) rfl rfl, fun U hU9 hW => ⟨rfl, by rw [hU9], by rw [hU9]; exact hPc, va_K.moved hW.alike hKc, hDc.weaken (fun _ _ _ _ => trivial)⟩⟩ rfl rfl hl.1 rfl (lv_room (Nat.le_of_ble_eq_true rfl)) dL_law_1437 ⟨by decide +kernel, by decide +kernel⟩) hS (fun q _ h => hFc q h) hFc (fun r1437 u t H1 locs ht hvm hw hB hz1 hk1 hS => ?_)
  obtain ⟨w1437, hwit1437⟩ : ∃ w9, w9 = u := ⟨u, rfl⟩
  subst hwit1437
  obtain ⟨hP1, hK1, hD1⟩ := hB
  rw [ht] at hP1
  have hK1 := va_K.moved hvm.symm hK1
  obtain ⟨hP, hD⟩ := va_join (wr := [(o, .inl (kO, 1, .inr (.inl (fun _ => 0))))]) (w1 := [(h2, .inr (12, fM w1437))]) hP hD [0] [1] rfl rfl (by decide) (by decide) hk1 hFc hP1 hD1
  generalize H1 = H at hP hS ⊢
  have hP : va_P (dC, dI) vwCl [(o, .inl (kO, 1, .inr (.inl (fun _ => 0)))), (h2, .inr (12, fM w1437))] H := hP
  have hD : va_D A [(o, .inl (kO, 1, .inr (.inl (fun _ => 0)))), (h2, .inr (12, fM w1437))] := hD
  obtain ⟨rfl, f1437_0⟩ := hw
  refine lv_icmp_eq (tgt := 2131) hx hb dL_law_1440 (by decide) (fun _ => ?_) (fun c9 => absurd (by decide) c9)
  refine lv_iinc (v := 6) (lv' := [(4, .int 6), (3, .ref o), (2, .ref h2), (1, .ref h1), (0, .ref b)]) hx hb dL_law_2131 hl (k := 0) rfl (by decide) (by decide) rfl (fun ls hl => ?_)
  refine lv_goto (tgt := 23) hx hb dL_law_2134 (by decide) ?_
  refine lv_iload hx hb dL_law_23 (lv_at hl 0 rfl) ?_
  refine lv_aload_n hx hb dL_law_25 rfl (lv_at hl 4 rfl) ?_
  refine va_slen hx hb hX hbl hbA hS dL_law_26 ?_
  refine lv_topi (fun y1 hy1 => ?_)
  obtain rfl : 6 = y1 := (hy1.trans (rfl)).symm
  refine lv_bipush (v := 6) hx hb dL_law_27 (by decide) ?_
  refine lv_isub hx hb dL_law_29 ?_
  refine lv_topi (fun y2 hy2 => ?_)
  obtain rfl : 0 = y2 := (hy2.trans (by decide)).symm
  refine lv_icmp_gt (tgt := 2137) hx hb dL_law_30 (by decide) (fun _ => ?_) (fun c9 => absurd (by decide) c9)
  refine lv_iconst (v := 1) hx hb dL_law_2137 (by decide) ?_
  refine W.widen (k := 600002) (n := 7302232) (by decide +kernel) (by decide +kernel) ?_
  refine va_forget (fun q hq => hA2 _ (hS.2.2 q hq)) ?_
  exact lw_ret hx hb hr hlocks dL_law_2138
theorem dL_law_1445 : decode cL_law 1445 = .ok (.aload_n 1, 1) := by decide +kernel
theorem dL_law_1446 : decode cL_law 1446 = .ok (.aload_n 0, 1) := by decide +kernel
theorem dL_law_1447 : decode cL_law 1447 = .ok (.iload 4, 2) := by decide +kernel
theorem dL_law_1449 : decode cL_law 1449 = .ok (.iconst 1, 1) := by decide +kernel
theorem dL_law_1450 : decode cL_law 1450 = .ok (.iadd, 1) := by decide +kernel
theorem dL_law_1451 : decode cL_law 1451 = .ok (.iaload, 1) := by decide +kernel
theorem dL_law_1452 : decode cL_law 1452 = .ok (.aload_n 0, 1) := by decide +kernel
theorem dL_law_1453 : decode cL_law 1453 = .ok (.iload 4, 2) := by decide +kernel
theorem dL_law_1455 : decode cL_law 1455 = .ok (.iconst 2, 1) := by decide +kernel
theorem dL_law_1456 : decode cL_law 1456 = .ok (.iadd, 1) := by decide +kernel
theorem dL_law_1457 : decode cL_law 1457 = .ok (.iaload, 1) := by decide +kernel
theorem dL_law_1458 : decode cL_law 1458 = .ok (.invokevirtual 191, 3) := by decide +kernel
theorem dL_law_1461 : decode cL_law 1461 = .ok (.aload_n 2, 1) := by decide +kernel
theorem dL_law_1462 : decode cL_law 1462 = .ok (.aload_n 0, 1) := by decide +kernel
theorem dL_law_1463 : decode cL_law 1463 = .ok (.iload 4, 2) := by decide +kernel
theorem dL_law_1465 : decode cL_law 1465 = .ok (.iconst 1, 1) := by decide +kernel
theorem dL_law_1466 : decode cL_law 1466 = .ok (.iadd, 1) := by decide +kernel
theorem dL_law_1467 : decode cL_law 1467 = .ok (.iaload, 1) := by decide +kernel
theorem dL_law_1468 : decode cL_law 1468 = .ok (.aload_n 0, 1) := by decide +kernel
theorem dL_law_1469 : decode cL_law 1469 = .ok (.iload 4, 2) := by decide +kernel
theorem dL_law_1471 : decode cL_law 1471 = .ok (.iconst 2, 1) := by decide +kernel
theorem dL_law_1472 : decode cL_law 1472 = .ok (.iadd, 1) := by decide +kernel
theorem dL_law_1473 : decode cL_law 1473 = .ok (.iaload, 1) := by decide +kernel
theorem dL_law_1474 : decode cL_law 1474 = .ok (.invokevirtual 194, 3) := by decide +kernel
theorem dL_law_1477 : decode cL_law 1477 = .ok (.if_icmp .eq 654, 3) := by decide +kernel
theorem glaw25_0 : GoodIn lw_tbl (wsV RL 191 RX11 yX11_listed wsPX11_listed) := goodIn_sub ((List.forall_mem_append.mpr ⟨(mem_p ([.methodLink RL 191 yX11_listed, .instanceMethod yX11_listed, .selects RX11 yX11_listed yX11_listed, .initialized RX11] : List Cond) [(3, 7), (3, 8), (3, 9), (1, 1)] (by decide +kernel)), ml_wsPX11_listed⟩ : ∀ w ∈ wsV RL 191 RX11 yX11_listed wsPX11_listed, w ∈ lw_tbl)) (by decide +kernel)
theorem glaw25_1 : GoodIn lw_tbl (wsV RL 194 RX12 yX12_listed wsPX12_listed) := goodIn_sub ((List.forall_mem_append.mpr ⟨(mem_p ([.methodLink RL 194 yX12_listed, .instanceMethod yX12_listed, .selects RX12 yX12_listed yX12_listed, .initialized RX12] : List Cond) [(15, 198), (15, 199), (15, 200), (1, 4)] (by decide +kernel)), ml_wsPX12_listed⟩ : ∀ w ∈ wsV RL 194 RX12 yX12_listed wsPX12_listed, w ∈ lw_tbl)) (by decide +kernel)
set_option maxHeartbeats 4000000 in
set_option maxRecDepth 100000 in
/-- the law's case 25: listed -/
theorem lc_25 {p : Program} {e : Env} {s : State} {m : MethodId} {below : List Frame} {meth : Method} {c : Code} (l : Launch) (hst : l.stackTraces = false) {b : Nat} {xs : Nat → Int32} (C0 : lw_At p s m meth c b 6 xs) {A : Nat → Prop} (hA : ∀ q : Nat, s.heap.size ≤ q → A q) (hA2 : ∀ q : Nat, A q → s.heap.size ≤ q) (X0 : lx_ok A s) (dC : Nat → ClassId) (dI : Nat → Nat → Nat) {h1 h2 o : Nat} {a : Nat → Nat} {k : Nat → ClassId} {av : Nat → Nat} {kv : Nat → ClassId} {kO : ClassId} {H : Heap} {locs : List Loc} {ls : Array Slot} (hK : va_K (dC, dI) vwCl [(kO, .long)] s) (hP : va_P (dC, dI) vwCl [(h1, .inr (11, [.ref (a 0), .ref (a 1), .ref (a 3), .ref (a 14), .int 0, .null, .null, .null, .null, .null, .null])), (h2, .inr (12, fM (vM av))), (o, .inl (kO, 1, .inr (.inl (fun _ => 0))))] H) (hD : va_D A [(h1, .inr (11, [.ref (a 0), .ref (a 1), .ref (a 3), .ref (a 14), .int 0, .null, .null, .null, .null, .null, .null])), (h2, .inr (12, fM (vM av))), (o, .inl (kO, 1, .inr (.inl (fun _ => 0))))]) (hS : va_S A s.heap H locs) (hl : lv_has ls 7 [(4, .int 0), (3, .ref o), (2, .ref h2), (1, .ref h1), (0, .ref b)]) : W p l e room_1 s m #[Value.ref b] below meth c H locs 125 181434 (lw_Z below #[Value.ref b] s) (F0 m 1445 ls []) := by
  obtain ⟨hx, hb, hr, hml, hown, hts, hX, hbl, hlocks, hgv⟩ := id C0
  have hb : c.code = cL_law := hb
  have hown : s.vm.findClass RL = some m.cls := hown
  obtain ⟨hU, hN, hnX11_343, hnX11_392, hnX11_421, hncAI, hngX11_161, hngX11_79, hngX11_95⟩ := X0
  have hbA : ¬ A b := fun h => absurd (hA2 b h) (Nat.not_le.mpr hbl)
  refine lv_aload_n hx hb dL_law_1445 rfl (lv_at hl 3 rfl) ?_
  refine lv_aload_n hx hb dL_law_1446 rfl (lv_at hl 4 rfl) ?_
  refine lv_iload hx hb dL_law_1447 (lv_at hl 0 rfl) ?_
  refine lv_iconst (v := 1) hx hb dL_law_1449 (by decide) ?_
  refine lv_iadd hx hb dL_law_1450 ?_
  refine lv_topi (fun y1 hy1 => ?_)
  obtain rfl : 1 = y1 := (hy1.trans (by decide)).symm
  refine va_sld hx hb hX hbl hbA hS (show ¬ ((1 : Int32) < 0 ∨ 6 ≤ (1 : Int32).toNatClampNeg) by decide) dL_law_1451 ?_
  refine lv_topi (fun y2 hy2 => ?_)
  obtain rfl : (xs 1) = y2 := (hy2.trans (rfl)).symm
  refine lv_aload_n hx hb dL_law_1452 rfl (lv_at hl 4 rfl) ?_
  refine lv_iload hx hb dL_law_1453 (lv_at hl 0 rfl) ?_
  refine lv_iconst (v := 2) hx hb dL_law_1455 (by decide) ?_
  refine lv_iadd hx hb dL_law_1456 ?_
  refine lv_topi (fun y3 hy3 => ?_)
  obtain rfl : 2 = y3 := (hy3.trans (by decide)).symm
  refine va_sld hx hb hX hbl hbA hS (show ¬ ((2 : Int32) < 0 ∨ 6 ≤ (2 : Int32).toNatClampNeg) by decide) dL_law_1457 ?_
  refine lv_topi (fun y4 hy4 => ?_)
  obtain rfl : (xs 2) = y4 := (hy4.trans (rfl)).symm
  have hPc := hP.sub (ws' := [(h1, .inr (11, [.ref (a 0), .ref (a 1), .ref (a 3), .ref (a 14), .int 0, .null, .null, .null, .null, .null, .null]))]) [0] rfl
  have hDc := hD.sub (ws' := [(h1, .inr (11, [.ref (a 0), .ref (a 1), .ref (a 3), .ref (a 14), .int 0, .null, .null, .null, .null, .null, .null]))]) [0] (by decide) rfl
  have hKc := hK.sub (tys' := []) [] rfl
  have hFc := va_free (wc := [(h1, .inr (11, [.ref (a 0), .ref (a 1), .ref (a 3), .ref (a 14), .int 0, .null, .null, .null, .null, .null, .null]))]) hD hS hA [0] rfl
  refine va_calli (va_runV (As := [.int (xs 1), .int (xs 2)]) (rest := []) ⟨hx, hb, hml, hown, hts⟩ (p_X11_listed l dC dI h1 a (xs 1) (xs 2) H.size) (cwV 2 hts glaw25_0 rfl rfl rfl (by decide +kernel) ⟨by decide +kernel, by decide +kernel⟩) ⟨fun a U g mk q => by obtain ⟨q0, q1, qP, qK, qD, qhnX11_343⟩ := q; exact ⟨q0, q1, qP, va_K.moved (u := U) (U := U.calling g mk a) (Vm.Alike.refl U.vm) qK, qD, va_Nw.same (u := U) (U := U.calling g mk a) rfl rfl qhnX11_343⟩, va_recv hKc hPc (ci := 11) (q0 := 0) rfl rfl, fun U hU9 hW => ⟨rfl, by rw [hU9], by rw [hU9]; exact hPc, va_K.moved hW.alike hKc, hDc.weaken (fun _ _ _ _ => trivial), va_Nw.warmM hW hnX11_343⟩⟩ rfl rfl hl.1 rfl (lv_room (Nat.le_of_ble_eq_true rfl)) dL_law_1458 ⟨by decide +kernel, by decide +kernel⟩) hS (fun q _ h => hFc q h) hFc (fun r1458 u t H1 locs ht hvm hw hB hz1 hk1 hS => ?_)
  obtain ⟨hP1, hK1, hD1⟩ := hB
  rw [ht] at hP1
  have hK1 := va_K.moved hvm.symm hK1
  obtain ⟨hP, hD⟩ := va_join (wr := [(h2, .inr (12, fM (vM av))), (o, .inl (kO, 1, .inr (.inl (fun _ => 0))))]) (w1 := []) hP hD [0] [1, 2] rfl rfl (by decide) (by decide) hk1 hFc hP1 hD1
  generalize H1 = H at hP hS ⊢
  have hP : va_P (dC, dI) vwCl [(h2, .inr (12, fM (vM av))), (o, .inl (kO, 1, .inr (.inl (fun _ => 0))))] H := hP
  have hD : va_D A [(h2, .inr (12, fM (vM av))), (o, .inl (kO, 1, .inr (.inl (fun _ => 0))))] := hD
  refine W.widen (k := 140) (n := 182842) (by decide +kernel) (by decide +kernel) ?_
  obtain rfl := hw
  refine lv_aload_n hx hb dL_law_1461 rfl (lv_at hl 2 rfl) ?_
  refine lv_aload_n hx hb dL_law_1462 rfl (lv_at hl 4 rfl) ?_
  refine lv_iload hx hb dL_law_1463 (lv_at hl 0 rfl) ?_
  refine lv_iconst (v := 1) hx hb dL_law_1465 (by decide) ?_
  refine lv_iadd hx hb dL_law_1466 ?_
  refine lv_topi (fun y5 hy5 => ?_)
  obtain rfl : 1 = y5 := (hy5.trans (by decide)).symm
  refine va_sld hx hb hX hbl hbA hS (show ¬ ((1 : Int32) < 0 ∨ 6 ≤ (1 : Int32).toNatClampNeg) by decide) dL_law_1467 ?_
  refine lv_topi (fun y6 hy6 => ?_)
  obtain rfl : (xs 1) = y6 := (hy6.trans (rfl)).symm
  refine lv_aload_n hx hb dL_law_1468 rfl (lv_at hl 4 rfl) ?_
  refine lv_iload hx hb dL_law_1469 (lv_at hl 0 rfl) ?_
  refine lv_iconst (v := 2) hx hb dL_law_1471 (by decide) ?_
  refine lv_iadd hx hb dL_law_1472 ?_
  refine lv_topi (fun y7 hy7 => ?_)
  obtain rfl : 2 = y7 := (hy7.trans (by decide)).symm
  refine va_sld hx hb hX hbl hbA hS (show ¬ ((2 : Int32) < 0 ∨ 6 ≤ (2 : Int32).toNatClampNeg) by decide) dL_law_1473 ?_
  refine lv_topi (fun y8 hy8 => ?_)
  obtain rfl : (xs 2) = y8 := (hy8.trans (rfl)).symm
  have hPc := hP.sub (ws' := [(h2, .inr (12, fM (vM av)))]) [0] rfl
  have hDc := hD.sub (ws' := [(h2, .inr (12, fM (vM av)))]) [0] (by decide) rfl
  have hKc := hK.sub (tys' := []) [] rfl
  have hFc := va_free (wc := [(h2, .inr (12, fM (vM av)))]) hD hS hA [0] rfl
  refine va_calli (va_runV (As := [.int (xs 1), .int (xs 2)]) (rest := [.int (-1)]) ⟨hx, hb, hml, hown, hts⟩ (p_X12_listed l dC dI h2 (vM av) (rfl) (xs 1) (xs 2) H.size) (cwV 2 hts glaw25_1 rfl rfl rfl (by decide +kernel) ⟨by decide +kernel, by decide +kernel⟩) ⟨fun a U g mk q => by obtain ⟨q0, q1, qP, qK, qD⟩ := q; exact ⟨q0, q1, qP, va_K.moved (u := U) (U := U.calling g mk a) (Vm.Alike.refl U.vm) qK, qD⟩, va_recv hKc hPc (ci := 12) (q0 := 0) rfl rfl, fun U hU9 hW => ⟨rfl, by rw [hU9], by rw [hU9]; exact hPc, va_K.moved hW.alike hKc, hDc.weaken (fun _ _ _ _ => trivial)⟩⟩ rfl rfl hl.1 rfl (lv_room (Nat.le_of_ble_eq_true rfl)) dL_law_1474 ⟨by decide +kernel, by decide +kernel⟩) hS (fun q _ h => hFc q h) hFc (fun r1474 u t H1 locs ht hvm hw hB hz1 hk1 hS => ?_)
  obtain ⟨w1474, hwit1474⟩ : ∃ w9, w9 = u := ⟨u, rfl⟩
  subst hwit1474
  obtain ⟨hP1, hK1, hD1⟩ := hB
  rw [ht] at hP1
  have hK1 := va_K.moved hvm.symm hK1
  obtain ⟨hP, hD⟩ := va_join (wr := [(o, .inl (kO, 1, .inr (.inl (fun _ => 0))))]) (w1 := [(h2, .inr (12, fM w1474))]) hP hD [0] [1] rfl rfl (by decide) (by decide) hk1 hFc hP1 hD1
  generalize H1 = H at hP hS ⊢
  have hP : va_P (dC, dI) vwCl [(o, .inl (kO, 1, .inr (.inl (fun _ => 0)))), (h2, .inr (12, fM w1474))] H := hP
  have hD : va_D A [(o, .inl (kO, 1, .inr (.inl (fun _ => 0)))), (h2, .inr (12, fM w1474))] := hD
  obtain ⟨rfl, f1474_0⟩ := hw
  refine lv_icmp_eq (tgt := 2131) hx hb dL_law_1477 (by decide) (fun _ => ?_) (fun c9 => absurd (by decide) c9)
  refine lv_iinc (v := 6) (lv' := [(4, .int 6), (3, .ref o), (2, .ref h2), (1, .ref h1), (0, .ref b)]) hx hb dL_law_2131 hl (k := 0) rfl (by decide) (by decide) rfl (fun ls hl => ?_)
  refine lv_goto (tgt := 23) hx hb dL_law_2134 (by decide) ?_
  refine lv_iload hx hb dL_law_23 (lv_at hl 0 rfl) ?_
  refine lv_aload_n hx hb dL_law_25 rfl (lv_at hl 4 rfl) ?_
  refine va_slen hx hb hX hbl hbA hS dL_law_26 ?_
  refine lv_topi (fun y9 hy9 => ?_)
  obtain rfl : 6 = y9 := (hy9.trans (rfl)).symm
  refine lv_bipush (v := 6) hx hb dL_law_27 (by decide) ?_
  refine lv_isub hx hb dL_law_29 ?_
  refine lv_topi (fun y10 hy10 => ?_)
  obtain rfl : 0 = y10 := (hy10.trans (by decide)).symm
  refine lv_icmp_gt (tgt := 2137) hx hb dL_law_30 (by decide) (fun _ => ?_) (fun c9 => absurd (by decide) c9)
  refine lv_iconst (v := 1) hx hb dL_law_2137 (by decide) ?_
  refine W.widen (k := 600002) (n := 7302232) (by decide +kernel) (by decide +kernel) ?_
  refine va_forget (fun q hq => hA2 _ (hS.2.2 q hq)) ?_
  exact lw_ret hx hb hr hlocks dL_law_2138
theorem dL_law_1482 : decode cL_law 1482 = .ok (.aload_n 1, 1) := by decide +kernel
theorem dL_law_1483 : decode cL_law 1483 = .ok (.aload_n 0, 1) := by decide +kernel
theorem dL_law_1484 : decode cL_law 1484 = .ok (.iload 4, 2) := by decide +kernel
theorem dL_law_1486 : decode cL_law 1486 = .ok (.iconst 1, 1) := by decide +kernel
theorem dL_law_1487 : decode cL_law 1487 = .ok (.iadd, 1) := by decide +kernel
theorem dL_law_1488 : decode cL_law 1488 = .ok (.iaload, 1) := by decide +kernel
theorem dL_law_1489 : decode cL_law 1489 = .ok (.aload_n 0, 1) := by decide +kernel
theorem dL_law_1490 : decode cL_law 1490 = .ok (.iload 4, 2) := by decide +kernel
theorem dL_law_1492 : decode cL_law 1492 = .ok (.iconst 2, 1) := by decide +kernel
theorem dL_law_1493 : decode cL_law 1493 = .ok (.iadd, 1) := by decide +kernel
theorem dL_law_1494 : decode cL_law 1494 = .ok (.iaload, 1) := by decide +kernel
theorem dL_law_1495 : decode cL_law 1495 = .ok (.invokevirtual 195, 3) := by decide +kernel
theorem dL_law_1498 : decode cL_law 1498 = .ok (.aload_n 2, 1) := by decide +kernel
theorem dL_law_1499 : decode cL_law 1499 = .ok (.aload_n 0, 1) := by decide +kernel
theorem dL_law_1500 : decode cL_law 1500 = .ok (.iload 4, 2) := by decide +kernel
theorem dL_law_1502 : decode cL_law 1502 = .ok (.iconst 1, 1) := by decide +kernel
theorem dL_law_1503 : decode cL_law 1503 = .ok (.iadd, 1) := by decide +kernel
theorem dL_law_1504 : decode cL_law 1504 = .ok (.iaload, 1) := by decide +kernel
theorem dL_law_1505 : decode cL_law 1505 = .ok (.aload_n 0, 1) := by decide +kernel
theorem dL_law_1506 : decode cL_law 1506 = .ok (.iload 4, 2) := by decide +kernel
theorem dL_law_1508 : decode cL_law 1508 = .ok (.iconst 2, 1) := by decide +kernel
theorem dL_law_1509 : decode cL_law 1509 = .ok (.iadd, 1) := by decide +kernel
theorem dL_law_1510 : decode cL_law 1510 = .ok (.iaload, 1) := by decide +kernel
theorem dL_law_1511 : decode cL_law 1511 = .ok (.invokevirtual 198, 3) := by decide +kernel
theorem dL_law_1514 : decode cL_law 1514 = .ok (.if_icmp .eq 617, 3) := by decide +kernel
theorem glaw26_0 : GoodIn lw_tbl (wsV RL 195 RX11 yX11_reason wsPX11_reason) := goodIn_sub ((List.forall_mem_append.mpr ⟨(mem_p ([.methodLink RL 195 yX11_reason, .instanceMethod yX11_reason, .selects RX11 yX11_reason yX11_reason, .initialized RX11] : List Cond) [(3, 18), (3, 19), (3, 20), (1, 1)] (by decide +kernel)), ml_wsPX11_reason⟩ : ∀ w ∈ wsV RL 195 RX11 yX11_reason wsPX11_reason, w ∈ lw_tbl)) (by decide +kernel)
theorem glaw26_1 : GoodIn lw_tbl (wsV RL 198 RX12 yX12_reason wsPX12_reason) := goodIn_sub ((List.forall_mem_append.mpr ⟨(mem_p ([.methodLink RL 198 yX12_reason, .instanceMethod yX12_reason, .selects RX12 yX12_reason yX12_reason, .initialized RX12] : List Cond) [(15, 174), (15, 175), (15, 176), (1, 4)] (by decide +kernel)), ml_wsPX12_reason⟩ : ∀ w ∈ wsV RL 198 RX12 yX12_reason wsPX12_reason, w ∈ lw_tbl)) (by decide +kernel)
set_option maxHeartbeats 4000000 in
set_option maxRecDepth 100000 in
/-- the law's case 26: reason -/
theorem lc_26 {p : Program} {e : Env} {s : State} {m : MethodId} {below : List Frame} {meth : Method} {c : Code} (l : Launch) (hst : l.stackTraces = false) {b : Nat} {xs : Nat → Int32} (C0 : lw_At p s m meth c b 6 xs) {A : Nat → Prop} (hA : ∀ q : Nat, s.heap.size ≤ q → A q) (hA2 : ∀ q : Nat, A q → s.heap.size ≤ q) (X0 : lx_ok A s) (dC : Nat → ClassId) (dI : Nat → Nat → Nat) {h1 h2 o : Nat} {a : Nat → Nat} {k : Nat → ClassId} {av : Nat → Nat} {kv : Nat → ClassId} {kO : ClassId} {H : Heap} {locs : List Loc} {ls : Array Slot} (hK : va_K (dC, dI) vwCl [(kO, .long)] s) (hP : va_P (dC, dI) vwCl [(h1, .inr (11, [.ref (a 0), .ref (a 1), .ref (a 3), .ref (a 14), .int 0, .null, .null, .null, .null, .null, .null])), (h2, .inr (12, fM (vM av))), (o, .inl (kO, 1, .inr (.inl (fun _ => 0))))] H) (hD : va_D A [(h1, .inr (11, [.ref (a 0), .ref (a 1), .ref (a 3), .ref (a 14), .int 0, .null, .null, .null, .null, .null, .null])), (h2, .inr (12, fM (vM av))), (o, .inl (kO, 1, .inr (.inl (fun _ => 0))))]) (hS : va_S A s.heap H locs) (hl : lv_has ls 7 [(4, .int 0), (3, .ref o), (2, .ref h2), (1, .ref h1), (0, .ref b)]) : W p l e room_1 s m #[Value.ref b] below meth c H locs 125 181434 (lw_Z below #[Value.ref b] s) (F0 m 1482 ls []) := by
  obtain ⟨hx, hb, hr, hml, hown, hts, hX, hbl, hlocks, hgv⟩ := id C0
  have hb : c.code = cL_law := hb
  have hown : s.vm.findClass RL = some m.cls := hown
  obtain ⟨hU, hN, hnX11_343, hnX11_392, hnX11_421, hncAI, hngX11_161, hngX11_79, hngX11_95⟩ := X0
  have hbA : ¬ A b := fun h => absurd (hA2 b h) (Nat.not_le.mpr hbl)
  refine lv_aload_n hx hb dL_law_1482 rfl (lv_at hl 3 rfl) ?_
  refine lv_aload_n hx hb dL_law_1483 rfl (lv_at hl 4 rfl) ?_
  refine lv_iload hx hb dL_law_1484 (lv_at hl 0 rfl) ?_
  refine lv_iconst (v := 1) hx hb dL_law_1486 (by decide) ?_
  refine lv_iadd hx hb dL_law_1487 ?_
  refine lv_topi (fun y1 hy1 => ?_)
  obtain rfl : 1 = y1 := (hy1.trans (by decide)).symm
  refine va_sld hx hb hX hbl hbA hS (show ¬ ((1 : Int32) < 0 ∨ 6 ≤ (1 : Int32).toNatClampNeg) by decide) dL_law_1488 ?_
  refine lv_topi (fun y2 hy2 => ?_)
  obtain rfl : (xs 1) = y2 := (hy2.trans (rfl)).symm
  refine lv_aload_n hx hb dL_law_1489 rfl (lv_at hl 4 rfl) ?_
  refine lv_iload hx hb dL_law_1490 (lv_at hl 0 rfl) ?_
  refine lv_iconst (v := 2) hx hb dL_law_1492 (by decide) ?_
  refine lv_iadd hx hb dL_law_1493 ?_
  refine lv_topi (fun y3 hy3 => ?_)
  obtain rfl : 2 = y3 := (hy3.trans (by decide)).symm
  refine va_sld hx hb hX hbl hbA hS (show ¬ ((2 : Int32) < 0 ∨ 6 ≤ (2 : Int32).toNatClampNeg) by decide) dL_law_1494 ?_
  refine lv_topi (fun y4 hy4 => ?_)
  obtain rfl : (xs 2) = y4 := (hy4.trans (rfl)).symm
  have hPc := hP.sub (ws' := [(h1, .inr (11, [.ref (a 0), .ref (a 1), .ref (a 3), .ref (a 14), .int 0, .null, .null, .null, .null, .null, .null]))]) [0] rfl
  have hDc := hD.sub (ws' := [(h1, .inr (11, [.ref (a 0), .ref (a 1), .ref (a 3), .ref (a 14), .int 0, .null, .null, .null, .null, .null, .null]))]) [0] (by decide) rfl
  have hKc := hK.sub (tys' := []) [] rfl
  have hFc := va_free (wc := [(h1, .inr (11, [.ref (a 0), .ref (a 1), .ref (a 3), .ref (a 14), .int 0, .null, .null, .null, .null, .null, .null]))]) hD hS hA [0] rfl
  refine va_calli (va_runV (As := [.int (xs 1), .int (xs 2)]) (rest := []) ⟨hx, hb, hml, hown, hts⟩ (p_X11_reason l dC dI h1 a (xs 1) (xs 2) H.size) (cwV 2 hts glaw26_0 rfl rfl rfl (by decide +kernel) ⟨by decide +kernel, by decide +kernel⟩) ⟨fun a U g mk q => by obtain ⟨q0, q1, qP, qK, qD⟩ := q; exact ⟨q0, q1, qP, va_K.moved (u := U) (U := U.calling g mk a) (Vm.Alike.refl U.vm) qK, qD⟩, va_recv hKc hPc (ci := 11) (q0 := 0) rfl rfl, fun U hU9 hW => ⟨rfl, by rw [hU9], by rw [hU9]; exact hPc, va_K.moved hW.alike hKc, hDc.weaken (fun _ _ _ _ => trivial)⟩⟩ rfl rfl hl.1 rfl (lv_room (Nat.le_of_ble_eq_true rfl)) dL_law_1495 ⟨by decide +kernel, by decide +kernel⟩) hS (fun q _ h => hFc q h) hFc (fun r1495 u t H1 locs ht hvm hw hB hz1 hk1 hS => ?_)
  obtain ⟨hP1, hK1, hD1⟩ := hB
  rw [ht] at hP1
  have hK1 := va_K.moved hvm.symm hK1
  obtain ⟨hP, hD⟩ := va_join (wr := [(h2, .inr (12, fM (vM av))), (o, .inl (kO, 1, .inr (.inl (fun _ => 0))))]) (w1 := []) hP hD [0] [1, 2] rfl rfl (by decide) (by decide) hk1 hFc hP1 hD1
  generalize H1 = H at hP hS ⊢
  have hP : va_P (dC, dI) vwCl [(h2, .inr (12, fM (vM av))), (o, .inl (kO, 1, .inr (.inl (fun _ => 0))))] H := hP
  have hD : va_D A [(h2, .inr (12, fM (vM av))), (o, .inl (kO, 1, .inr (.inl (fun _ => 0))))] := hD
  obtain rfl := hw
  refine lv_aload_n hx hb dL_law_1498 rfl (lv_at hl 2 rfl) ?_
  refine lv_aload_n hx hb dL_law_1499 rfl (lv_at hl 4 rfl) ?_
  refine lv_iload hx hb dL_law_1500 (lv_at hl 0 rfl) ?_
  refine lv_iconst (v := 1) hx hb dL_law_1502 (by decide) ?_
  refine lv_iadd hx hb dL_law_1503 ?_
  refine lv_topi (fun y5 hy5 => ?_)
  obtain rfl : 1 = y5 := (hy5.trans (by decide)).symm
  refine va_sld hx hb hX hbl hbA hS (show ¬ ((1 : Int32) < 0 ∨ 6 ≤ (1 : Int32).toNatClampNeg) by decide) dL_law_1504 ?_
  refine lv_topi (fun y6 hy6 => ?_)
  obtain rfl : (xs 1) = y6 := (hy6.trans (rfl)).symm
  refine lv_aload_n hx hb dL_law_1505 rfl (lv_at hl 4 rfl) ?_
  refine lv_iload hx hb dL_law_1506 (lv_at hl 0 rfl) ?_
  refine lv_iconst (v := 2) hx hb dL_law_1508 (by decide) ?_
  refine lv_iadd hx hb dL_law_1509 ?_
  refine lv_topi (fun y7 hy7 => ?_)
  obtain rfl : 2 = y7 := (hy7.trans (by decide)).symm
  refine va_sld hx hb hX hbl hbA hS (show ¬ ((2 : Int32) < 0 ∨ 6 ≤ (2 : Int32).toNatClampNeg) by decide) dL_law_1510 ?_
  refine lv_topi (fun y8 hy8 => ?_)
  obtain rfl : (xs 2) = y8 := (hy8.trans (rfl)).symm
  have hPc := hP.sub (ws' := [(h2, .inr (12, fM (vM av)))]) [0] rfl
  have hDc := hD.sub (ws' := [(h2, .inr (12, fM (vM av)))]) [0] (by decide) rfl
  have hKc := hK.sub (tys' := []) [] rfl
  have hFc := va_free (wc := [(h2, .inr (12, fM (vM av)))]) hD hS hA [0] rfl
  refine va_calli (va_runV (As := [.int (xs 1), .int (xs 2)]) (rest := [.int (-1)]) ⟨hx, hb, hml, hown, hts⟩ (p_X12_reason l dC dI h2 (vM av) (rfl) (xs 1) (xs 2) H.size) (cwV 2 hts glaw26_1 rfl rfl rfl (by decide +kernel) ⟨by decide +kernel, by decide +kernel⟩) ⟨fun a U g mk q => by obtain ⟨q0, q1, qP, qK, qD⟩ := q; exact ⟨q0, q1, qP, va_K.moved (u := U) (U := U.calling g mk a) (Vm.Alike.refl U.vm) qK, qD⟩, va_recv hKc hPc (ci := 12) (q0 := 0) rfl rfl, fun U hU9 hW => ⟨rfl, by rw [hU9], by rw [hU9]; exact hPc, va_K.moved hW.alike hKc, hDc.weaken (fun _ _ _ _ => trivial)⟩⟩ rfl rfl hl.1 rfl (lv_room (Nat.le_of_ble_eq_true rfl)) dL_law_1511 ⟨by decide +kernel, by decide +kernel⟩) hS (fun q _ h => hFc q h) hFc (fun r1511 u t H1 locs ht hvm hw hB hz1 hk1 hS => ?_)
  obtain ⟨w1511, hwit1511⟩ : ∃ w9, w9 = u := ⟨u, rfl⟩
  subst hwit1511
  obtain ⟨hP1, hK1, hD1⟩ := hB
  rw [ht] at hP1
  have hK1 := va_K.moved hvm.symm hK1
  obtain ⟨hP, hD⟩ := va_join (wr := [(o, .inl (kO, 1, .inr (.inl (fun _ => 0))))]) (w1 := [(h2, .inr (12, fM w1511))]) hP hD [0] [1] rfl rfl (by decide) (by decide) hk1 hFc hP1 hD1
  generalize H1 = H at hP hS ⊢
  have hP : va_P (dC, dI) vwCl [(o, .inl (kO, 1, .inr (.inl (fun _ => 0)))), (h2, .inr (12, fM w1511))] H := hP
  have hD : va_D A [(o, .inl (kO, 1, .inr (.inl (fun _ => 0)))), (h2, .inr (12, fM w1511))] := hD
  obtain ⟨rfl, f1511_0⟩ := hw
  refine lv_icmp_eq (tgt := 2131) hx hb dL_law_1514 (by decide) (fun _ => ?_) (fun c9 => absurd (by decide) c9)
  refine lv_iinc (v := 6) (lv' := [(4, .int 6), (3, .ref o), (2, .ref h2), (1, .ref h1), (0, .ref b)]) hx hb dL_law_2131 hl (k := 0) rfl (by decide) (by decide) rfl (fun ls hl => ?_)
  refine lv_goto (tgt := 23) hx hb dL_law_2134 (by decide) ?_
  refine lv_iload hx hb dL_law_23 (lv_at hl 0 rfl) ?_
  refine lv_aload_n hx hb dL_law_25 rfl (lv_at hl 4 rfl) ?_
  refine va_slen hx hb hX hbl hbA hS dL_law_26 ?_
  refine lv_topi (fun y9 hy9 => ?_)
  obtain rfl : 6 = y9 := (hy9.trans (rfl)).symm
  refine lv_bipush (v := 6) hx hb dL_law_27 (by decide) ?_
  refine lv_isub hx hb dL_law_29 ?_
  refine lv_topi (fun y10 hy10 => ?_)
  obtain rfl : 0 = y10 := (hy10.trans (by decide)).symm
  refine lv_icmp_gt (tgt := 2137) hx hb dL_law_30 (by decide) (fun _ => ?_) (fun c9 => absurd (by decide) c9)
  refine lv_iconst (v := 1) hx hb dL_law_2137 (by decide) ?_
  refine W.widen (k := 600002) (n := 7302232) (by decide +kernel) (by decide +kernel) ?_
  refine va_forget (fun q hq => hA2 _ (hS.2.2 q hq)) ?_
  exact lw_ret hx hb hr hlocks dL_law_2138
theorem dL_law_1519 : decode cL_law 1519 = .ok (.aload_n 1, 1) := by decide +kernel
theorem dL_law_1520 : decode cL_law 1520 = .ok (.invokevirtual 199, 3) := by decide +kernel
theorem dL_law_1523 : decode cL_law 1523 = .ok (.aload_n 2, 1) := by decide +kernel
theorem dL_law_1524 : decode cL_law 1524 = .ok (.invokevirtual 202, 3) := by decide +kernel
theorem dL_law_1527 : decode cL_law 1527 = .ok (.goto 604, 3) := by decide +kernel
theorem glaw27_0 : GoodIn lw_tbl (wsV RL 199 RX11 yX11_clear wsPX11_clear) := goodIn_sub ((List.forall_mem_append.mpr ⟨(mem_p ([.methodLink RL 199 yX11_clear, .instanceMethod yX11_clear, .selects RX11 yX11_clear yX11_clear, .initialized RX11] : List Cond) [(3, 27), (3, 28), (3, 29), (1, 1)] (by decide +kernel)), ml_wsPX11_clear⟩ : ∀ w ∈ wsV RL 199 RX11 yX11_clear wsPX11_clear, w ∈ lw_tbl)) (by decide +kernel)
theorem glaw27_1 : GoodIn lw_tbl (wsV RL 202 RX12 yX12_clear wsPX12_clear) := goodIn_sub ((List.forall_mem_append.mpr ⟨(mem_p ([.methodLink RL 202 yX12_clear, .instanceMethod yX12_clear, .selects RX12 yX12_clear yX12_clear, .initialized RX12] : List Cond) [(15, 118), (15, 119), (15, 120), (1, 4)] (by decide +kernel)), ml_wsPX12_clear⟩ : ∀ w ∈ wsV RL 202 RX12 yX12_clear wsPX12_clear, w ∈ lw_tbl)) (by decide +kernel)
set_option maxHeartbeats 4000000 in
set_option maxRecDepth 100000 in
/-- the law's case 27: clear -/
theorem lc_27 {p : Program} {e : Env} {s : State} {m : MethodId} {below : List Frame} {meth : Method} {c : Code} (l : Launch) (hst : l.stackTraces = false) {b : Nat} {xs : Nat → Int32} (C0 : lw_At p s m meth c b 6 xs) {A : Nat → Prop} (hA : ∀ q : Nat, s.heap.size ≤ q → A q) (hA2 : ∀ q : Nat, A q → s.heap.size ≤ q) (X0 : lx_ok A s) (dC : Nat → ClassId) (dI : Nat → Nat → Nat) {h1 h2 o : Nat} {a : Nat → Nat} {k : Nat → ClassId} {av : Nat → Nat} {kv : Nat → ClassId} {kO : ClassId} {H : Heap} {locs : List Loc} {ls : Array Slot} (hK : va_K (dC, dI) vwCl [(kO, .long)] s) (hP : va_P (dC, dI) vwCl [(h1, .inr (11, [.ref (a 0), .ref (a 1), .ref (a 3), .ref (a 14), .int 0, .null, .null, .null, .null, .null, .null])), (h2, .inr (12, fM (vM av))), (o, .inl (kO, 1, .inr (.inl (fun _ => 0))))] H) (hD : va_D A [(h1, .inr (11, [.ref (a 0), .ref (a 1), .ref (a 3), .ref (a 14), .int 0, .null, .null, .null, .null, .null, .null])), (h2, .inr (12, fM (vM av))), (o, .inl (kO, 1, .inr (.inl (fun _ => 0))))]) (hS : va_S A s.heap H locs) (hl : lv_has ls 7 [(4, .int 0), (3, .ref o), (2, .ref h2), (1, .ref h1), (0, .ref b)]) : W p l e room_1 s m #[Value.ref b] below meth c H locs 125 181434 (lw_Z below #[Value.ref b] s) (F0 m 1519 ls []) := by
  obtain ⟨hx, hb, hr, hml, hown, hts, hX, hbl, hlocks, hgv⟩ := id C0
  have hb : c.code = cL_law := hb
  have hown : s.vm.findClass RL = some m.cls := hown
  obtain ⟨hU, hN, hnX11_343, hnX11_392, hnX11_421, hncAI, hngX11_161, hngX11_79, hngX11_95⟩ := X0
  have hbA : ¬ A b := fun h => absurd (hA2 b h) (Nat.not_le.mpr hbl)
  refine lv_aload_n hx hb dL_law_1519 rfl (lv_at hl 3 rfl) ?_
  have hPc := hP.sub (ws' := [(h1, .inr (11, [.ref (a 0), .ref (a 1), .ref (a 3), .ref (a 14), .int 0, .null, .null, .null, .null, .null, .null]))]) [0] rfl
  have hDc := hD.sub (ws' := [(h1, .inr (11, [.ref (a 0), .ref (a 1), .ref (a 3), .ref (a 14), .int 0, .null, .null, .null, .null, .null, .null]))]) [0] (by decide) rfl
  have hKc := hK.sub (tys' := []) [] rfl
  have hFc := va_free (wc := [(h1, .inr (11, [.ref (a 0), .ref (a 1), .ref (a 3), .ref (a 14), .int 0, .null, .null, .null, .null, .null, .null]))]) hD hS hA [0] rfl
  refine va_callv (va_runV (As := []) (rest := []) ⟨hx, hb, hml, hown, hts⟩ (p_X11_clear l dC dI h1 a H.size) (cwV 0 hts glaw27_0 rfl rfl rfl (by decide +kernel) ⟨by decide +kernel, by decide +kernel⟩) ⟨fun a U g mk q => by obtain ⟨q0, q1, qP, qK, qD, qhnX11_343⟩ := q; exact ⟨q0, q1, qP, va_K.moved (u := U) (U := U.calling g mk a) (Vm.Alike.refl U.vm) qK, qD, va_Nw.same (u := U) (U := U.calling g mk a) rfl rfl qhnX11_343⟩, va_recv hKc hPc (ci := 11) (q0 := 0) rfl rfl, fun U hU9 hW => ⟨rfl, by rw [hU9], by rw [hU9]; exact hPc, va_K.moved hW.alike hKc, hDc.weaken (fun _ _ _ _ => trivial), va_Nw.warmM hW hnX11_343⟩⟩ rfl rfl hl.1 rfl (lv_room (Nat.le_of_ble_eq_true rfl)) dL_law_1520 ⟨by decide +kernel, by decide +kernel⟩) hS (fun q _ h => hFc q h) hFc (fun u t H1 locs ht hvm hw hB hz1 hk1 hS => ?_)
  obtain ⟨hP1, hK1, hD1⟩ := hB
  rw [ht] at hP1
  have hK1 := va_K.moved hvm.symm hK1
  obtain ⟨hP, hD⟩ := va_join (wr := [(h2, .inr (12, fM (vM av))), (o, .inl (kO, 1, .inr (.inl (fun _ => 0))))]) (w1 := []) hP hD [0] [1, 2] rfl rfl (by decide) (by decide) hk1 hFc hP1 hD1
  generalize H1 = H at hP hS ⊢
  have hP : va_P (dC, dI) vwCl [(h2, .inr (12, fM (vM av))), (o, .inl (kO, 1, .inr (.inl (fun _ => 0))))] H := hP
  have hD : va_D A [(h2, .inr (12, fM (vM av))), (o, .inl (kO, 1, .inr (.inl (fun _ => 0))))] := hD
  refine W.widen (k := 140) (n := 182842) (by decide +kernel) (by decide +kernel) ?_
  refine lv_aload_n hx hb dL_law_1523 rfl (lv_at hl 2 rfl) ?_
  have hPc := hP.sub (ws' := [(h2, .inr (12, fM (vM av)))]) [0] rfl
  have hDc := hD.sub (ws' := [(h2, .inr (12, fM (vM av)))]) [0] (by decide) rfl
  have hKc := hK.sub (tys' := []) [] rfl
  have hFc := va_free (wc := [(h2, .inr (12, fM (vM av)))]) hD hS hA [0] rfl
  refine va_callv (va_runV (As := []) (rest := []) ⟨hx, hb, hml, hown, hts⟩ (p_X12_clear l dC dI h2 (vM av) H.size) (cwV 0 hts glaw27_1 rfl rfl rfl (by decide +kernel) ⟨by decide +kernel, by decide +kernel⟩) ⟨fun a U g mk q => by obtain ⟨q0, q1, qP, qK, qD⟩ := q; exact ⟨q0, q1, qP, va_K.moved (u := U) (U := U.calling g mk a) (Vm.Alike.refl U.vm) qK, qD⟩, va_recv hKc hPc (ci := 12) (q0 := 0) rfl rfl, fun U hU9 hW => ⟨rfl, by rw [hU9], by rw [hU9]; exact hPc, va_K.moved hW.alike hKc, hDc.weaken (fun _ _ _ _ => trivial)⟩⟩ rfl rfl hl.1 rfl (lv_room (Nat.le_of_ble_eq_true rfl)) dL_law_1524 ⟨by decide +kernel, by decide +kernel⟩) hS (fun q _ h => hFc q h) hFc (fun u t H1 locs ht hvm hw hB hz1 hk1 hS => ?_)
  obtain ⟨w1524, hwit1524⟩ : ∃ w9, w9 = u := ⟨u, rfl⟩
  subst hwit1524
  obtain ⟨hP1, hK1, hD1⟩ := hB
  rw [ht] at hP1
  have hK1 := va_K.moved hvm.symm hK1
  obtain ⟨hP, hD⟩ := va_join (wr := [(o, .inl (kO, 1, .inr (.inl (fun _ => 0))))]) (w1 := [(h2, .inr (12, fM w1524))]) hP hD [0] [1] rfl rfl (by decide) (by decide) hk1 hFc hP1 hD1
  generalize H1 = H at hP hS ⊢
  have hP : va_P (dC, dI) vwCl [(o, .inl (kO, 1, .inr (.inl (fun _ => 0)))), (h2, .inr (12, fM w1524))] H := hP
  have hD : va_D A [(o, .inl (kO, 1, .inr (.inl (fun _ => 0)))), (h2, .inr (12, fM w1524))] := hD
  have f1524_0 := hw
  try dsimp only at f1524_0
  refine lv_goto (tgt := 2131) hx hb dL_law_1527 (by decide) ?_
  refine lv_iinc (v := 6) (lv' := [(4, .int 6), (3, .ref o), (2, .ref h2), (1, .ref h1), (0, .ref b)]) hx hb dL_law_2131 hl (k := 0) rfl (by decide) (by decide) rfl (fun ls hl => ?_)
  refine lv_goto (tgt := 23) hx hb dL_law_2134 (by decide) ?_
  refine lv_iload hx hb dL_law_23 (lv_at hl 0 rfl) ?_
  refine lv_aload_n hx hb dL_law_25 rfl (lv_at hl 4 rfl) ?_
  refine va_slen hx hb hX hbl hbA hS dL_law_26 ?_
  refine lv_topi (fun y1 hy1 => ?_)
  obtain rfl : 6 = y1 := (hy1.trans (rfl)).symm
  refine lv_bipush (v := 6) hx hb dL_law_27 (by decide) ?_
  refine lv_isub hx hb dL_law_29 ?_
  refine lv_topi (fun y2 hy2 => ?_)
  obtain rfl : 0 = y2 := (hy2.trans (by decide)).symm
  refine lv_icmp_gt (tgt := 2137) hx hb dL_law_30 (by decide) (fun _ => ?_) (fun c9 => absurd (by decide) c9)
  refine lv_iconst (v := 1) hx hb dL_law_2137 (by decide) ?_
  refine W.widen (k := 600002) (n := 7302232) (by decide +kernel) (by decide +kernel) ?_
  refine va_forget (fun q hq => hA2 _ (hS.2.2 q hq)) ?_
  exact lw_ret hx hb hr hlocks dL_law_2138
theorem dL_law_1530 : decode cL_law 1530 = .ok (.aload_n 1, 1) := by decide +kernel
theorem dL_law_1531 : decode cL_law 1531 = .ok (.aload_n 0, 1) := by decide +kernel
theorem dL_law_1532 : decode cL_law 1532 = .ok (.iload 4, 2) := by decide +kernel
theorem dL_law_1534 : decode cL_law 1534 = .ok (.iconst 1, 1) := by decide +kernel
theorem dL_law_1535 : decode cL_law 1535 = .ok (.iadd, 1) := by decide +kernel
theorem dL_law_1536 : decode cL_law 1536 = .ok (.iaload, 1) := by decide +kernel
theorem dL_law_1537 : decode cL_law 1537 = .ok (.aload_n 0, 1) := by decide +kernel
theorem dL_law_1538 : decode cL_law 1538 = .ok (.iload 4, 2) := by decide +kernel
theorem dL_law_1540 : decode cL_law 1540 = .ok (.iconst 2, 1) := by decide +kernel
theorem dL_law_1541 : decode cL_law 1541 = .ok (.iadd, 1) := by decide +kernel
theorem dL_law_1542 : decode cL_law 1542 = .ok (.iaload, 1) := by decide +kernel
theorem dL_law_1543 : decode cL_law 1543 = .ok (.aload_n 0, 1) := by decide +kernel
theorem dL_law_1544 : decode cL_law 1544 = .ok (.iload 4, 2) := by decide +kernel
theorem dL_law_1546 : decode cL_law 1546 = .ok (.iconst 3, 1) := by decide +kernel
theorem dL_law_1547 : decode cL_law 1547 = .ok (.iadd, 1) := by decide +kernel
theorem dL_law_1548 : decode cL_law 1548 = .ok (.iaload, 1) := by decide +kernel
theorem dL_law_1549 : decode cL_law 1549 = .ok (.aload_n 3, 1) := by decide +kernel
theorem dL_law_1550 : decode cL_law 1550 = .ok (.invokestatic 203, 3) := by decide +kernel
theorem dL_law_1553 : decode cL_law 1553 = .ok (.istore 5, 2) := by decide +kernel
theorem dL_law_1555 : decode cL_law 1555 = .ok (.aload_n 2, 1) := by decide +kernel
theorem dL_law_1556 : decode cL_law 1556 = .ok (.aload_n 0, 1) := by decide +kernel
theorem dL_law_1557 : decode cL_law 1557 = .ok (.iload 4, 2) := by decide +kernel
theorem dL_law_1559 : decode cL_law 1559 = .ok (.iconst 1, 1) := by decide +kernel
theorem dL_law_1560 : decode cL_law 1560 = .ok (.iadd, 1) := by decide +kernel
theorem dL_law_1561 : decode cL_law 1561 = .ok (.iaload, 1) := by decide +kernel
theorem dL_law_1562 : decode cL_law 1562 = .ok (.aload_n 0, 1) := by decide +kernel
theorem dL_law_1563 : decode cL_law 1563 = .ok (.iload 4, 2) := by decide +kernel
theorem dL_law_1565 : decode cL_law 1565 = .ok (.iconst 2, 1) := by decide +kernel
theorem dL_law_1566 : decode cL_law 1566 = .ok (.iadd, 1) := by decide +kernel
theorem dL_law_1567 : decode cL_law 1567 = .ok (.iaload, 1) := by decide +kernel
theorem dL_law_1568 : decode cL_law 1568 = .ok (.aload_n 0, 1) := by decide +kernel
theorem dL_law_1569 : decode cL_law 1569 = .ok (.iload 4, 2) := by decide +kernel
theorem dL_law_1571 : decode cL_law 1571 = .ok (.iconst 3, 1) := by decide +kernel
theorem dL_law_1572 : decode cL_law 1572 = .ok (.iadd, 1) := by decide +kernel
theorem dL_law_1573 : decode cL_law 1573 = .ok (.iaload, 1) := by decide +kernel
theorem dL_law_1574 : decode cL_law 1574 = .ok (.invokevirtual 205, 3) := by decide +kernel
theorem dL_law_1577 : decode cL_law 1577 = .ok (.istore 6, 2) := by decide +kernel
theorem dL_law_1579 : decode cL_law 1579 = .ok (.aload_n 2, 1) := by decide +kernel
theorem dL_law_1580 : decode cL_law 1580 = .ok (.invokevirtual 111, 3) := by decide +kernel
theorem dL_law_1583 : decode cL_law 1583 = .ok (.iload 5, 2) := by decide +kernel
theorem dL_law_1585 : decode cL_law 1585 = .ok (.if_icmp .eq 5, 3) := by decide +kernel
theorem dL_law_1588 : decode cL_law 1588 = .ok (.iconst 0, 1) := by decide +kernel
theorem dL_law_1589 : decode cL_law 1589 = .ok (.ireturn, 1) := by decide +kernel
theorem dL_law_1590 : decode cL_law 1590 = .ok (.iload 5, 2) := by decide +kernel
theorem dL_law_1592 : decode cL_law 1592 = .ok (.ifCond .ne 15, 3) := by decide +kernel
theorem dL_law_1595 : decode cL_law 1595 = .ok (.aload_n 3, 1) := by decide +kernel
theorem dL_law_1596 : decode cL_law 1596 = .ok (.iconst 0, 1) := by decide +kernel
theorem dL_law_1597 : decode cL_law 1597 = .ok (.laload, 1) := by decide +kernel
theorem dL_law_1598 : decode cL_law 1598 = .ok (.iload 6, 2) := by decide +kernel
theorem dL_law_1600 : decode cL_law 1600 = .ok (.i2l, 1) := by decide +kernel
theorem dL_law_1601 : decode cL_law 1601 = .ok (.lcmp, 1) := by decide +kernel
theorem dL_law_1602 : decode cL_law 1602 = .ok (.ifCond .eq 5, 3) := by decide +kernel
theorem dL_law_1607 : decode cL_law 1607 = .ok (.goto 524, 3) := by decide +kernel
theorem glaw28_0 : GoodIn lw_tbl (va_wsS RL 203 yL_clause wsPL_clause) := goodIn_sub ((List.forall_mem_append.mpr ⟨(mem_p ([.methodLink RL 203 yL_clause, .static yL_clause, .initialized "OptimaWorksLaw"] : List Cond) [(9, 238), (9, 239), (1, 0)] (by decide +kernel)), ml_wsPL_clause⟩ : ∀ w ∈ va_wsS RL 203 yL_clause wsPL_clause, w ∈ lw_tbl)) (by decide +kernel)
theorem glaw28_1 : GoodIn lw_tbl (wsV RL 205 RX12 yX12_clause wsPX12_clause) := goodIn_sub ((List.forall_mem_append.mpr ⟨(mem_p ([.methodLink RL 205 yX12_clause, .instanceMethod yX12_clause, .selects RX12 yX12_clause yX12_clause, .initialized RX12] : List Cond) [(15, 203), (15, 204), (15, 205), (1, 4)] (by decide +kernel)), ml_wsPX12_clause⟩ : ∀ w ∈ wsV RL 205 RX12 yX12_clause wsPX12_clause, w ∈ lw_tbl)) (by decide +kernel)
theorem glaw28_2 : GoodIn lw_tbl (wsV RL 111 RX12 yX12_thrown wsPX12_thrown) := goodIn_sub ((List.forall_mem_append.mpr ⟨(mem_p ([.methodLink RL 111 yX12_thrown, .instanceMethod yX12_thrown, .selects RX12 yX12_thrown yX12_thrown, .initialized RX12] : List Cond) [(12, 139), (12, 140), (12, 141), (1, 4)] (by decide +kernel)), ml_wsPX12_thrown⟩ : ∀ w ∈ wsV RL 111 RX12 yX12_thrown wsPX12_thrown, w ∈ lw_tbl)) (by decide +kernel)
set_option maxHeartbeats 4000000 in
set_option maxRecDepth 100000 in
/-- the law's case 28: clause -/
theorem lc_28 {p : Program} {e : Env} {s : State} {m : MethodId} {below : List Frame} {meth : Method} {c : Code} (l : Launch) (hst : l.stackTraces = false) {b : Nat} {xs : Nat → Int32} (C0 : lw_At p s m meth c b 6 xs) {A : Nat → Prop} (hA : ∀ q : Nat, s.heap.size ≤ q → A q) (hA2 : ∀ q : Nat, A q → s.heap.size ≤ q) (X0 : lx_ok A s) (dC : Nat → ClassId) (dI : Nat → Nat → Nat) {h1 h2 o : Nat} {a : Nat → Nat} {k : Nat → ClassId} {av : Nat → Nat} {kv : Nat → ClassId} {kO : ClassId} {H : Heap} {locs : List Loc} {ls : Array Slot} (hK : va_K (dC, dI) vwCl [((kv 92), .int), ((kv 93), .int), ((kv 94), .int), (kO, .long)] s) (hP : va_P (dC, dI) vwCl [(h1, .inr (11, [.ref (a 0), .ref (a 1), .ref (a 3), .ref (a 14), .int 0, .null, .null, .null, .null, .null, .null])), (h2, .inr (12, fM (vM av))), ((av 92), .inl ((kv 92), 24, .inl (fun _ => 0))), ((av 93), .inl ((kv 93), 24, .inl (fun _ => 0))), ((av 94), .inl ((kv 94), 24, .inl (fun _ => 0))), (o, .inl (kO, 1, .inr (.inl (fun _ => 0))))] H) (hD : va_D A [(h1, .inr (11, [.ref (a 0), .ref (a 1), .ref (a 3), .ref (a 14), .int 0, .null, .null, .null, .null, .null, .null])), (h2, .inr (12, fM (vM av))), ((av 92), .inl ((kv 92), 24, .inl (fun _ => 0))), ((av 93), .inl ((kv 93), 24, .inl (fun _ => 0))), ((av 94), .inl ((kv 94), 24, .inl (fun _ => 0))), (o, .inl (kO, 1, .inr (.inl (fun _ => 0))))]) (hS : va_S A s.heap H locs) (hl : lv_has ls 7 [(4, .int 0), (3, .ref o), (2, .ref h2), (1, .ref h1), (0, .ref b)]) : W p l e room_1 s m #[Value.ref b] below meth c H locs 125 181434 (lw_Z below #[Value.ref b] s) (F0 m 1530 ls []) := by
  obtain ⟨hx, hb, hr, hml, hown, hts, hX, hbl, hlocks, hgv⟩ := id C0
  have hb : c.code = cL_law := hb
  have hown : s.vm.findClass RL = some m.cls := hown
  obtain ⟨hU, hN, hnX11_343, hnX11_392, hnX11_421, hncAI, hngX11_161, hngX11_79, hngX11_95⟩ := X0
  have hbA : ¬ A b := fun h => absurd (hA2 b h) (Nat.not_le.mpr hbl)
  refine lv_aload_n hx hb dL_law_1530 rfl (lv_at hl 3 rfl) ?_
  refine lv_aload_n hx hb dL_law_1531 rfl (lv_at hl 4 rfl) ?_
  refine lv_iload hx hb dL_law_1532 (lv_at hl 0 rfl) ?_
  refine lv_iconst (v := 1) hx hb dL_law_1534 (by decide) ?_
  refine lv_iadd hx hb dL_law_1535 ?_
  refine lv_topi (fun y1 hy1 => ?_)
  obtain rfl : 1 = y1 := (hy1.trans (by decide)).symm
  refine va_sld hx hb hX hbl hbA hS (show ¬ ((1 : Int32) < 0 ∨ 6 ≤ (1 : Int32).toNatClampNeg) by decide) dL_law_1536 ?_
  refine lv_topi (fun y2 hy2 => ?_)
  obtain rfl : (xs 1) = y2 := (hy2.trans (rfl)).symm
  refine lv_aload_n hx hb dL_law_1537 rfl (lv_at hl 4 rfl) ?_
  refine lv_iload hx hb dL_law_1538 (lv_at hl 0 rfl) ?_
  refine lv_iconst (v := 2) hx hb dL_law_1540 (by decide) ?_
  refine lv_iadd hx hb dL_law_1541 ?_
  refine lv_topi (fun y3 hy3 => ?_)
  obtain rfl : 2 = y3 := (hy3.trans (by decide)).symm
  refine va_sld hx hb hX hbl hbA hS (show ¬ ((2 : Int32) < 0 ∨ 6 ≤ (2 : Int32).toNatClampNeg) by decide) dL_law_1542 ?_
  refine lv_topi (fun y4 hy4 => ?_)
  obtain rfl : (xs 2) = y4 := (hy4.trans (rfl)).symm
  refine lv_aload_n hx hb dL_law_1543 rfl (lv_at hl 4 rfl) ?_
  refine lv_iload hx hb dL_law_1544 (lv_at hl 0 rfl) ?_
  refine lv_iconst (v := 3) hx hb dL_law_1546 (by decide) ?_
  refine lv_iadd hx hb dL_law_1547 ?_
  refine lv_topi (fun y5 hy5 => ?_)
  obtain rfl : 3 = y5 := (hy5.trans (by decide)).symm
  refine va_sld hx hb hX hbl hbA hS (show ¬ ((3 : Int32) < 0 ∨ 6 ≤ (3 : Int32).toNatClampNeg) by decide) dL_law_1548 ?_
  refine lv_topi (fun y6 hy6 => ?_)
  obtain rfl : (xs 3) = y6 := (hy6.trans (rfl)).symm
  refine lv_aload_n hx hb dL_law_1549 rfl (lv_at hl 1 rfl) ?_
  have hPc := hP.sub (ws' := [(h1, .inr (11, [.ref (a 0), .ref (a 1), .ref (a 3), .ref (a 14), .int 0, .null, .null, .null, .null, .null, .null])), (o, .inl (kO, 1, .inr (.inl (fun _ => 0))))]) [0, 5] rfl
  have hDc := hD.sub (ws' := [(h1, .inr (11, [.ref (a 0), .ref (a 1), .ref (a 3), .ref (a 14), .int 0, .null, .null, .null, .null, .null, .null])), (o, .inl (kO, 1, .inr (.inl (fun _ => 0))))]) [0, 5] (by decide) rfl
  have hKc := hK.sub (tys' := [(kO, .long)]) [3] rfl
  have hFc := va_free (wc := [(h1, .inr (11, [.ref (a 0), .ref (a 1), .ref (a 3), .ref (a 14), .int 0, .null, .null, .null, .null, .null, .null])), (o, .inl (kO, 1, .inr (.inl (fun _ => 0))))]) hD hS hA [0, 5] rfl
  refine va_calli (vx_runSW (As := [.ref h1, .int (xs 1), .int (xs 2), .int (xs 3), .ref o]) (rest := []) ⟨hx, hb, hml, hown, hts⟩ (p_L_clause l hst dC dI h1 a o kO (xs 1) (xs 2) (xs 3) H.size) (vx_cwSW 5 hts glaw28_0 rfl rfl rfl (by decide +kernel) ⟨by decide +kernel, by decide +kernel⟩) ⟨fun a U g mk q => by obtain ⟨q0, q1, qP, qK, qD, qU, qN, qngX11_79, qhnX11_392⟩ := q; exact ⟨q0, q1, qP, va_K.moved (u := U) (U := U.calling g mk a) (Vm.Alike.refl U.vm) qK, qD, vx_Zq.moved (u := U) (U := U.calling g mk a) (Vm.Alike.refl U.vm) qU, vx_Zq.moved (u := U) (U := U.calling g mk a) (Vm.Alike.refl U.vm) qN, fun w h => va_Nw.same (u := U) (U := U.calling g mk a) (ngX11_79_ot w h) rfl (qngX11_79 w h), va_Nw.same (u := U) (U := U.calling g mk a) rfl rfl qhnX11_392⟩, fun U hU9 hW => ⟨rfl, by rw [hU9], by rw [hU9]; exact hPc, va_K.moved hW.alike hKc, hDc.weaken (fun _ _ _ _ => trivial), by rw [hU9]; exact ((hU.kept (fun a h1 h2 => hS.2.1 a h1 h2)).narrow hFc).moved hW.alike, by rw [hU9]; exact ((hN.kept (fun a h1 h2 => hS.2.1 a h1 h2)).narrow hFc).moved hW.alike, fun w h => cd_warm (ngX11_79_cd w h) hW (hngX11_79 w h), va_Nw.warmM hW hnX11_392⟩⟩ rfl rfl hl.1 rfl (lv_room (Nat.le_of_ble_eq_true rfl)) dL_law_1550 ⟨by decide +kernel, by decide +kernel⟩) hS (fun q _ h => hFc q h) hFc (fun r1550 u t H1 locs ht hvm hw hB hz1 hk1 hS => ?_)
  obtain ⟨go1550, hwit1550⟩ : ∃ w9, w9 = u := ⟨u, rfl⟩
  subst hwit1550
  obtain ⟨hP1, hK1, hD1⟩ := hB
  rw [ht] at hP1
  have hK1 := va_K.moved hvm.symm hK1
  obtain ⟨hP, hD⟩ := va_join (wr := [(h2, .inr (12, fM (vM av))), ((av 92), .inl ((kv 92), 24, .inl (fun _ => 0))), ((av 93), .inl ((kv 93), 24, .inl (fun _ => 0))), ((av 94), .inl ((kv 94), 24, .inl (fun _ => 0)))]) (w1 := [(o, .inl (kO, 1, .inr (.inl go1550)))]) hP hD [0, 5] [1, 2, 3, 4] rfl rfl (by decide) (by decide) hk1 hFc hP1 hD1
  generalize H1 = H at hP hS ⊢
  have hP : va_P (dC, dI) vwCl [(h2, .inr (12, fM (vM av))), ((av 92), .inl ((kv 92), 24, .inl (fun _ => 0))), ((av 93), .inl ((kv 93), 24, .inl (fun _ => 0))), ((av 94), .inl ((kv 94), 24, .inl (fun _ => 0))), (o, .inl (kO, 1, .inr (.inl go1550)))] H := hP
  have hD : va_D A [(h2, .inr (12, fM (vM av))), ((av 92), .inl ((kv 92), 24, .inl (fun _ => 0))), ((av 93), .inl ((kv 93), 24, .inl (fun _ => 0))), ((av 94), .inl ((kv 94), 24, .inl (fun _ => 0))), (o, .inl (kO, 1, .inr (.inl go1550)))] := hD
  refine W.widen (k := 132) (n := 189711) (by decide +kernel) (by decide +kernel) ?_
  rcases hw with ⟨rfl, f1550_0, f1550_1⟩ | ⟨rfl, f1550_0⟩
  · refine lv_istore (lv' := [(5, .int 0), (4, .int 0), (3, .ref o), (2, .ref h2), (1, .ref h1), (0, .ref b)]) hx hb dL_law_1553 hl (by decide) rfl (fun ls hl => ?_)
    refine lv_aload_n hx hb dL_law_1555 rfl (lv_at hl 3 rfl) ?_
    refine lv_aload_n hx hb dL_law_1556 rfl (lv_at hl 5 rfl) ?_
    refine lv_iload hx hb dL_law_1557 (lv_at hl 1 rfl) ?_
    refine lv_iconst (v := 1) hx hb dL_law_1559 (by decide) ?_
    refine lv_iadd hx hb dL_law_1560 ?_
    refine lv_topi (fun y7 hy7 => ?_)
    obtain rfl : 1 = y7 := (hy7.trans (by decide)).symm
    refine va_sld hx hb hX hbl hbA hS (show ¬ ((1 : Int32) < 0 ∨ 6 ≤ (1 : Int32).toNatClampNeg) by decide) dL_law_1561 ?_
    refine lv_topi (fun y8 hy8 => ?_)
    obtain rfl : (xs 1) = y8 := (hy8.trans (rfl)).symm
    refine lv_aload_n hx hb dL_law_1562 rfl (lv_at hl 5 rfl) ?_
    refine lv_iload hx hb dL_law_1563 (lv_at hl 1 rfl) ?_
    refine lv_iconst (v := 2) hx hb dL_law_1565 (by decide) ?_
    refine lv_iadd hx hb dL_law_1566 ?_
    refine lv_topi (fun y9 hy9 => ?_)
    obtain rfl : 2 = y9 := (hy9.trans (by decide)).symm
    refine va_sld hx hb hX hbl hbA hS (show ¬ ((2 : Int32) < 0 ∨ 6 ≤ (2 : Int32).toNatClampNeg) by decide) dL_law_1567 ?_
    refine lv_topi (fun y10 hy10 => ?_)
    obtain rfl : (xs 2) = y10 := (hy10.trans (rfl)).symm
    refine lv_aload_n hx hb dL_law_1568 rfl (lv_at hl 5 rfl) ?_
    refine lv_iload hx hb dL_law_1569 (lv_at hl 1 rfl) ?_
    refine lv_iconst (v := 3) hx hb dL_law_1571 (by decide) ?_
    refine lv_iadd hx hb dL_law_1572 ?_
    refine lv_topi (fun y11 hy11 => ?_)
    obtain rfl : 3 = y11 := (hy11.trans (by decide)).symm
    refine va_sld hx hb hX hbl hbA hS (show ¬ ((3 : Int32) < 0 ∨ 6 ≤ (3 : Int32).toNatClampNeg) by decide) dL_law_1573 ?_
    refine lv_topi (fun y12 hy12 => ?_)
    obtain rfl : (xs 3) = y12 := (hy12.trans (rfl)).symm
    have hPc := hP.sub (ws' := [(h2, .inr (12, fM (vM av))), ((av 92), .inl ((kv 92), 24, .inl (fun _ => 0))), ((av 93), .inl ((kv 93), 24, .inl (fun _ => 0))), ((av 94), .inl ((kv 94), 24, .inl (fun _ => 0)))]) [0, 1, 2, 3] rfl
    have hDc := hD.sub (ws' := [(h2, .inr (12, fM (vM av))), ((av 92), .inl ((kv 92), 24, .inl (fun _ => 0))), ((av 93), .inl ((kv 93), 24, .inl (fun _ => 0))), ((av 94), .inl ((kv 94), 24, .inl (fun _ => 0)))]) [0, 1, 2, 3] (by decide) rfl
    have hKc := hK.sub (tys' := [((kv 92), .int), ((kv 93), .int), ((kv 94), .int)]) [0, 1, 2] rfl
    have hFc := va_free (wc := [(h2, .inr (12, fM (vM av))), ((av 92), .inl ((kv 92), 24, .inl (fun _ => 0))), ((av 93), .inl ((kv 93), 24, .inl (fun _ => 0))), ((av 94), .inl ((kv 94), 24, .inl (fun _ => 0)))]) hD hS hA [0, 1, 2, 3] rfl
    refine va_calli (va_runV (As := [.int (xs 1), .int (xs 2), .int (xs 3)]) (rest := []) ⟨hx, hb, hml, hown, hts⟩ (p_X12_clause l dC dI h2 (vM av) (rfl) (av 92) (rfl) (kv 92) (fun _ => 0) (av 93) (rfl) (kv 93) (fun _ => 0) (av 94) (rfl) (kv 94) (fun _ => 0) (xs 1) (xs 2) (xs 3) H.size) (cwV 3 hts glaw28_1 rfl rfl rfl (by decide +kernel) ⟨by decide +kernel, by decide +kernel⟩) ⟨fun a U g mk q => by obtain ⟨q0, q1, qP, qK, qD⟩ := q; exact ⟨q0, q1, qP, va_K.moved (u := U) (U := U.calling g mk a) (Vm.Alike.refl U.vm) qK, qD⟩, va_recv hKc hPc (ci := 12) (q0 := 0) rfl rfl, fun U hU9 hW => ⟨rfl, by rw [hU9], by rw [hU9]; exact hPc, va_K.moved hW.alike hKc, hDc.weaken (fun _ _ _ _ => trivial)⟩⟩ rfl rfl hl.1 rfl (lv_room (Nat.le_of_ble_eq_true rfl)) dL_law_1574 ⟨by decide +kernel, by decide +kernel⟩) hS (fun q _ h => hFc q h) hFc (fun r1574 u t H1 locs ht hvm hw hB hz1 hk1 hS => ?_)
    obtain ⟨w1574, hwit1574⟩ : ∃ w9, w9 = u := ⟨u, rfl⟩
    subst hwit1574
    obtain ⟨hP1, hK1, hD1⟩ := hB
    rw [ht] at hP1
    have hK1 := va_K.moved hvm.symm hK1
    obtain ⟨hP, hD⟩ := va_join (wr := [(o, .inl (kO, 1, .inr (.inl go1550)))]) (w1 := [(h2, .inr (12, fM w1574))]) hP hD [0, 1, 2, 3] [4] rfl rfl (by decide) (by decide) hk1 hFc hP1 hD1
    generalize H1 = H at hP hS ⊢
    have hP : va_P (dC, dI) vwCl [(o, .inl (kO, 1, .inr (.inl go1550))), (h2, .inr (12, fM w1574))] H := hP
    have hD : va_D A [(o, .inl (kO, 1, .inr (.inl go1550))), (h2, .inr (12, fM w1574))] := hD
    rcases hw with ⟨rfl, f1574_0, f1574_1⟩ | ⟨rfl, f1574_0, f1574_1⟩
    · refine lv_istore (lv' := [(6, .int 0), (5, .int 0), (4, .int 0), (3, .ref o), (2, .ref h2), (1, .ref h1), (0, .ref b)]) hx hb dL_law_1577 hl (by decide) rfl (fun ls hl => ?_)
      refine lv_aload_n hx hb dL_law_1579 rfl (lv_at hl 4 rfl) ?_
      have hPc := hP.sub (ws' := [(h2, .inr (12, fM w1574))]) [1] rfl
      have hDc := hD.sub (ws' := [(h2, .inr (12, fM w1574))]) [1] (by decide) rfl
      have hKc := hK.sub (tys' := []) [] rfl
      have hFc := va_free (wc := [(h2, .inr (12, fM w1574))]) hD hS hA [1] rfl
      refine va_calli (va_runV (As := []) (rest := []) ⟨hx, hb, hml, hown, hts⟩ (p_X12_thrown l dC dI h2 w1574 0 (f1574_1) H.size) (cwV 0 hts glaw28_2 rfl rfl rfl (by decide +kernel) ⟨by decide +kernel, by decide +kernel⟩) ⟨fun a U g mk q => by obtain ⟨q0, q1, qP, qK, qD⟩ := q; exact ⟨q0, q1, qP, va_K.moved (u := U) (U := U.calling g mk a) (Vm.Alike.refl U.vm) qK, qD⟩, va_recv hKc hPc (ci := 12) (q0 := 0) rfl rfl, fun U hU9 hW => ⟨rfl, by rw [hU9], by rw [hU9]; exact hPc, va_K.moved hW.alike hKc, hDc.weaken (fun _ _ _ _ => trivial)⟩⟩ rfl rfl hl.1 rfl (lv_room (Nat.le_of_ble_eq_true rfl)) dL_law_1580 ⟨by decide +kernel, by decide +kernel⟩) hS (fun q _ h => hFc q h) hFc (fun r1580 u t H1 locs ht hvm hw hB hz1 hk1 hS => ?_)
      obtain ⟨hP1, hK1, hD1⟩ := hB
      rw [ht] at hP1
      have hK1 := va_K.moved hvm.symm hK1
      obtain ⟨hP, hD⟩ := va_join (wr := [(o, .inl (kO, 1, .inr (.inl go1550)))]) (w1 := []) hP hD [1] [0] rfl rfl (by decide) (by decide) hk1 hFc hP1 hD1
      generalize H1 = H at hP hS ⊢
      have hP : va_P (dC, dI) vwCl [(o, .inl (kO, 1, .inr (.inl go1550)))] H := hP
      have hD : va_D A [(o, .inl (kO, 1, .inr (.inl go1550)))] := hD
      obtain rfl := hw
      refine lv_iload hx hb dL_law_1583 (lv_at hl 1 rfl) ?_
      refine lv_icmp_eq (tgt := 1590) hx hb dL_law_1585 (by decide) (fun _ => ?_) (fun c9 => absurd (by decide) c9)
      refine lv_iload hx hb dL_law_1590 (lv_at hl 1 rfl) ?_
      refine lv_if_ne (tgt := 1607) hx hb dL_law_1592 (by decide) (fun c9 => absurd c9 (by decide)) (fun _ => ?_)
      refine lv_aload_n hx hb dL_law_1595 rfl (lv_at hl 3 rfl) ?_
      refine lv_iconst (v := 0) hx hb dL_law_1596 (by decide) ?_
      refine va_lald hx hb hK hP 0 3 rfl rfl (show ¬ ((0 : Int32) < 0 ∨ 1 ≤ (0 : Int32).toNatClampNeg) by decide) dL_law_1597 ?_
      refine lv_topl (fun y13 hy13 => ?_)
      obtain rfl : 0 = y13 := (hy13.trans (f1550_1)).symm
      refine lv_iload hx hb dL_law_1598 (lv_at hl 0 rfl) ?_
      refine lv_i2l hx hb dL_law_1600 rfl ?_
      refine lv_topl (fun y14 hy14 => ?_)
      obtain rfl : 0 = y14 := (hy14.trans (by decide)).symm
      refine W.lcmp hx hb dL_law_1601 ?_
      refine lv_topi (fun y15 hy15 => ?_)
      obtain rfl : 0 = y15 := (hy15.trans (by decide)).symm
      refine lv_if_eq (tgt := 1607) hx hb dL_law_1602 (by decide) (fun _ => ?_) (fun c9 => absurd (by decide) c9)
      refine lv_goto (tgt := 2131) hx hb dL_law_1607 (by decide) ?_
      refine lv_iinc (v := 6) (lv' := [(4, .int 6), (6, .int 0), (5, .int 0), (3, .ref o), (2, .ref h2), (1, .ref h1), (0, .ref b)]) hx hb dL_law_2131 hl (k := 2) rfl (by decide) (by decide) rfl (fun ls hl => ?_)
      refine lv_goto (tgt := 23) hx hb dL_law_2134 (by decide) ?_
      refine lv_iload hx hb dL_law_23 (lv_at hl 0 rfl) ?_
      refine lv_aload_n hx hb dL_law_25 rfl (lv_at hl 6 rfl) ?_
      refine va_slen hx hb hX hbl hbA hS dL_law_26 ?_
      refine lv_topi (fun y16 hy16 => ?_)
      obtain rfl : 6 = y16 := (hy16.trans (rfl)).symm
      refine lv_bipush (v := 6) hx hb dL_law_27 (by decide) ?_
      refine lv_isub hx hb dL_law_29 ?_
      refine lv_topi (fun y17 hy17 => ?_)
      obtain rfl : 0 = y17 := (hy17.trans (by decide)).symm
      refine lv_icmp_gt (tgt := 2137) hx hb dL_law_30 (by decide) (fun _ => ?_) (fun c9 => absurd (by decide) c9)
      refine lv_iconst (v := 1) hx hb dL_law_2137 (by decide) ?_
      refine W.widen (k := 600002) (n := 7302232) (by decide +kernel) (by decide +kernel) ?_
      refine va_forget (fun q hq => hA2 _ (hS.2.2 q hq)) ?_
      exact lw_ret hx hb hr hlocks dL_law_2138
    · refine lv_istore (lv' := [(6, .int 0), (5, .int 0), (4, .int 0), (3, .ref o), (2, .ref h2), (1, .ref h1), (0, .ref b)]) hx hb dL_law_1577 hl (by decide) rfl (fun ls hl => ?_)
      refine lv_aload_n hx hb dL_law_1579 rfl (lv_at hl 4 rfl) ?_
      have hPc := hP.sub (ws' := [(h2, .inr (12, fM w1574))]) [1] rfl
      have hDc := hD.sub (ws' := [(h2, .inr (12, fM w1574))]) [1] (by decide) rfl
      have hKc := hK.sub (tys' := []) [] rfl
      have hFc := va_free (wc := [(h2, .inr (12, fM w1574))]) hD hS hA [1] rfl
      refine va_calli (va_runV (As := []) (rest := []) ⟨hx, hb, hml, hown, hts⟩ (p_X12_thrown l dC dI h2 w1574 1 (f1574_1) H.size) (cwV 0 hts glaw28_2 rfl rfl rfl (by decide +kernel) ⟨by decide +kernel, by decide +kernel⟩) ⟨fun a U g mk q => by obtain ⟨q0, q1, qP, qK, qD⟩ := q; exact ⟨q0, q1, qP, va_K.moved (u := U) (U := U.calling g mk a) (Vm.Alike.refl U.vm) qK, qD⟩, va_recv hKc hPc (ci := 12) (q0 := 0) rfl rfl, fun U hU9 hW => ⟨rfl, by rw [hU9], by rw [hU9]; exact hPc, va_K.moved hW.alike hKc, hDc.weaken (fun _ _ _ _ => trivial)⟩⟩ rfl rfl hl.1 rfl (lv_room (Nat.le_of_ble_eq_true rfl)) dL_law_1580 ⟨by decide +kernel, by decide +kernel⟩) hS (fun q _ h => hFc q h) hFc (fun r1580_1 u t H1 locs ht hvm hw hB hz1 hk1 hS => ?_)
      obtain ⟨hP1, hK1, hD1⟩ := hB
      rw [ht] at hP1
      have hK1 := va_K.moved hvm.symm hK1
      obtain ⟨hP, hD⟩ := va_join (wr := [(o, .inl (kO, 1, .inr (.inl go1550)))]) (w1 := []) hP hD [1] [0] rfl rfl (by decide) (by decide) hk1 hFc hP1 hD1
      generalize H1 = H at hP hS ⊢
      have hP : va_P (dC, dI) vwCl [(o, .inl (kO, 1, .inr (.inl go1550)))] H := hP
      have hD : va_D A [(o, .inl (kO, 1, .inr (.inl go1550)))] := hD
      obtain rfl := hw
      refine lv_iload hx hb dL_law_1583 (lv_at hl 1 rfl) ?_
      refine lv_icmp_eq (tgt := 1590) hx hb dL_law_1585 (by decide) (fun c9 => absurd c9 (by decide)) (fun _ => ?_)
      refine lv_iconst (v := 0) hx hb dL_law_1588 (by decide) ?_
      refine W.widen (k := 600002) (n := 7302232) (by decide +kernel) (by decide +kernel) ?_
      exact False.elim (by omega)
  · refine lv_istore (lv' := [(5, .int 1), (4, .int 0), (3, .ref o), (2, .ref h2), (1, .ref h1), (0, .ref b)]) hx hb dL_law_1553 hl (by decide) rfl (fun ls hl => ?_)
    refine lv_aload_n hx hb dL_law_1555 rfl (lv_at hl 3 rfl) ?_
    refine lv_aload_n hx hb dL_law_1556 rfl (lv_at hl 5 rfl) ?_
    refine lv_iload hx hb dL_law_1557 (lv_at hl 1 rfl) ?_
    refine lv_iconst (v := 1) hx hb dL_law_1559 (by decide) ?_
    refine lv_iadd hx hb dL_law_1560 ?_
    refine lv_topi (fun y18 hy18 => ?_)
    obtain rfl : 1 = y18 := (hy18.trans (by decide)).symm
    refine va_sld hx hb hX hbl hbA hS (show ¬ ((1 : Int32) < 0 ∨ 6 ≤ (1 : Int32).toNatClampNeg) by decide) dL_law_1561 ?_
    refine lv_topi (fun y19 hy19 => ?_)
    obtain rfl : (xs 1) = y19 := (hy19.trans (rfl)).symm
    refine lv_aload_n hx hb dL_law_1562 rfl (lv_at hl 5 rfl) ?_
    refine lv_iload hx hb dL_law_1563 (lv_at hl 1 rfl) ?_
    refine lv_iconst (v := 2) hx hb dL_law_1565 (by decide) ?_
    refine lv_iadd hx hb dL_law_1566 ?_
    refine lv_topi (fun y20 hy20 => ?_)
    obtain rfl : 2 = y20 := (hy20.trans (by decide)).symm
    refine va_sld hx hb hX hbl hbA hS (show ¬ ((2 : Int32) < 0 ∨ 6 ≤ (2 : Int32).toNatClampNeg) by decide) dL_law_1567 ?_
    refine lv_topi (fun y21 hy21 => ?_)
    obtain rfl : (xs 2) = y21 := (hy21.trans (rfl)).symm
    refine lv_aload_n hx hb dL_law_1568 rfl (lv_at hl 5 rfl) ?_
    refine lv_iload hx hb dL_law_1569 (lv_at hl 1 rfl) ?_
    refine lv_iconst (v := 3) hx hb dL_law_1571 (by decide) ?_
    refine lv_iadd hx hb dL_law_1572 ?_
    refine lv_topi (fun y22 hy22 => ?_)
    obtain rfl : 3 = y22 := (hy22.trans (by decide)).symm
    refine va_sld hx hb hX hbl hbA hS (show ¬ ((3 : Int32) < 0 ∨ 6 ≤ (3 : Int32).toNatClampNeg) by decide) dL_law_1573 ?_
    refine lv_topi (fun y23 hy23 => ?_)
    obtain rfl : (xs 3) = y23 := (hy23.trans (rfl)).symm
    have hPc := hP.sub (ws' := [(h2, .inr (12, fM (vM av))), ((av 92), .inl ((kv 92), 24, .inl (fun _ => 0))), ((av 93), .inl ((kv 93), 24, .inl (fun _ => 0))), ((av 94), .inl ((kv 94), 24, .inl (fun _ => 0)))]) [0, 1, 2, 3] rfl
    have hDc := hD.sub (ws' := [(h2, .inr (12, fM (vM av))), ((av 92), .inl ((kv 92), 24, .inl (fun _ => 0))), ((av 93), .inl ((kv 93), 24, .inl (fun _ => 0))), ((av 94), .inl ((kv 94), 24, .inl (fun _ => 0)))]) [0, 1, 2, 3] (by decide) rfl
    have hKc := hK.sub (tys' := [((kv 92), .int), ((kv 93), .int), ((kv 94), .int)]) [0, 1, 2] rfl
    have hFc := va_free (wc := [(h2, .inr (12, fM (vM av))), ((av 92), .inl ((kv 92), 24, .inl (fun _ => 0))), ((av 93), .inl ((kv 93), 24, .inl (fun _ => 0))), ((av 94), .inl ((kv 94), 24, .inl (fun _ => 0)))]) hD hS hA [0, 1, 2, 3] rfl
    refine va_calli (va_runV (As := [.int (xs 1), .int (xs 2), .int (xs 3)]) (rest := []) ⟨hx, hb, hml, hown, hts⟩ (p_X12_clause l dC dI h2 (vM av) (rfl) (av 92) (rfl) (kv 92) (fun _ => 0) (av 93) (rfl) (kv 93) (fun _ => 0) (av 94) (rfl) (kv 94) (fun _ => 0) (xs 1) (xs 2) (xs 3) H.size) (cwV 3 hts glaw28_1 rfl rfl rfl (by decide +kernel) ⟨by decide +kernel, by decide +kernel⟩) ⟨fun a U g mk q => by obtain ⟨q0, q1, qP, qK, qD⟩ := q; exact ⟨q0, q1, qP, va_K.moved (u := U) (U := U.calling g mk a) (Vm.Alike.refl U.vm) qK, qD⟩, va_recv hKc hPc (ci := 12) (q0 := 0) rfl rfl, fun U hU9 hW => ⟨rfl, by rw [hU9], by rw [hU9]; exact hPc, va_K.moved hW.alike hKc, hDc.weaken (fun _ _ _ _ => trivial)⟩⟩ rfl rfl hl.1 rfl (lv_room (Nat.le_of_ble_eq_true rfl)) dL_law_1574 ⟨by decide +kernel, by decide +kernel⟩) hS (fun q _ h => hFc q h) hFc (fun r1574_1 u t H1 locs ht hvm hw hB hz1 hk1 hS => ?_)
    obtain ⟨w1574_1, hwit1574_1⟩ : ∃ w9, w9 = u := ⟨u, rfl⟩
    subst hwit1574_1
    obtain ⟨hP1, hK1, hD1⟩ := hB
    rw [ht] at hP1
    have hK1 := va_K.moved hvm.symm hK1
    obtain ⟨hP, hD⟩ := va_join (wr := [(o, .inl (kO, 1, .inr (.inl go1550)))]) (w1 := [(h2, .inr (12, fM w1574_1))]) hP hD [0, 1, 2, 3] [4] rfl rfl (by decide) (by decide) hk1 hFc hP1 hD1
    generalize H1 = H at hP hS ⊢
    have hP : va_P (dC, dI) vwCl [(o, .inl (kO, 1, .inr (.inl go1550))), (h2, .inr (12, fM w1574_1))] H := hP
    have hD : va_D A [(o, .inl (kO, 1, .inr (.inl go1550))), (h2, .inr (12, fM w1574_1))] := hD
    rcases hw with ⟨rfl, f1574_1_0, f1574_1_1⟩ | ⟨rfl, f1574_1_0, f1574_1_1⟩
    · refine lv_istore (lv' := [(6, .int 0), (5, .int 1), (4, .int 0), (3, .ref o), (2, .ref h2), (1, .ref h1), (0, .ref b)]) hx hb dL_law_1577 hl (by decide) rfl (fun ls hl => ?_)
      refine lv_aload_n hx hb dL_law_1579 rfl (lv_at hl 4 rfl) ?_
      have hPc := hP.sub (ws' := [(h2, .inr (12, fM w1574_1))]) [1] rfl
      have hDc := hD.sub (ws' := [(h2, .inr (12, fM w1574_1))]) [1] (by decide) rfl
      have hKc := hK.sub (tys' := []) [] rfl
      have hFc := va_free (wc := [(h2, .inr (12, fM w1574_1))]) hD hS hA [1] rfl
      refine va_calli (va_runV (As := []) (rest := []) ⟨hx, hb, hml, hown, hts⟩ (p_X12_thrown l dC dI h2 w1574_1 0 (f1574_1_1) H.size) (cwV 0 hts glaw28_2 rfl rfl rfl (by decide +kernel) ⟨by decide +kernel, by decide +kernel⟩) ⟨fun a U g mk q => by obtain ⟨q0, q1, qP, qK, qD⟩ := q; exact ⟨q0, q1, qP, va_K.moved (u := U) (U := U.calling g mk a) (Vm.Alike.refl U.vm) qK, qD⟩, va_recv hKc hPc (ci := 12) (q0 := 0) rfl rfl, fun U hU9 hW => ⟨rfl, by rw [hU9], by rw [hU9]; exact hPc, va_K.moved hW.alike hKc, hDc.weaken (fun _ _ _ _ => trivial)⟩⟩ rfl rfl hl.1 rfl (lv_room (Nat.le_of_ble_eq_true rfl)) dL_law_1580 ⟨by decide +kernel, by decide +kernel⟩) hS (fun q _ h => hFc q h) hFc (fun r1580_2 u t H1 locs ht hvm hw hB hz1 hk1 hS => ?_)
      obtain ⟨hP1, hK1, hD1⟩ := hB
      rw [ht] at hP1
      have hK1 := va_K.moved hvm.symm hK1
      obtain ⟨hP, hD⟩ := va_join (wr := [(o, .inl (kO, 1, .inr (.inl go1550)))]) (w1 := []) hP hD [1] [0] rfl rfl (by decide) (by decide) hk1 hFc hP1 hD1
      generalize H1 = H at hP hS ⊢
      have hP : va_P (dC, dI) vwCl [(o, .inl (kO, 1, .inr (.inl go1550)))] H := hP
      have hD : va_D A [(o, .inl (kO, 1, .inr (.inl go1550)))] := hD
      obtain rfl := hw
      refine lv_iload hx hb dL_law_1583 (lv_at hl 1 rfl) ?_
      refine lv_icmp_eq (tgt := 1590) hx hb dL_law_1585 (by decide) (fun c9 => absurd c9 (by decide)) (fun _ => ?_)
      refine lv_iconst (v := 0) hx hb dL_law_1588 (by decide) ?_
      refine W.widen (k := 600002) (n := 7302232) (by decide +kernel) (by decide +kernel) ?_
      exact False.elim (by omega)
    · refine lv_istore (lv' := [(6, .int 0), (5, .int 1), (4, .int 0), (3, .ref o), (2, .ref h2), (1, .ref h1), (0, .ref b)]) hx hb dL_law_1577 hl (by decide) rfl (fun ls hl => ?_)
      refine lv_aload_n hx hb dL_law_1579 rfl (lv_at hl 4 rfl) ?_
      have hPc := hP.sub (ws' := [(h2, .inr (12, fM w1574_1))]) [1] rfl
      have hDc := hD.sub (ws' := [(h2, .inr (12, fM w1574_1))]) [1] (by decide) rfl
      have hKc := hK.sub (tys' := []) [] rfl
      have hFc := va_free (wc := [(h2, .inr (12, fM w1574_1))]) hD hS hA [1] rfl
      refine va_calli (va_runV (As := []) (rest := []) ⟨hx, hb, hml, hown, hts⟩ (p_X12_thrown l dC dI h2 w1574_1 1 (f1574_1_1) H.size) (cwV 0 hts glaw28_2 rfl rfl rfl (by decide +kernel) ⟨by decide +kernel, by decide +kernel⟩) ⟨fun a U g mk q => by obtain ⟨q0, q1, qP, qK, qD⟩ := q; exact ⟨q0, q1, qP, va_K.moved (u := U) (U := U.calling g mk a) (Vm.Alike.refl U.vm) qK, qD⟩, va_recv hKc hPc (ci := 12) (q0 := 0) rfl rfl, fun U hU9 hW => ⟨rfl, by rw [hU9], by rw [hU9]; exact hPc, va_K.moved hW.alike hKc, hDc.weaken (fun _ _ _ _ => trivial)⟩⟩ rfl rfl hl.1 rfl (lv_room (Nat.le_of_ble_eq_true rfl)) dL_law_1580 ⟨by decide +kernel, by decide +kernel⟩) hS (fun q _ h => hFc q h) hFc (fun r1580_3 u t H1 locs ht hvm hw hB hz1 hk1 hS => ?_)
      obtain ⟨hP1, hK1, hD1⟩ := hB
      rw [ht] at hP1
      have hK1 := va_K.moved hvm.symm hK1
      obtain ⟨hP, hD⟩ := va_join (wr := [(o, .inl (kO, 1, .inr (.inl go1550)))]) (w1 := []) hP hD [1] [0] rfl rfl (by decide) (by decide) hk1 hFc hP1 hD1
      generalize H1 = H at hP hS ⊢
      have hP : va_P (dC, dI) vwCl [(o, .inl (kO, 1, .inr (.inl go1550)))] H := hP
      have hD : va_D A [(o, .inl (kO, 1, .inr (.inl go1550)))] := hD
      obtain rfl := hw
      refine lv_iload hx hb dL_law_1583 (lv_at hl 1 rfl) ?_
      refine lv_icmp_eq (tgt := 1590) hx hb dL_law_1585 (by decide) (fun _ => ?_) (fun c9 => absurd (by decide) c9)
      refine lv_iload hx hb dL_law_1590 (lv_at hl 1 rfl) ?_
      refine lv_if_ne (tgt := 1607) hx hb dL_law_1592 (by decide) (fun _ => ?_) (fun c9 => absurd c9 (by decide))
      refine lv_goto (tgt := 2131) hx hb dL_law_1607 (by decide) ?_
      refine lv_iinc (v := 6) (lv' := [(4, .int 6), (6, .int 0), (5, .int 1), (3, .ref o), (2, .ref h2), (1, .ref h1), (0, .ref b)]) hx hb dL_law_2131 hl (k := 2) rfl (by decide) (by decide) rfl (fun ls hl => ?_)
      refine lv_goto (tgt := 23) hx hb dL_law_2134 (by decide) ?_
      refine lv_iload hx hb dL_law_23 (lv_at hl 0 rfl) ?_
      refine lv_aload_n hx hb dL_law_25 rfl (lv_at hl 6 rfl) ?_
      refine va_slen hx hb hX hbl hbA hS dL_law_26 ?_
      refine lv_topi (fun y24 hy24 => ?_)
      obtain rfl : 6 = y24 := (hy24.trans (rfl)).symm
      refine lv_bipush (v := 6) hx hb dL_law_27 (by decide) ?_
      refine lv_isub hx hb dL_law_29 ?_
      refine lv_topi (fun y25 hy25 => ?_)
      obtain rfl : 0 = y25 := (hy25.trans (by decide)).symm
      refine lv_icmp_gt (tgt := 2137) hx hb dL_law_30 (by decide) (fun _ => ?_) (fun c9 => absurd (by decide) c9)
      refine lv_iconst (v := 1) hx hb dL_law_2137 (by decide) ?_
      refine W.widen (k := 600002) (n := 7302232) (by decide +kernel) (by decide +kernel) ?_
      refine va_forget (fun q hq => hA2 _ (hS.2.2 q hq)) ?_
      exact lw_ret hx hb hr hlocks dL_law_2138

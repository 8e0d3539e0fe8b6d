theorem dL_law_23 : decode cL_law 23 = .ok (.iload 4, 2) := by decide +kernel
theorem dL_law_25 : decode cL_law 25 = .ok (.aload_n 0, 1) := by decide +kernel
theorem dL_law_26 : decode cL_law 26 = .ok (.arraylength, 1) := by decide +kernel
theorem dL_law_27 : decode cL_law 27 = .ok (.bipush 6, 2) := by decide +kernel
theorem dL_law_29 : decode cL_law 29 = .ok (.isub, 1) := by decide +kernel
theorem dL_law_30 : decode cL_law 30 = .ok (.if_icmp .gt 2107, 3) := by decide +kernel
theorem dL_law_212 : decode cL_law 212 = .ok (.aload_n 1, 1) := by decide +kernel
theorem dL_law_213 : decode cL_law 213 = .ok (.aload_n 0, 1) := by decide +kernel
theorem dL_law_214 : decode cL_law 214 = .ok (.iload 4, 2) := by decide +kernel
theorem dL_law_216 : decode cL_law 216 = .ok (.iconst 1, 1) := by decide +kernel
theorem dL_law_217 : decode cL_law 217 = .ok (.iadd, 1) := by decide +kernel
theorem dL_law_218 : decode cL_law 218 = .ok (.iaload, 1) := by decide +kernel
theorem dL_law_219 : decode cL_law 219 = .ok (.aload_n 0, 1) := by decide +kernel
theorem dL_law_220 : decode cL_law 220 = .ok (.iload 4, 2) := by decide +kernel
theorem dL_law_222 : decode cL_law 222 = .ok (.iconst 2, 1) := by decide +kernel
theorem dL_law_223 : decode cL_law 223 = .ok (.iadd, 1) := by decide +kernel
theorem dL_law_224 : decode cL_law 224 = .ok (.iaload, 1) := by decide +kernel
theorem dL_law_225 : decode cL_law 225 = .ok (.aload_n 0, 1) := by decide +kernel
theorem dL_law_226 : decode cL_law 226 = .ok (.iload 4, 2) := by decide +kernel
theorem dL_law_228 : decode cL_law 228 = .ok (.iconst 3, 1) := by decide +kernel
theorem dL_law_229 : decode cL_law 229 = .ok (.iadd, 1) := by decide +kernel
theorem dL_law_230 : decode cL_law 230 = .ok (.iaload, 1) := by decide +kernel
theorem dL_law_231 : decode cL_law 231 = .ok (.aload_n 0, 1) := by decide +kernel
theorem dL_law_232 : decode cL_law 232 = .ok (.iload 4, 2) := by decide +kernel
theorem dL_law_234 : decode cL_law 234 = .ok (.iconst 4, 1) := by decide +kernel
theorem dL_law_235 : decode cL_law 235 = .ok (.iadd, 1) := by decide +kernel
theorem dL_law_236 : decode cL_law 236 = .ok (.iaload, 1) := by decide +kernel
theorem dL_law_237 : decode cL_law 237 = .ok (.aload_n 0, 1) := by decide +kernel
theorem dL_law_238 : decode cL_law 238 = .ok (.iload 4, 2) := by decide +kernel
theorem dL_law_240 : decode cL_law 240 = .ok (.iconst 5, 1) := by decide +kernel
theorem dL_law_241 : decode cL_law 241 = .ok (.iadd, 1) := by decide +kernel
theorem dL_law_242 : decode cL_law 242 = .ok (.iaload, 1) := by decide +kernel
theorem dL_law_243 : decode cL_law 243 = .ok (.invokevirtual 92, 3) := by decide +kernel
theorem dL_law_246 : decode cL_law 246 = .ok (.aload_n 2, 1) := by decide +kernel
theorem dL_law_247 : decode cL_law 247 = .ok (.aload_n 0, 1) := by decide +kernel
theorem dL_law_248 : decode cL_law 248 = .ok (.iload 4, 2) := by decide +kernel
theorem dL_law_250 : decode cL_law 250 = .ok (.iconst 1, 1) := by decide +kernel
theorem dL_law_251 : decode cL_law 251 = .ok (.iadd, 1) := by decide +kernel
theorem dL_law_252 : decode cL_law 252 = .ok (.iaload, 1) := by decide +kernel
theorem dL_law_253 : decode cL_law 253 = .ok (.aload_n 0, 1) := by decide +kernel
theorem dL_law_254 : decode cL_law 254 = .ok (.iload 4, 2) := by decide +kernel
theorem dL_law_256 : decode cL_law 256 = .ok (.iconst 2, 1) := by decide +kernel
theorem dL_law_257 : decode cL_law 257 = .ok (.iadd, 1) := by decide +kernel
theorem dL_law_258 : decode cL_law 258 = .ok (.iaload, 1) := by decide +kernel
theorem dL_law_259 : decode cL_law 259 = .ok (.aload_n 0, 1) := by decide +kernel
theorem dL_law_260 : decode cL_law 260 = .ok (.iload 4, 2) := by decide +kernel
theorem dL_law_262 : decode cL_law 262 = .ok (.iconst 3, 1) := by decide +kernel
theorem dL_law_263 : decode cL_law 263 = .ok (.iadd, 1) := by decide +kernel
theorem dL_law_264 : decode cL_law 264 = .ok (.iaload, 1) := by decide +kernel
theorem dL_law_265 : decode cL_law 265 = .ok (.aload_n 0, 1) := by decide +kernel
theorem dL_law_266 : decode cL_law 266 = .ok (.iload 4, 2) := by decide +kernel
theorem dL_law_268 : decode cL_law 268 = .ok (.iconst 4, 1) := by decide +kernel
theorem dL_law_269 : decode cL_law 269 = .ok (.iadd, 1) := by decide +kernel
theorem dL_law_270 : decode cL_law 270 = .ok (.iaload, 1) := by decide +kernel
theorem dL_law_271 : decode cL_law 271 = .ok (.aload_n 0, 1) := by decide +kernel
theorem dL_law_272 : decode cL_law 272 = .ok (.iload 4, 2) := by decide +kernel
theorem dL_law_274 : decode cL_law 274 = .ok (.iconst 5, 1) := by decide +kernel
theorem dL_law_275 : decode cL_law 275 = .ok (.iadd, 1) := by decide +kernel
theorem dL_law_276 : decode cL_law 276 = .ok (.iaload, 1) := by decide +kernel
theorem dL_law_277 : decode cL_law 277 = .ok (.invokevirtual 96, 3) := by decide +kernel
theorem dL_law_280 : decode cL_law 280 = .ok (.goto 1851, 3) := by decide +kernel
theorem dL_law_2131 : decode cL_law 2131 = .ok (.iinc 4 6, 3) := by decide +kernel
theorem dL_law_2134 : decode cL_law 2134 = .ok (.goto (-2111), 3) := by decide +kernel
theorem dL_law_2137 : decode cL_law 2137 = .ok (.iconst 1, 1) := by decide +kernel
theorem dL_law_2138 : decode cL_law 2138 = .ok (.ireturn, 1) := by decide +kernel
theorem glaw0_0 : GoodIn lw_tbl (wsV RL 92 RX11 yX11_feed wsPX11_feed) := goodIn_sub ((List.forall_mem_append.mpr ⟨(mem_p ([.methodLink RL 92 yX11_feed, .instanceMethod yX11_feed, .selects RX11 yX11_feed yX11_feed, .initialized RX11] : List Cond) [(1, 222), (1, 223), (1, 224), (1, 1)] (by decide +kernel)), ml_wsPX11_feed⟩ : ∀ w ∈ wsV RL 92 RX11 yX11_feed wsPX11_feed, w ∈ lw_tbl)) (by decide +kernel)
theorem glaw0_1 : GoodIn lw_tbl (wsV RL 96 RX12 yX12_feed wsPX12_feed) := goodIn_sub ((List.forall_mem_append.mpr ⟨(mem_p ([.methodLink RL 96 yX12_feed, .instanceMethod yX12_feed, .selects RX12 yX12_feed yX12_feed, .initialized RX12] : List Cond) [(15, 60), (15, 61), (15, 62), (1, 4)] (by decide +kernel)), ml_wsPX12_feed⟩ : ∀ w ∈ wsV RL 96 RX12 yX12_feed wsPX12_feed, w ∈ lw_tbl)) (by decide +kernel)
set_option maxHeartbeats 4000000 in
set_option maxRecDepth 100000 in
/-- the law's case 0: feed -/
theorem lc_0 {p : Program} {e : Env} {s : State} {m : MethodId} {below : List Frame} {meth : Method} {c : Code} (l : Launch) (hst : l.stackTraces = false) {b : Nat} {xs : Nat → Int32} (C0 : lw_At p s m meth c b 6 xs) {A : Nat → Prop} (hA : ∀ q : Nat, s.heap.size ≤ q → A q) (hA2 : ∀ q : Nat, A q → s.heap.size ≤ q) (X0 : lx_ok A s) (dC : Nat → ClassId) (dI : Nat → Nat → Nat) {h1 h2 o : Nat} {a : Nat → Nat} {k : Nat → ClassId} {av : Nat → Nat} {kv : Nat → ClassId} {kO : ClassId} {H : Heap} {locs : List Loc} {ls : Array Slot} (hK : va_K (dC, dI) vwCl [((k 0), .int), ((kv 77), .int), (kO, .long)] s) (hP : va_P (dC, dI) vwCl [(h1, .inr (11, [.ref (a 0), .ref (a 1), .ref (a 3), .ref (a 14), .int 0, .null, .null, .null, .null, .null, .null])), ((a 0), .inl ((k 0), 5, .inl (fun _ => 0))), (h2, .inr (12, fM (vM av))), ((av 77), .inl ((kv 77), 20, .inl (fun _ => 0))), (o, .inl (kO, 1, .inr (.inl (fun _ => 0))))] H) (hD : va_D A [(h1, .inr (11, [.ref (a 0), .ref (a 1), .ref (a 3), .ref (a 14), .int 0, .null, .null, .null, .null, .null, .null])), ((a 0), .inl ((k 0), 5, .inl (fun _ => 0))), (h2, .inr (12, fM (vM av))), ((av 77), .inl ((kv 77), 20, .inl (fun _ => 0))), (o, .inl (kO, 1, .inr (.inl (fun _ => 0))))]) (hS : va_S A s.heap H locs) (hl : lv_has ls 7 [(4, .int 0), (3, .ref o), (2, .ref h2), (1, .ref h1), (0, .ref b)]) : W p l e room_1 s m #[Value.ref b] below meth c H locs 125 181434 (lw_Z below #[Value.ref b] s) (F0 m 212 ls []) := by
  obtain ⟨hx, hb, hr, hml, hown, hts, hX, hbl, hlocks, hgv⟩ := id C0
  have hb : c.code = cL_law := hb
  have hown : s.vm.findClass RL = some m.cls := hown
  obtain ⟨hU, hN, hnX11_343, hnX11_392, hnX11_421, hncAI, hngX11_161, hngX11_79, hngX11_95⟩ := X0
  have hbA : ¬ A b := fun h => absurd (hA2 b h) (Nat.not_le.mpr hbl)
  refine lv_aload_n hx hb dL_law_212 rfl (lv_at hl 3 rfl) ?_
  refine lv_aload_n hx hb dL_law_213 rfl (lv_at hl 4 rfl) ?_
  refine lv_iload hx hb dL_law_214 (lv_at hl 0 rfl) ?_
  refine lv_iconst (v := 1) hx hb dL_law_216 (by decide) ?_
  refine lv_iadd hx hb dL_law_217 ?_
  refine lv_topi (fun y1 hy1 => ?_)
  obtain rfl : 1 = y1 := (hy1.trans (by decide)).symm
  refine va_sld hx hb hX hbl hbA hS (show ¬ ((1 : Int32) < 0 ∨ 6 ≤ (1 : Int32).toNatClampNeg) by decide) dL_law_218 ?_
  refine lv_topi (fun y2 hy2 => ?_)
  obtain rfl : (xs 1) = y2 := (hy2.trans (rfl)).symm
  refine lv_aload_n hx hb dL_law_219 rfl (lv_at hl 4 rfl) ?_
  refine lv_iload hx hb dL_law_220 (lv_at hl 0 rfl) ?_
  refine lv_iconst (v := 2) hx hb dL_law_222 (by decide) ?_
  refine lv_iadd hx hb dL_law_223 ?_
  refine lv_topi (fun y3 hy3 => ?_)
  obtain rfl : 2 = y3 := (hy3.trans (by decide)).symm
  refine va_sld hx hb hX hbl hbA hS (show ¬ ((2 : Int32) < 0 ∨ 6 ≤ (2 : Int32).toNatClampNeg) by decide) dL_law_224 ?_
  refine lv_topi (fun y4 hy4 => ?_)
  obtain rfl : (xs 2) = y4 := (hy4.trans (rfl)).symm
  refine lv_aload_n hx hb dL_law_225 rfl (lv_at hl 4 rfl) ?_
  refine lv_iload hx hb dL_law_226 (lv_at hl 0 rfl) ?_
  refine lv_iconst (v := 3) hx hb dL_law_228 (by decide) ?_
  refine lv_iadd hx hb dL_law_229 ?_
  refine lv_topi (fun y5 hy5 => ?_)
  obtain rfl : 3 = y5 := (hy5.trans (by decide)).symm
  refine va_sld hx hb hX hbl hbA hS (show ¬ ((3 : Int32) < 0 ∨ 6 ≤ (3 : Int32).toNatClampNeg) by decide) dL_law_230 ?_
  refine lv_topi (fun y6 hy6 => ?_)
  obtain rfl : (xs 3) = y6 := (hy6.trans (rfl)).symm
  refine lv_aload_n hx hb dL_law_231 rfl (lv_at hl 4 rfl) ?_
  refine lv_iload hx hb dL_law_232 (lv_at hl 0 rfl) ?_
  refine lv_iconst (v := 4) hx hb dL_law_234 (by decide) ?_
  refine lv_iadd hx hb dL_law_235 ?_
  refine lv_topi (fun y7 hy7 => ?_)
  obtain rfl : 4 = y7 := (hy7.trans (by decide)).symm
  refine va_sld hx hb hX hbl hbA hS (show ¬ ((4 : Int32) < 0 ∨ 6 ≤ (4 : Int32).toNatClampNeg) by decide) dL_law_236 ?_
  refine lv_topi (fun y8 hy8 => ?_)
  obtain rfl : (xs 4) = y8 := (hy8.trans (rfl)).symm
  refine lv_aload_n hx hb dL_law_237 rfl (lv_at hl 4 rfl) ?_
  refine lv_iload hx hb dL_law_238 (lv_at hl 0 rfl) ?_
  refine lv_iconst (v := 5) hx hb dL_law_240 (by decide) ?_
  refine lv_iadd hx hb dL_law_241 ?_
  refine lv_topi (fun y9 hy9 => ?_)
  obtain rfl : 5 = y9 := (hy9.trans (by decide)).symm
  refine va_sld hx hb hX hbl hbA hS (show ¬ ((5 : Int32) < 0 ∨ 6 ≤ (5 : Int32).toNatClampNeg) by decide) dL_law_242 ?_
  refine lv_topi (fun y10 hy10 => ?_)
  obtain rfl : (xs 5) = y10 := (hy10.trans (rfl)).symm
  have hPc := hP.sub (ws' := [(h1, .inr (11, [.ref (a 0), .ref (a 1), .ref (a 3), .ref (a 14), .int 0, .null, .null, .null, .null, .null, .null])), ((a 0), .inl ((k 0), 5, .inl (fun _ => 0)))]) [0, 1] rfl
  have hDc := hD.sub (ws' := [(h1, .inr (11, [.ref (a 0), .ref (a 1), .ref (a 3), .ref (a 14), .int 0, .null, .null, .null, .null, .null, .null])), ((a 0), .inl ((k 0), 5, .inl (fun _ => 0)))]) [0, 1] (by decide) rfl
  have hKc := hK.sub (tys' := [((k 0), .int)]) [0] rfl
  have hFc := va_free (wc := [(h1, .inr (11, [.ref (a 0), .ref (a 1), .ref (a 3), .ref (a 14), .int 0, .null, .null, .null, .null, .null, .null])), ((a 0), .inl ((k 0), 5, .inl (fun _ => 0)))]) hD hS hA [0, 1] rfl
  refine va_callv (va_runV (As := [.int (xs 1), .int (xs 2), .int (xs 3), .int (xs 4), .int (xs 5)]) (rest := []) ⟨hx, hb, hml, hown, hts⟩ (p_X11_feed l dC dI h1 a k (xs 1) (xs 2) (xs 3) (xs 4) (xs 5) H.size) (cwV 5 hts glaw0_0 rfl rfl rfl (by decide +kernel) ⟨by decide +kernel, by decide +kernel⟩) ⟨fun a U g mk q => by obtain ⟨q0, q1, qP, qK, qD⟩ := q; exact ⟨q0, q1, qP, va_K.moved (u := U) (U := U.calling g mk a) (Vm.Alike.refl U.vm) qK, qD⟩, va_recv hKc hPc (ci := 11) (q0 := 0) rfl rfl, fun U hU9 hW => ⟨rfl, by rw [hU9], by rw [hU9]; exact hPc, va_K.moved hW.alike hKc, hDc.weaken (fun _ _ _ _ => trivial)⟩⟩ rfl rfl hl.1 rfl (lv_room (Nat.le_of_ble_eq_true rfl)) dL_law_243 ⟨by decide +kernel, by decide +kernel⟩) hS (fun q _ h => hFc q h) hFc (fun u t H1 locs ht hvm hw hB hz1 hk1 hS => ?_)
  obtain ⟨hP1, hK1, hD1⟩ := hB
  rw [ht] at hP1
  have hK1 := va_K.moved hvm.symm hK1
  obtain ⟨hP, hD⟩ := va_join (wr := [(h2, .inr (12, fM (vM av))), ((av 77), .inl ((kv 77), 20, .inl (fun _ => 0))), (o, .inl (kO, 1, .inr (.inl (fun _ => 0))))]) (w1 := []) hP hD [0, 1] [2, 3, 4] rfl rfl (by decide) (by decide) hk1 hFc hP1 hD1
  generalize H1 = H at hP hS ⊢
  have hP : va_P (dC, dI) vwCl [(h2, .inr (12, fM (vM av))), ((av 77), .inl ((kv 77), 20, .inl (fun _ => 0))), (o, .inl (kO, 1, .inr (.inl (fun _ => 0))))] H := hP
  have hD : va_D A [(h2, .inr (12, fM (vM av))), ((av 77), .inl ((kv 77), 20, .inl (fun _ => 0))), (o, .inl (kO, 1, .inr (.inl (fun _ => 0))))] := hD
  refine lv_aload_n hx hb dL_law_246 rfl (lv_at hl 2 rfl) ?_
  refine lv_aload_n hx hb dL_law_247 rfl (lv_at hl 4 rfl) ?_
  refine lv_iload hx hb dL_law_248 (lv_at hl 0 rfl) ?_
  refine lv_iconst (v := 1) hx hb dL_law_250 (by decide) ?_
  refine lv_iadd hx hb dL_law_251 ?_
  refine lv_topi (fun y11 hy11 => ?_)
  obtain rfl : 1 = y11 := (hy11.trans (by decide)).symm
  refine va_sld hx hb hX hbl hbA hS (show ¬ ((1 : Int32) < 0 ∨ 6 ≤ (1 : Int32).toNatClampNeg) by decide) dL_law_252 ?_
  refine lv_topi (fun y12 hy12 => ?_)
  obtain rfl : (xs 1) = y12 := (hy12.trans (rfl)).symm
  refine lv_aload_n hx hb dL_law_253 rfl (lv_at hl 4 rfl) ?_
  refine lv_iload hx hb dL_law_254 (lv_at hl 0 rfl) ?_
  refine lv_iconst (v := 2) hx hb dL_law_256 (by decide) ?_
  refine lv_iadd hx hb dL_law_257 ?_
  refine lv_topi (fun y13 hy13 => ?_)
  obtain rfl : 2 = y13 := (hy13.trans (by decide)).symm
  refine va_sld hx hb hX hbl hbA hS (show ¬ ((2 : Int32) < 0 ∨ 6 ≤ (2 : Int32).toNatClampNeg) by decide) dL_law_258 ?_
  refine lv_topi (fun y14 hy14 => ?_)
  obtain rfl : (xs 2) = y14 := (hy14.trans (rfl)).symm
  refine lv_aload_n hx hb dL_law_259 rfl (lv_at hl 4 rfl) ?_
  refine lv_iload hx hb dL_law_260 (lv_at hl 0 rfl) ?_
  refine lv_iconst (v := 3) hx hb dL_law_262 (by decide) ?_
  refine lv_iadd hx hb dL_law_263 ?_
  refine lv_topi (fun y15 hy15 => ?_)
  obtain rfl : 3 = y15 := (hy15.trans (by decide)).symm
  refine va_sld hx hb hX hbl hbA hS (show ¬ ((3 : Int32) < 0 ∨ 6 ≤ (3 : Int32).toNatClampNeg) by decide) dL_law_264 ?_
  refine lv_topi (fun y16 hy16 => ?_)
  obtain rfl : (xs 3) = y16 := (hy16.trans (rfl)).symm
  refine lv_aload_n hx hb dL_law_265 rfl (lv_at hl 4 rfl) ?_
  refine lv_iload hx hb dL_law_266 (lv_at hl 0 rfl) ?_
  refine lv_iconst (v := 4) hx hb dL_law_268 (by decide) ?_
  refine lv_iadd hx hb dL_law_269 ?_
  refine lv_topi (fun y17 hy17 => ?_)
  obtain rfl : 4 = y17 := (hy17.trans (by decide)).symm
  refine va_sld hx hb hX hbl hbA hS (show ¬ ((4 : Int32) < 0 ∨ 6 ≤ (4 : Int32).toNatClampNeg) by decide) dL_law_270 ?_
  refine lv_topi (fun y18 hy18 => ?_)
  obtain rfl : (xs 4) = y18 := (hy18.trans (rfl)).symm
  refine lv_aload_n hx hb dL_law_271 rfl (lv_at hl 4 rfl) ?_
  refine lv_iload hx hb dL_law_272 (lv_at hl 0 rfl) ?_
  refine lv_iconst (v := 5) hx hb dL_law_274 (by decide) ?_
  refine lv_iadd hx hb dL_law_275 ?_
  refine lv_topi (fun y19 hy19 => ?_)
  obtain rfl : 5 = y19 := (hy19.trans (by decide)).symm
  refine va_sld hx hb hX hbl hbA hS (show ¬ ((5 : Int32) < 0 ∨ 6 ≤ (5 : Int32).toNatClampNeg) by decide) dL_law_276 ?_
  refine lv_topi (fun y20 hy20 => ?_)
  obtain rfl : (xs 5) = y20 := (hy20.trans (rfl)).symm
  have hPc := hP.sub (ws' := [(h2, .inr (12, fM (vM av))), ((av 77), .inl ((kv 77), 20, .inl (fun _ => 0)))]) [0, 1] rfl
  have hDc := hD.sub (ws' := [(h2, .inr (12, fM (vM av))), ((av 77), .inl ((kv 77), 20, .inl (fun _ => 0)))]) [0, 1] (by decide) rfl
  have hKc := hK.sub (tys' := [((kv 77), .int)]) [1] rfl
  have hFc := va_free (wc := [(h2, .inr (12, fM (vM av))), ((av 77), .inl ((kv 77), 20, .inl (fun _ => 0)))]) hD hS hA [0, 1] rfl
  refine va_callv (va_runV (As := [.int (xs 1), .int (xs 2), .int (xs 3), .int (xs 4), .int (xs 5)]) (rest := []) ⟨hx, hb, hml, hown, hts⟩ (p_X12_feed l dC dI h2 (vM av) (av 77) (rfl) (kv 77) (fun _ => 0) (xs 1) (xs 2) (xs 3) (xs 4) (xs 5) H.size) (cwV 5 hts glaw0_1 rfl rfl rfl (by decide +kernel) ⟨by decide +kernel, by decide +kernel⟩) ⟨fun a U g mk q => by obtain ⟨q0, q1, qP, qK, qD⟩ := q; exact ⟨q0, q1, qP, va_K.moved (u := U) (U := U.calling g mk a) (Vm.Alike.refl U.vm) qK, qD⟩, va_recv hKc hPc (ci := 12) (q0 := 0) rfl rfl, fun U hU9 hW => ⟨rfl, by rw [hU9], by rw [hU9]; exact hPc, va_K.moved hW.alike hKc, hDc.weaken (fun _ _ _ _ => trivial)⟩⟩ rfl rfl hl.1 rfl (lv_room (Nat.le_of_ble_eq_true rfl)) dL_law_277 ⟨by decide +kernel, by decide +kernel⟩) hS (fun q _ h => hFc q h) hFc (fun u t H1 locs ht hvm hw hB hz1 hk1 hS => ?_)
  obtain ⟨w277, hwit277⟩ : ∃ w9, w9 = u := ⟨u, rfl⟩
  subst hwit277
  obtain ⟨hP1, hK1, hD1⟩ := hB
  rw [ht] at hP1
  have hK1 := va_K.moved hvm.symm hK1
  obtain ⟨hP, hD⟩ := va_join (wr := [(o, .inl (kO, 1, .inr (.inl (fun _ => 0))))]) (w1 := [(h2, .inr (12, fM w277))]) hP hD [0, 1] [2] rfl rfl (by decide) (by decide) hk1 hFc hP1 hD1
  generalize H1 = H at hP hS ⊢
  have hP : va_P (dC, dI) vwCl [(o, .inl (kO, 1, .inr (.inl (fun _ => 0)))), (h2, .inr (12, fM w277))] H := hP
  have hD : va_D A [(o, .inl (kO, 1, .inr (.inl (fun _ => 0)))), (h2, .inr (12, fM w277))] := hD
  have f277_0 := hw
  try dsimp only at f277_0
  refine lv_goto (tgt := 2131) hx hb dL_law_280 (by decide) ?_
  refine lv_iinc (v := 6) (lv' := [(4, .int 6), (3, .ref o), (2, .ref h2), (1, .ref h1), (0, .ref b)]) hx hb dL_law_2131 hl (k := 0) rfl (by decide) (by decide) rfl (fun ls hl => ?_)
  refine lv_goto (tgt := 23) hx hb dL_law_2134 (by decide) ?_
  refine lv_iload hx hb dL_law_23 (lv_at hl 0 rfl) ?_
  refine lv_aload_n hx hb dL_law_25 rfl (lv_at hl 4 rfl) ?_
  refine va_slen hx hb hX hbl hbA hS dL_law_26 ?_
  refine lv_topi (fun y21 hy21 => ?_)
  obtain rfl : 6 = y21 := (hy21.trans (rfl)).symm
  refine lv_bipush (v := 6) hx hb dL_law_27 (by decide) ?_
  refine lv_isub hx hb dL_law_29 ?_
  refine lv_topi (fun y22 hy22 => ?_)
  obtain rfl : 0 = y22 := (hy22.trans (by decide)).symm
  refine lv_icmp_gt (tgt := 2137) hx hb dL_law_30 (by decide) (fun _ => ?_) (fun c9 => absurd (by decide) c9)
  refine lv_iconst (v := 1) hx hb dL_law_2137 (by decide) ?_
  refine W.widen (k := 600002) (n := 7302232) (by decide +kernel) (by decide +kernel) ?_
  refine va_forget (fun q hq => hA2 _ (hS.2.2 q hq)) ?_
  exact lw_ret hx hb hr hlocks dL_law_2138
theorem dL_law_283 : decode cL_law 283 = .ok (.aload_n 1, 1) := by decide +kernel
theorem dL_law_284 : decode cL_law 284 = .ok (.aload_n 0, 1) := by decide +kernel
theorem dL_law_285 : decode cL_law 285 = .ok (.iload 4, 2) := by decide +kernel
theorem dL_law_287 : decode cL_law 287 = .ok (.iconst 1, 1) := by decide +kernel
theorem dL_law_288 : decode cL_law 288 = .ok (.iadd, 1) := by decide +kernel
theorem dL_law_289 : decode cL_law 289 = .ok (.iaload, 1) := by decide +kernel
theorem dL_law_290 : decode cL_law 290 = .ok (.invokevirtual 97, 3) := by decide +kernel
theorem dL_law_293 : decode cL_law 293 = .ok (.aload_n 2, 1) := by decide +kernel
theorem dL_law_294 : decode cL_law 294 = .ok (.aload_n 0, 1) := by decide +kernel
theorem dL_law_295 : decode cL_law 295 = .ok (.iload 4, 2) := by decide +kernel
theorem dL_law_297 : decode cL_law 297 = .ok (.iconst 1, 1) := by decide +kernel
theorem dL_law_298 : decode cL_law 298 = .ok (.iadd, 1) := by decide +kernel
theorem dL_law_299 : decode cL_law 299 = .ok (.iaload, 1) := by decide +kernel
theorem dL_law_300 : decode cL_law 300 = .ok (.invokevirtual 100, 3) := by decide +kernel
theorem dL_law_303 : decode cL_law 303 = .ok (.if_icmp .eq 1828, 3) := by decide +kernel
theorem dL_law_306 : decode cL_law 306 = .ok (.iconst 0, 1) := by decide +kernel
theorem dL_law_307 : decode cL_law 307 = .ok (.ireturn, 1) := by decide +kernel
theorem glaw1_0 : GoodIn lw_tbl (wsV RL 97 RX11 yX11_end wsPX11_end) := goodIn_sub ((List.forall_mem_append.mpr ⟨(mem_p ([.methodLink RL 97 yX11_end, .instanceMethod yX11_end, .selects RX11 yX11_end yX11_end, .initialized RX11] : List Cond) [(1, 226), (1, 227), (1, 228), (1, 1)] (by decide +kernel)), ml_wsPX11_end⟩ : ∀ w ∈ wsV RL 97 RX11 yX11_end wsPX11_end, w ∈ lw_tbl)) (by decide +kernel)
theorem glaw1_1 : GoodIn lw_tbl (wsV RL 100 RX12 yX12_end wsPX12_end) := goodIn_sub ((List.forall_mem_append.mpr ⟨(mem_p ([.methodLink RL 100 yX12_end, .instanceMethod yX12_end, .selects RX12 yX12_end yX12_end, .initialized RX12] : List Cond) [(15, 64), (15, 65), (15, 66), (1, 4)] (by decide +kernel)), ml_wsPX12_end⟩ : ∀ w ∈ wsV RL 100 RX12 yX12_end wsPX12_end, w ∈ lw_tbl)) (by decide +kernel)
set_option maxHeartbeats 4000000 in
set_option maxRecDepth 100000 in
/-- the law's case 1: end -/
theorem lc_1 {p : Program} {e : Env} {s : State} {m : MethodId} {below : List Frame} {meth : Method} {c : Code} (l : Launch) (hst : l.stackTraces = false) {b : Nat} {xs : Nat → Int32} (C0 : lw_At p s m meth c b 6 xs) {A : Nat → Prop} (hA : ∀ q : Nat, s.heap.size ≤ q → A q) (hA2 : ∀ q : Nat, A q → s.heap.size ≤ q) (X0 : lx_ok A s) (dC : Nat → ClassId) (dI : Nat → Nat → Nat) {h1 h2 o : Nat} {a : Nat → Nat} {k : Nat → ClassId} {av : Nat → Nat} {kv : Nat → ClassId} {kO : ClassId} {H : Heap} {locs : List Loc} {ls : Array Slot} (hK : va_K (dC, dI) vwCl [((k 1), .byte), ((k 0), .int), ((kv 9), .byte), ((kv 77), .int), (kO, .long)] s) (hP : va_P (dC, dI) vwCl [(h1, .inr (11, [.ref (a 0), .ref (a 1), .ref (a 3), .ref (a 14), .int 0, .null, .null, .null, .null, .null, .null])), ((a 1), .inr (9, [.ref (a 2), .int 0, .int 0, .int (-1), .int 0, .int 0, .int 0, .long 0, .int 0])), ((a 2), .inl ((k 1), 64, .inl (fun _ => 0))), ((a 0), .inl ((k 0), 5, .inl (fun _ => 0))), (h2, .inr (12, fM (vM av))), ((av 9), .inl ((kv 9), 4000, .inl (fun _ => 0))), ((av 77), .inl ((kv 77), 20, .inl (fun _ => 0))), (o, .inl (kO, 1, .inr (.inl (fun _ => 0))))] H) (hD : va_D A [(h1, .inr (11, [.ref (a 0), .ref (a 1), .ref (a 3), .ref (a 14), .int 0, .null, .null, .null, .null, .null, .null])), ((a 1), .inr (9, [.ref (a 2), .int 0, .int 0, .int (-1), .int 0, .int 0, .int 0, .long 0, .int 0])), ((a 2), .inl ((k 1), 64, .inl (fun _ => 0))), ((a 0), .inl ((k 0), 5, .inl (fun _ => 0))), (h2, .inr (12, fM (vM av))), ((av 9), .inl ((kv 9), 4000, .inl (fun _ => 0))), ((av 77), .inl ((kv 77), 20, .inl (fun _ => 0))), (o, .inl (kO, 1, .inr (.inl (fun _ => 0))))]) (hS : va_S A s.heap H locs) (hl : lv_has ls 7 [(4, .int 0), (3, .ref o), (2, .ref h2), (1, .ref h1), (0, .ref b)]) : W p l e room_1 s m #[Value.ref b] below meth c H locs 125 181434 (lw_Z below #[Value.ref b] s) (F0 m 283 ls []) := by
  obtain ⟨hx, hb, hr, hml, hown, hts, hX, hbl, hlocks, hgv⟩ := id C0
  have hb : c.code = cL_law := hb
  have hown : s.vm.findClass RL = some m.cls := hown
  obtain ⟨hU, hN, hnX11_343, hnX11_392, hnX11_421, hncAI, hngX11_161, hngX11_79, hngX11_95⟩ := X0
  have hbA : ¬ A b := fun h => absurd (hA2 b h) (Nat.not_le.mpr hbl)
  refine lv_aload_n hx hb dL_law_283 rfl (lv_at hl 3 rfl) ?_
  refine lv_aload_n hx hb dL_law_284 rfl (lv_at hl 4 rfl) ?_
  refine lv_iload hx hb dL_law_285 (lv_at hl 0 rfl) ?_
  refine lv_iconst (v := 1) hx hb dL_law_287 (by decide) ?_
  refine lv_iadd hx hb dL_law_288 ?_
  refine lv_topi (fun y1 hy1 => ?_)
  obtain rfl : 1 = y1 := (hy1.trans (by decide)).symm
  refine va_sld hx hb hX hbl hbA hS (show ¬ ((1 : Int32) < 0 ∨ 6 ≤ (1 : Int32).toNatClampNeg) by decide) dL_law_289 ?_
  refine lv_topi (fun y2 hy2 => ?_)
  obtain rfl : (xs 1) = y2 := (hy2.trans (rfl)).symm
  have hPc := hP.sub (ws' := [(h1, .inr (11, [.ref (a 0), .ref (a 1), .ref (a 3), .ref (a 14), .int 0, .null, .null, .null, .null, .null, .null])), ((a 1), .inr (9, [.ref (a 2), .int 0, .int 0, .int (-1), .int 0, .int 0, .int 0, .long 0, .int 0])), ((a 2), .inl ((k 1), 64, .inl (fun _ => 0))), ((a 0), .inl ((k 0), 5, .inl (fun _ => 0)))]) [0, 1, 2, 3] rfl
  have hDc := hD.sub (ws' := [(h1, .inr (11, [.ref (a 0), .ref (a 1), .ref (a 3), .ref (a 14), .int 0, .null, .null, .null, .null, .null, .null])), ((a 1), .inr (9, [.ref (a 2), .int 0, .int 0, .int (-1), .int 0, .int 0, .int 0, .long 0, .int 0])), ((a 2), .inl ((k 1), 64, .inl (fun _ => 0))), ((a 0), .inl ((k 0), 5, .inl (fun _ => 0)))]) [0, 1, 2, 3] (by decide) rfl
  have hKc := hK.sub (tys' := [((k 1), .byte), ((k 0), .int)]) [0, 1] rfl
  have hFc := va_free (wc := [(h1, .inr (11, [.ref (a 0), .ref (a 1), .ref (a 3), .ref (a 14), .int 0, .null, .null, .null, .null, .null, .null])), ((a 1), .inr (9, [.ref (a 2), .int 0, .int 0, .int (-1), .int 0, .int 0, .int 0, .long 0, .int 0])), ((a 2), .inl ((k 1), 64, .inl (fun _ => 0))), ((a 0), .inl ((k 0), 5, .inl (fun _ => 0)))]) hD hS hA [0, 1, 2, 3] rfl
  refine va_calli (va_runV (As := [.int (xs 1)]) (rest := []) ⟨hx, hb, hml, hown, hts⟩ (p_X11_end l dC dI h1 a k (xs 1) H.size) (cwV 1 hts glaw1_0 rfl rfl rfl (by decide +kernel) ⟨by decide +kernel, by decide +kernel⟩) ⟨fun a U g mk q => by obtain ⟨q0, q1, qP, qK, qD⟩ := q; exact ⟨q0, q1, qP, va_K.moved (u := U) (U := U.calling g mk a) (Vm.Alike.refl U.vm) qK, qD⟩, va_recv hKc hPc (ci := 11) (q0 := 0) rfl rfl, fun U hU9 hW => ⟨rfl, by rw [hU9], by rw [hU9]; exact hPc, va_K.moved hW.alike hKc, hDc.weaken (fun _ _ _ _ => trivial)⟩⟩ rfl rfl hl.1 rfl (lv_room (Nat.le_of_ble_eq_true rfl)) dL_law_290 ⟨by decide +kernel, by decide +kernel⟩) hS (fun q _ h => hFc q h) hFc (fun r290 u t H1 locs ht hvm hw hB hz1 hk1 hS => ?_)
  obtain ⟨hP1, hK1, hD1⟩ := hB
  rw [ht] at hP1
  have hK1 := va_K.moved hvm.symm hK1
  obtain ⟨hP, hD⟩ := va_join (wr := [(h2, .inr (12, fM (vM av))), ((av 9), .inl ((kv 9), 4000, .inl (fun _ => 0))), ((av 77), .inl ((kv 77), 20, .inl (fun _ => 0))), (o, .inl (kO, 1, .inr (.inl (fun _ => 0))))]) (w1 := []) hP hD [0, 1, 2, 3] [4, 5, 6, 7] rfl rfl (by decide) (by decide) hk1 hFc hP1 hD1
  generalize H1 = H at hP hS ⊢
  have hP : va_P (dC, dI) vwCl [(h2, .inr (12, fM (vM av))), ((av 9), .inl ((kv 9), 4000, .inl (fun _ => 0))), ((av 77), .inl ((kv 77), 20, .inl (fun _ => 0))), (o, .inl (kO, 1, .inr (.inl (fun _ => 0))))] H := hP
  have hD : va_D A [(h2, .inr (12, fM (vM av))), ((av 9), .inl ((kv 9), 4000, .inl (fun _ => 0))), ((av 77), .inl ((kv 77), 20, .inl (fun _ => 0))), (o, .inl (kO, 1, .inr (.inl (fun _ => 0))))] := hD
  rcases hw with ⟨rfl, f290_0⟩ | ⟨f290_0, f290_1⟩
  · refine lv_aload_n hx hb dL_law_293 rfl (lv_at hl 2 rfl) ?_
    refine lv_aload_n hx hb dL_law_294 rfl (lv_at hl 4 rfl) ?_
    refine lv_iload hx hb dL_law_295 (lv_at hl 0 rfl) ?_
    refine lv_iconst (v := 1) hx hb dL_law_297 (by decide) ?_
    refine lv_iadd hx hb dL_law_298 ?_
    refine lv_topi (fun y3 hy3 => ?_)
    obtain rfl : 1 = y3 := (hy3.trans (by decide)).symm
    refine va_sld hx hb hX hbl hbA hS (show ¬ ((1 : Int32) < 0 ∨ 6 ≤ (1 : Int32).toNatClampNeg) by decide) dL_law_299 ?_
    refine lv_topi (fun y4 hy4 => ?_)
    obtain rfl : (xs 1) = y4 := (hy4.trans (rfl)).symm
    have hPc := hP.sub (ws' := [(h2, .inr (12, fM (vM av))), ((av 9), .inl ((kv 9), 4000, .inl (fun _ => 0))), ((av 77), .inl ((kv 77), 20, .inl (fun _ => 0)))]) [0, 1, 2] rfl
    have hDc := hD.sub (ws' := [(h2, .inr (12, fM (vM av))), ((av 9), .inl ((kv 9), 4000, .inl (fun _ => 0))), ((av 77), .inl ((kv 77), 20, .inl (fun _ => 0)))]) [0, 1, 2] (by decide) rfl
    have hKc := hK.sub (tys' := [((kv 9), .byte), ((kv 77), .int)]) [2, 3] rfl
    have hFc := va_free (wc := [(h2, .inr (12, fM (vM av))), ((av 9), .inl ((kv 9), 4000, .inl (fun _ => 0))), ((av 77), .inl ((kv 77), 20, .inl (fun _ => 0)))]) hD hS hA [0, 1, 2] rfl
    refine va_calli (va_runV (As := [.int (xs 1)]) (rest := [.int (-1)]) ⟨hx, hb, hml, hown, hts⟩ (p_X12_end l dC dI h2 (vM av) (rfl) (av 9) (rfl) (kv 9) (fun _ => 0) (av 77) (rfl) (kv 77) (fun _ => 0) (xs 1) H.size) (cwV 1 hts glaw1_1 rfl rfl rfl (by decide +kernel) ⟨by decide +kernel, by decide +kernel⟩) ⟨fun a U g mk q => by obtain ⟨q0, q1, qP, qK, qD⟩ := q; exact ⟨q0, q1, qP, va_K.moved (u := U) (U := U.calling g mk a) (Vm.Alike.refl U.vm) qK, qD⟩, va_recv hKc hPc (ci := 12) (q0 := 0) rfl rfl, fun U hU9 hW => ⟨rfl, by rw [hU9], by rw [hU9]; exact hPc, va_K.moved hW.alike hKc, hDc.weaken (fun _ _ _ _ => trivial)⟩⟩ rfl rfl hl.1 rfl (lv_room (Nat.le_of_ble_eq_true rfl)) dL_law_300 ⟨by decide +kernel, by decide +kernel⟩) hS (fun q _ h => hFc q h) hFc (fun r300 u t H1 locs ht hvm hw hB hz1 hk1 hS => ?_)
    obtain ⟨w300, hwit300⟩ : ∃ w9, w9 = u := ⟨u, rfl⟩
    subst hwit300
    obtain ⟨hP1, hK1, hD1⟩ := hB
    rw [ht] at hP1
    have hK1 := va_K.moved hvm.symm hK1
    obtain ⟨hP, hD⟩ := va_join (wr := [(o, .inl (kO, 1, .inr (.inl (fun _ => 0))))]) (w1 := [(h2, .inr (12, fM w300))]) hP hD [0, 1, 2] [3] rfl rfl (by decide) (by decide) hk1 hFc hP1 hD1
    generalize H1 = H at hP hS ⊢
    have hP : va_P (dC, dI) vwCl [(o, .inl (kO, 1, .inr (.inl (fun _ => 0)))), (h2, .inr (12, fM w300))] H := hP
    have hD : va_D A [(o, .inl (kO, 1, .inr (.inl (fun _ => 0)))), (h2, .inr (12, fM w300))] := hD
    rcases hw with ⟨rfl, f300_0, f300_1⟩ | ⟨f300_0, f300_1, f300_2⟩
    · refine lv_icmp_eq (tgt := 2131) hx hb dL_law_303 (by decide) (fun _ => ?_) (fun c9 => absurd (by decide) c9)
      refine lv_iinc (v := 6) (lv' := [(4, .int 6), (3, .ref o), (2, .ref h2), (1, .ref h1), (0, .ref b)]) hx hb dL_law_2131 hl (k := 0) rfl (by decide) (by decide) rfl (fun ls hl => ?_)
      refine lv_goto (tgt := 23) hx hb dL_law_2134 (by decide) ?_
      refine lv_iload hx hb dL_law_23 (lv_at hl 0 rfl) ?_
      refine lv_aload_n hx hb dL_law_25 rfl (lv_at hl 4 rfl) ?_
      refine va_slen hx hb hX hbl hbA hS dL_law_26 ?_
      refine lv_topi (fun y5 hy5 => ?_)
      obtain rfl : 6 = y5 := (hy5.trans (rfl)).symm
      refine lv_bipush (v := 6) hx hb dL_law_27 (by decide) ?_
      refine lv_isub hx hb dL_law_29 ?_
      refine lv_topi (fun y6 hy6 => ?_)
      obtain rfl : 0 = y6 := (hy6.trans (by decide)).symm
      refine lv_icmp_gt (tgt := 2137) hx hb dL_law_30 (by decide) (fun _ => ?_) (fun c9 => absurd (by decide) c9)
      refine lv_iconst (v := 1) hx hb dL_law_2137 (by decide) ?_
      refine W.widen (k := 600002) (n := 7302232) (by decide +kernel) (by decide +kernel) ?_
      refine va_forget (fun q hq => hA2 _ (hS.2.2 q hq)) ?_
      exact lw_ret hx hb hr hlocks dL_law_2138
    · refine lv_icmp_eq (tgt := 2131) hx hb dL_law_303 (by decide) (fun c_303 => ?_) (fun c_303 => ?_)
      · have t_303 : -1 = (r300).toInt := toI_eq c_303 (by decide) rfl
        refine lv_iinc (v := 6) (lv' := [(4, .int 6), (3, .ref o), (2, .ref h2), (1, .ref h1), (0, .ref b)]) hx hb dL_law_2131 hl (k := 0) rfl (by decide) (by decide) rfl (fun ls hl => ?_)
        refine lv_goto (tgt := 23) hx hb dL_law_2134 (by decide) ?_
        refine lv_iload hx hb dL_law_23 (lv_at hl 0 rfl) ?_
        refine lv_aload_n hx hb dL_law_25 rfl (lv_at hl 4 rfl) ?_
        refine va_slen hx hb hX hbl hbA hS dL_law_26 ?_
        refine lv_topi (fun y7 hy7 => ?_)
        obtain rfl : 6 = y7 := (hy7.trans (rfl)).symm
        refine lv_bipush (v := 6) hx hb dL_law_27 (by decide) ?_
        refine lv_isub hx hb dL_law_29 ?_
        refine lv_topi (fun y8 hy8 => ?_)
        obtain rfl : 0 = y8 := (hy8.trans (by decide)).symm
        refine lv_icmp_gt (tgt := 2137) hx hb dL_law_30 (by decide) (fun _ => ?_) (fun c9 => absurd (by decide) c9)
        refine lv_iconst (v := 1) hx hb dL_law_2137 (by decide) ?_
        refine W.widen (k := 600002) (n := 7302232) (by decide +kernel) (by decide +kernel) ?_
        refine va_forget (fun q hq => hA2 _ (hS.2.2 q hq)) ?_
        exact lw_ret hx hb hr hlocks dL_law_2138
      · have t_303 : ¬ -1 = (r300).toInt := toI_neq c_303 (by decide) rfl
        refine lv_iconst (v := 0) hx hb dL_law_306 (by decide) ?_
        refine W.widen (k := 600002) (n := 7302232) (by decide +kernel) (by decide +kernel) ?_
        exact False.elim (by omega)
  · refine lv_aload_n hx hb dL_law_293 rfl (lv_at hl 2 rfl) ?_
    refine lv_aload_n hx hb dL_law_294 rfl (lv_at hl 4 rfl) ?_
    refine lv_iload hx hb dL_law_295 (lv_at hl 0 rfl) ?_
    refine lv_iconst (v := 1) hx hb dL_law_297 (by decide) ?_
    refine lv_iadd hx hb dL_law_298 ?_
    refine lv_topi (fun y9 hy9 => ?_)
    obtain rfl : 1 = y9 := (hy9.trans (by decide)).symm
    refine va_sld hx hb hX hbl hbA hS (show ¬ ((1 : Int32) < 0 ∨ 6 ≤ (1 : Int32).toNatClampNeg) by decide) dL_law_299 ?_
    refine lv_topi (fun y10 hy10 => ?_)
    obtain rfl : (xs 1) = y10 := (hy10.trans (rfl)).symm
    have hPc := hP.sub (ws' := [(h2, .inr (12, fM (vM av))), ((av 9), .inl ((kv 9), 4000, .inl (fun _ => 0))), ((av 77), .inl ((kv 77), 20, .inl (fun _ => 0)))]) [0, 1, 2] rfl
    have hDc := hD.sub (ws' := [(h2, .inr (12, fM (vM av))), ((av 9), .inl ((kv 9), 4000, .inl (fun _ => 0))), ((av 77), .inl ((kv 77), 20, .inl (fun _ => 0)))]) [0, 1, 2] (by decide) rfl
    have hKc := hK.sub (tys' := [((kv 9), .byte), ((kv 77), .int)]) [2, 3] rfl
    have hFc := va_free (wc := [(h2, .inr (12, fM (vM av))), ((av 9), .inl ((kv 9), 4000, .inl (fun _ => 0))), ((av 77), .inl ((kv 77), 20, .inl (fun _ => 0)))]) hD hS hA [0, 1, 2] rfl
    refine va_calli (va_runV (As := [.int (xs 1)]) (rest := [.int r290]) ⟨hx, hb, hml, hown, hts⟩ (p_X12_end l dC dI h2 (vM av) (rfl) (av 9) (rfl) (kv 9) (fun _ => 0) (av 77) (rfl) (kv 77) (fun _ => 0) (xs 1) H.size) (cwV 1 hts glaw1_1 rfl rfl rfl (by decide +kernel) ⟨by decide +kernel, by decide +kernel⟩) ⟨fun a U g mk q => by obtain ⟨q0, q1, qP, qK, qD⟩ := q; exact ⟨q0, q1, qP, va_K.moved (u := U) (U := U.calling g mk a) (Vm.Alike.refl U.vm) qK, qD⟩, va_recv hKc hPc (ci := 12) (q0 := 0) rfl rfl, fun U hU9 hW => ⟨rfl, by rw [hU9], by rw [hU9]; exact hPc, va_K.moved hW.alike hKc, hDc.weaken (fun _ _ _ _ => trivial)⟩⟩ rfl rfl hl.1 rfl (lv_room (Nat.le_of_ble_eq_true rfl)) dL_law_300 ⟨by decide +kernel, by decide +kernel⟩) hS (fun q _ h => hFc q h) hFc (fun r300_1 u t H1 locs ht hvm hw hB hz1 hk1 hS => ?_)
    obtain ⟨w300_1, hwit300_1⟩ : ∃ w9, w9 = u := ⟨u, rfl⟩
    subst hwit300_1
    obtain ⟨hP1, hK1, hD1⟩ := hB
    rw [ht] at hP1
    have hK1 := va_K.moved hvm.symm hK1
    obtain ⟨hP, hD⟩ := va_join (wr := [(o, .inl (kO, 1, .inr (.inl (fun _ => 0))))]) (w1 := [(h2, .inr (12, fM w300_1))]) hP hD [0, 1, 2] [3] rfl rfl (by decide) (by decide) hk1 hFc hP1 hD1
    generalize H1 = H at hP hS ⊢
    have hP : va_P (dC, dI) vwCl [(o, .inl (kO, 1, .inr (.inl (fun _ => 0)))), (h2, .inr (12, fM w300_1))] H := hP
    have hD : va_D A [(o, .inl (kO, 1, .inr (.inl (fun _ => 0)))), (h2, .inr (12, fM w300_1))] := hD
    rcases hw with ⟨rfl, f300_1_0, f300_1_1⟩ | ⟨f300_1_0, f300_1_1, f300_1_2⟩
    · refine lv_icmp_eq (tgt := 2131) hx hb dL_law_303 (by decide) (fun c_303 => ?_) (fun c_303 => ?_)
      · have t_303 : (r290).toInt = -1 := toI_eq c_303 rfl (by decide)
        refine lv_iinc (v := 6) (lv' := [(4, .int 6), (3, .ref o), (2, .ref h2), (1, .ref h1), (0, .ref b)]) hx hb dL_law_2131 hl (k := 0) rfl (by decide) (by decide) rfl (fun ls hl => ?_)
        refine lv_goto (tgt := 23) hx hb dL_law_2134 (by decide) ?_
        refine lv_iload hx hb dL_law_23 (lv_at hl 0 rfl) ?_
        refine lv_aload_n hx hb dL_law_25 rfl (lv_at hl 4 rfl) ?_
        refine va_slen hx hb hX hbl hbA hS dL_law_26 ?_
        refine lv_topi (fun y11 hy11 => ?_)
        obtain rfl : 6 = y11 := (hy11.trans (rfl)).symm
        refine lv_bipush (v := 6) hx hb dL_law_27 (by decide) ?_
        refine lv_isub hx hb dL_law_29 ?_
        refine lv_topi (fun y12 hy12 => ?_)
        obtain rfl : 0 = y12 := (hy12.trans (by decide)).symm
        refine lv_icmp_gt (tgt := 2137) hx hb dL_law_30 (by decide) (fun _ => ?_) (fun c9 => absurd (by decide) c9)
        refine lv_iconst (v := 1) hx hb dL_law_2137 (by decide) ?_
        refine W.widen (k := 600002) (n := 7302232) (by decide +kernel) (by decide +kernel) ?_
        refine va_forget (fun q hq => hA2 _ (hS.2.2 q hq)) ?_
        exact lw_ret hx hb hr hlocks dL_law_2138
      · have t_303 : ¬ (r290).toInt = -1 := toI_neq c_303 rfl (by decide)
        refine lv_iconst (v := 0) hx hb dL_law_306 (by decide) ?_
        refine W.widen (k := 600002) (n := 7302232) (by decide +kernel) (by decide +kernel) ?_
        exact False.elim (by omega)
    · refine lv_icmp_eq (tgt := 2131) hx hb dL_law_303 (by decide) (fun c_303 => ?_) (fun c_303 => ?_)
      · have t_303 : (r290).toInt = (r300_1).toInt := toI_eq c_303 rfl rfl
        refine lv_iinc (v := 6) (lv' := [(4, .int 6), (3, .ref o), (2, .ref h2), (1, .ref h1), (0, .ref b)]) hx hb dL_law_2131 hl (k := 0) rfl (by decide) (by decide) rfl (fun ls hl => ?_)
        refine lv_goto (tgt := 23) hx hb dL_law_2134 (by decide) ?_
        refine lv_iload hx hb dL_law_23 (lv_at hl 0 rfl) ?_
        refine lv_aload_n hx hb dL_law_25 rfl (lv_at hl 4 rfl) ?_
        refine va_slen hx hb hX hbl hbA hS dL_law_26 ?_
        refine lv_topi (fun y13 hy13 => ?_)
        obtain rfl : 6 = y13 := (hy13.trans (rfl)).symm
        refine lv_bipush (v := 6) hx hb dL_law_27 (by decide) ?_
        refine lv_isub hx hb dL_law_29 ?_
        refine lv_topi (fun y14 hy14 => ?_)
        obtain rfl : 0 = y14 := (hy14.trans (by decide)).symm
        refine lv_icmp_gt (tgt := 2137) hx hb dL_law_30 (by decide) (fun _ => ?_) (fun c9 => absurd (by decide) c9)
        refine lv_iconst (v := 1) hx hb dL_law_2137 (by decide) ?_
        refine W.widen (k := 600002) (n := 7302232) (by decide +kernel) (by decide +kernel) ?_
        refine va_forget (fun q hq => hA2 _ (hS.2.2 q hq)) ?_
        exact lw_ret hx hb hr hlocks dL_law_2138
      · have t_303 : ¬ (r290).toInt = (r300_1).toInt := toI_neq c_303 rfl rfl
        refine lv_iconst (v := 0) hx hb dL_law_306 (by decide) ?_
        refine W.widen (k := 600002) (n := 7302232) (by decide +kernel) (by decide +kernel) ?_
        exact False.elim (by omega)
theorem dL_law_308 : decode cL_law 308 = .ok (.aload_n 1, 1) := by decide +kernel
theorem dL_law_309 : decode cL_law 309 = .ok (.invokevirtual 101, 3) := by decide +kernel
theorem dL_law_312 : decode cL_law 312 = .ok (.aload_n 2, 1) := by decide +kernel
theorem dL_law_313 : decode cL_law 313 = .ok (.invokevirtual 104, 3) := by decide +kernel
theorem dL_law_316 : decode cL_law 316 = .ok (.goto 1815, 3) := by decide +kernel
theorem glaw2_0 : GoodIn lw_tbl (wsV RL 101 RX11 yX11_wipe wsPX11_wipe) := goodIn_sub ((List.forall_mem_append.mpr ⟨(mem_p ([.methodLink RL 101 yX11_wipe, .instanceMethod yX11_wipe, .selects RX11 yX11_wipe yX11_wipe, .initialized RX11] : List Cond) [(2, 13), (2, 14), (2, 15), (1, 1)] (by decide +kernel)), ml_wsPX11_wipe⟩ : ∀ w ∈ wsV RL 101 RX11 yX11_wipe wsPX11_wipe, w ∈ lw_tbl)) (by decide +kernel)
theorem glaw2_1 : GoodIn lw_tbl (wsV RL 104 RX12 yX12_wipe wsPX12_wipe) := goodIn_sub ((List.forall_mem_append.mpr ⟨(mem_p ([.methodLink RL 104 yX12_wipe, .instanceMethod yX12_wipe, .selects RX12 yX12_wipe yX12_wipe, .initialized RX12] : List Cond) [(15, 68), (15, 69), (15, 70), (1, 4)] (by decide +kernel)), ml_wsPX12_wipe⟩ : ∀ w ∈ wsV RL 104 RX12 yX12_wipe wsPX12_wipe, w ∈ lw_tbl)) (by decide +kernel)
set_option maxHeartbeats 4000000 in
set_option maxRecDepth 100000 in
/-- the law's case 2: wipe -/
theorem lc_2 {p : Program} {e : Env} {s : State} {m : MethodId} {below : List Frame} {meth : Method} {c : Code} (l : Launch) (hst : l.stackTraces = false) {b : Nat} {xs : Nat → Int32} (C0 : lw_At p s m meth c b 6 xs) {A : Nat → Prop} (hA : ∀ q : Nat, s.heap.size ≤ q → A q) (hA2 : ∀ q : Nat, A q → s.heap.size ≤ q) (X0 : lx_ok A s) (dC : Nat → ClassId) (dI : Nat → Nat → Nat) {h1 h2 o : Nat} {a : Nat → Nat} {k : Nat → ClassId} {av : Nat → Nat} {kv : Nat → ClassId} {kO : ClassId} {H : Heap} {locs : List Loc} {ls : Array Slot} (hK : va_K (dC, dI) vwCl [(kO, .long)] s) (hP : va_P (dC, dI) vwCl [(h1, .inr (11, [.ref (a 0), .ref (a 1), .ref (a 3), .ref (a 14), .int 0, .null, .null, .null, .null, .null, .null])), ((a 1), .inr (9, [.ref (a 2), .int 0, .int 0, .int (-1), .int 0, .int 0, .int 0, .long 0, .int 0])), (h2, .inr (12, fM (vM av))), (o, .inl (kO, 1, .inr (.inl (fun _ => 0))))] H) (hD : va_D A [(h1, .inr (11, [.ref (a 0), .ref (a 1), .ref (a 3), .ref (a 14), .int 0, .null, .null, .null, .null, .null, .null])), ((a 1), .inr (9, [.ref (a 2), .int 0, .int 0, .int (-1), .int 0, .int 0, .int 0, .long 0, .int 0])), (h2, .inr (12, fM (vM av))), (o, .inl (kO, 1, .inr (.inl (fun _ => 0))))]) (hS : va_S A s.heap H locs) (hl : lv_has ls 7 [(4, .int 0), (3, .ref o), (2, .ref h2), (1, .ref h1), (0, .ref b)]) : W p l e room_1 s m #[Value.ref b] below meth c H locs 125 181434 (lw_Z below #[Value.ref b] s) (F0 m 308 ls []) := by
  obtain ⟨hx, hb, hr, hml, hown, hts, hX, hbl, hlocks, hgv⟩ := id C0
  have hb : c.code = cL_law := hb
  have hown : s.vm.findClass RL = some m.cls := hown
  obtain ⟨hU, hN, hnX11_343, hnX11_392, hnX11_421, hncAI, hngX11_161, hngX11_79, hngX11_95⟩ := X0
  have hbA : ¬ A b := fun h => absurd (hA2 b h) (Nat.not_le.mpr hbl)
  refine lv_aload_n hx hb dL_law_308 rfl (lv_at hl 3 rfl) ?_
  have hPc := hP.sub (ws' := [(h1, .inr (11, [.ref (a 0), .ref (a 1), .ref (a 3), .ref (a 14), .int 0, .null, .null, .null, .null, .null, .null])), ((a 1), .inr (9, [.ref (a 2), .int 0, .int 0, .int (-1), .int 0, .int 0, .int 0, .long 0, .int 0]))]) [0, 1] rfl
  have hDc := hD.sub (ws' := [(h1, .inr (11, [.ref (a 0), .ref (a 1), .ref (a 3), .ref (a 14), .int 0, .null, .null, .null, .null, .null, .null])), ((a 1), .inr (9, [.ref (a 2), .int 0, .int 0, .int (-1), .int 0, .int 0, .int 0, .long 0, .int 0]))]) [0, 1] (by decide) rfl
  have hKc := hK.sub (tys' := []) [] rfl
  have hFc := va_free (wc := [(h1, .inr (11, [.ref (a 0), .ref (a 1), .ref (a 3), .ref (a 14), .int 0, .null, .null, .null, .null, .null, .null])), ((a 1), .inr (9, [.ref (a 2), .int 0, .int 0, .int (-1), .int 0, .int 0, .int 0, .long 0, .int 0]))]) hD hS hA [0, 1] rfl
  refine va_callv (va_runV (As := []) (rest := []) ⟨hx, hb, hml, hown, hts⟩ (p_X11_wipe l dC dI h1 a H.size) (cwV 0 hts glaw2_0 rfl rfl rfl (by decide +kernel) ⟨by decide +kernel, by decide +kernel⟩) ⟨fun a U g mk q => by obtain ⟨q0, q1, qP, qK, qD⟩ := q; exact ⟨q0, q1, qP, va_K.moved (u := U) (U := U.calling g mk a) (Vm.Alike.refl U.vm) qK, qD⟩, va_recv hKc hPc (ci := 11) (q0 := 0) rfl rfl, fun U hU9 hW => ⟨rfl, by rw [hU9], by rw [hU9]; exact hPc, va_K.moved hW.alike hKc, hDc.weaken (fun _ _ _ _ => trivial)⟩⟩ rfl rfl hl.1 rfl (lv_room (Nat.le_of_ble_eq_true rfl)) dL_law_309 ⟨by decide +kernel, by decide +kernel⟩) hS (fun q _ h => hFc q h) hFc (fun u t H1 locs ht hvm hw hB hz1 hk1 hS => ?_)
  obtain ⟨hP1, hK1, hD1⟩ := hB
  rw [ht] at hP1
  have hK1 := va_K.moved hvm.symm hK1
  obtain ⟨hP, hD⟩ := va_join (wr := [(h2, .inr (12, fM (vM av))), (o, .inl (kO, 1, .inr (.inl (fun _ => 0))))]) (w1 := []) hP hD [0, 1] [2, 3] rfl rfl (by decide) (by decide) hk1 hFc hP1 hD1
  generalize H1 = H at hP hS ⊢
  have hP : va_P (dC, dI) vwCl [(h2, .inr (12, fM (vM av))), (o, .inl (kO, 1, .inr (.inl (fun _ => 0))))] H := hP
  have hD : va_D A [(h2, .inr (12, fM (vM av))), (o, .inl (kO, 1, .inr (.inl (fun _ => 0))))] := hD
  refine lv_aload_n hx hb dL_law_312 rfl (lv_at hl 2 rfl) ?_
  have hPc := hP.sub (ws' := [(h2, .inr (12, fM (vM av)))]) [0] rfl
  have hDc := hD.sub (ws' := [(h2, .inr (12, fM (vM av)))]) [0] (by decide) rfl
  have hKc := hK.sub (tys' := []) [] rfl
  have hFc := va_free (wc := [(h2, .inr (12, fM (vM av)))]) hD hS hA [0] rfl
  refine va_callv (va_runV (As := []) (rest := []) ⟨hx, hb, hml, hown, hts⟩ (p_X12_wipe l dC dI h2 (vM av) H.size) (cwV 0 hts glaw2_1 rfl rfl rfl (by decide +kernel) ⟨by decide +kernel, by decide +kernel⟩) ⟨fun a U g mk q => by obtain ⟨q0, q1, qP, qK, qD⟩ := q; exact ⟨q0, q1, qP, va_K.moved (u := U) (U := U.calling g mk a) (Vm.Alike.refl U.vm) qK, qD⟩, va_recv hKc hPc (ci := 12) (q0 := 0) rfl rfl, fun U hU9 hW => ⟨rfl, by rw [hU9], by rw [hU9]; exact hPc, va_K.moved hW.alike hKc, hDc.weaken (fun _ _ _ _ => trivial)⟩⟩ rfl rfl hl.1 rfl (lv_room (Nat.le_of_ble_eq_true rfl)) dL_law_313 ⟨by decide +kernel, by decide +kernel⟩) hS (fun q _ h => hFc q h) hFc (fun u t H1 locs ht hvm hw hB hz1 hk1 hS => ?_)
  obtain ⟨w313, hwit313⟩ : ∃ w9, w9 = u := ⟨u, rfl⟩
  subst hwit313
  obtain ⟨hP1, hK1, hD1⟩ := hB
  rw [ht] at hP1
  have hK1 := va_K.moved hvm.symm hK1
  obtain ⟨hP, hD⟩ := va_join (wr := [(o, .inl (kO, 1, .inr (.inl (fun _ => 0))))]) (w1 := [(h2, .inr (12, fM w313))]) hP hD [0] [1] rfl rfl (by decide) (by decide) hk1 hFc hP1 hD1
  generalize H1 = H at hP hS ⊢
  have hP : va_P (dC, dI) vwCl [(o, .inl (kO, 1, .inr (.inl (fun _ => 0)))), (h2, .inr (12, fM w313))] H := hP
  have hD : va_D A [(o, .inl (kO, 1, .inr (.inl (fun _ => 0)))), (h2, .inr (12, fM w313))] := hD
  have f313_0 := hw
  try dsimp only at f313_0
  refine lv_goto (tgt := 2131) hx hb dL_law_316 (by decide) ?_
  refine lv_iinc (v := 6) (lv' := [(4, .int 6), (3, .ref o), (2, .ref h2), (1, .ref h1), (0, .ref b)]) hx hb dL_law_2131 hl (k := 0) rfl (by decide) (by decide) rfl (fun ls hl => ?_)
  refine lv_goto (tgt := 23) hx hb dL_law_2134 (by decide) ?_
  refine lv_iload hx hb dL_law_23 (lv_at hl 0 rfl) ?_
  refine lv_aload_n hx hb dL_law_25 rfl (lv_at hl 4 rfl) ?_
  refine va_slen hx hb hX hbl hbA hS dL_law_26 ?_
  refine lv_topi (fun y1 hy1 => ?_)
  obtain rfl : 6 = y1 := (hy1.trans (rfl)).symm
  refine lv_bipush (v := 6) hx hb dL_law_27 (by decide) ?_
  refine lv_isub hx hb dL_law_29 ?_
  refine lv_topi (fun y2 hy2 => ?_)
  obtain rfl : 0 = y2 := (hy2.trans (by decide)).symm
  refine lv_icmp_gt (tgt := 2137) hx hb dL_law_30 (by decide) (fun _ => ?_) (fun c9 => absurd (by decide) c9)
  refine lv_iconst (v := 1) hx hb dL_law_2137 (by decide) ?_
  refine W.widen (k := 600002) (n := 7302232) (by decide +kernel) (by decide +kernel) ?_
  refine va_forget (fun q hq => hA2 _ (hS.2.2 q hq)) ?_
  exact lw_ret hx hb hr hlocks dL_law_2138
theorem dL_law_319 : decode cL_law 319 = .ok (.aload_n 1, 1) := by decide +kernel
theorem dL_law_320 : decode cL_law 320 = .ok (.aload_n 3, 1) := by decide +kernel
theorem dL_law_321 : decode cL_law 321 = .ok (.invokestatic 105, 3) := by decide +kernel
theorem dL_law_324 : decode cL_law 324 = .ok (.istore 5, 2) := by decide +kernel
theorem dL_law_326 : decode cL_law 326 = .ok (.aload_n 2, 1) := by decide +kernel
theorem dL_law_327 : decode cL_law 327 = .ok (.invokevirtual 110, 3) := by decide +kernel
theorem dL_law_330 : decode cL_law 330 = .ok (.istore 6, 2) := by decide +kernel
theorem dL_law_332 : decode cL_law 332 = .ok (.aload_n 2, 1) := by decide +kernel
theorem dL_law_333 : decode cL_law 333 = .ok (.invokevirtual 111, 3) := by decide +kernel
theorem dL_law_336 : decode cL_law 336 = .ok (.iload 5, 2) := by decide +kernel
theorem dL_law_338 : decode cL_law 338 = .ok (.if_icmp .eq 5, 3) := by decide +kernel
theorem dL_law_343 : decode cL_law 343 = .ok (.iload 5, 2) := by decide +kernel
theorem dL_law_345 : decode cL_law 345 = .ok (.ifCond .ne 15, 3) := by decide +kernel
theorem dL_law_348 : decode cL_law 348 = .ok (.aload_n 3, 1) := by decide +kernel
theorem dL_law_349 : decode cL_law 349 = .ok (.iconst 0, 1) := by decide +kernel
theorem dL_law_350 : decode cL_law 350 = .ok (.laload, 1) := by decide +kernel
theorem dL_law_351 : decode cL_law 351 = .ok (.iload 6, 2) := by decide +kernel
theorem dL_law_353 : decode cL_law 353 = .ok (.i2l, 1) := by decide +kernel
theorem dL_law_354 : decode cL_law 354 = .ok (.lcmp, 1) := by decide +kernel
theorem dL_law_355 : decode cL_law 355 = .ok (.ifCond .eq 5, 3) := by decide +kernel
theorem dL_law_360 : decode cL_law 360 = .ok (.goto 1771, 3) := by decide +kernel
theorem glaw3_0 : GoodIn lw_tbl (va_wsS RL 105 yL_read wsPL_read) := goodIn_sub ((List.forall_mem_append.mpr ⟨(mem_p ([.methodLink RL 105 yL_read, .static yL_read, .initialized "OptimaWorksLaw"] : List Cond) [(3, 180), (3, 181), (1, 0)] (by decide +kernel)), ml_wsPL_read⟩ : ∀ w ∈ va_wsS RL 105 yL_read wsPL_read, w ∈ lw_tbl)) (by decide +kernel)
theorem glaw3_1 : GoodIn lw_tbl (wsV RL 110 RX12 yX12_read wsPX12_read) := goodIn_sub ((List.forall_mem_append.mpr ⟨(mem_p ([.methodLink RL 110 yX12_read, .instanceMethod yX12_read, .selects RX12 yX12_read yX12_read, .initialized RX12] : List Cond) [(12, 143), (12, 144), (12, 145), (1, 4)] (by decide +kernel)), ml_wsPX12_read⟩ : ∀ w ∈ wsV RL 110 RX12 yX12_read wsPX12_read, w ∈ lw_tbl)) (by decide +kernel)
theorem glaw3_2 : GoodIn lw_tbl (wsV RL 111 RX12 yX12_thrown wsPX12_thrown) := goodIn_sub ((List.forall_mem_append.mpr ⟨(mem_p ([.methodLink RL 111 yX12_thrown, .instanceMethod yX12_thrown, .selects RX12 yX12_thrown yX12_thrown, .initialized RX12] : List Cond) [(12, 139), (12, 140), (12, 141), (1, 4)] (by decide +kernel)), ml_wsPX12_thrown⟩ : ∀ w ∈ wsV RL 111 RX12 yX12_thrown wsPX12_thrown, w ∈ lw_tbl)) (by decide +kernel)
set_option maxHeartbeats 4000000 in
set_option maxRecDepth 100000 in
/-- the law's case 3: read -/
theorem lc_3 {p : Program} {e : Env} {s : State} {m : MethodId} {below : List Frame} {meth : Method} {c : Code} (l : Launch) (hst : l.stackTraces = false) {b : Nat} {xs : Nat → Int32} (C0 : lw_At p s m meth c b 6 xs) {A : Nat → Prop} (hA : ∀ q : Nat, s.heap.size ≤ q → A q) (hA2 : ∀ q : Nat, A q → s.heap.size ≤ q) (X0 : lx_ok A s) (dC : Nat → ClassId) (dI : Nat → Nat → Nat) {h1 h2 o : Nat} {a : Nat → Nat} {k : Nat → ClassId} {av : Nat → Nat} {kv : Nat → ClassId} {kO : ClassId} {H : Heap} {locs : List Loc} {ls : Array Slot} (hK : va_K (dC, dI) vwCl [(kO, .long)] s) (hP : va_P (dC, dI) vwCl [(h1, .inr (11, [.ref (a 0), .ref (a 1), .ref (a 3), .ref (a 14), .int 0, .null, .null, .null, .null, .null, .null])), ((a 1), .inr (9, [.ref (a 2), .int 0, .int 0, .int (-1), .int 0, .int 0, .int 0, .long 0, .int 0])), ((a 3), .inr (1, [.int 0, .int 0, .int 0, .int 0, .int 0, .int 0, .ref (a 4), .ref (a 5), .ref (a 6), .ref (a 7), .int 0, .ref (a 8), .ref (a 9), .ref (a 10), .ref (a 11), .ref (a 12), .ref (a 13)])), (h2, .inr (12, fM (vM av))), (o, .inl (kO, 1, .inr (.inl (fun _ => 0))))] H) (hD : va_D A [(h1, .inr (11, [.ref (a 0), .ref (a 1), .ref (a 3), .ref (a 14), .int 0, .null, .null, .null, .null, .null, .null])), ((a 1), .inr (9, [.ref (a 2), .int 0, .int 0, .int (-1), .int 0, .int 0, .int 0, .long 0, .int 0])), ((a 3), .inr (1, [.int 0, .int 0, .int 0, .int 0, .int 0, .int 0, .ref (a 4), .ref (a 5), .ref (a 6), .ref (a 7), .int 0, .ref (a 8), .ref (a 9), .ref (a 10), .ref (a 11), .ref (a 12), .ref (a 13)])), (h2, .inr (12, fM (vM av))), (o, .inl (kO, 1, .inr (.inl (fun _ => 0))))]) (hS : va_S A s.heap H locs) (hl : lv_has ls 7 [(4, .int 0), (3, .ref o), (2, .ref h2), (1, .ref h1), (0, .ref b)]) : W p l e room_1 s m #[Value.ref b] below meth c H locs 125 181434 (lw_Z below #[Value.ref b] s) (F0 m 319 ls []) := by
  obtain ⟨hx, hb, hr, hml, hown, hts, hX, hbl, hlocks, hgv⟩ := id C0
  have hb : c.code = cL_law := hb
  have hown : s.vm.findClass RL = some m.cls := hown
  obtain ⟨hU, hN, hnX11_343, hnX11_392, hnX11_421, hncAI, hngX11_161, hngX11_79, hngX11_95⟩ := X0
  have hbA : ¬ A b := fun h => absurd (hA2 b h) (Nat.not_le.mpr hbl)
  refine lv_aload_n hx hb dL_law_319 rfl (lv_at hl 3 rfl) ?_
  refine lv_aload_n hx hb dL_law_320 rfl (lv_at hl 1 rfl) ?_
  have hPc := hP.sub (ws' := [(h1, .inr (11, [.ref (a 0), .ref (a 1), .ref (a 3), .ref (a 14), .int 0, .null, .null, .null, .null, .null, .null])), ((a 1), .inr (9, [.ref (a 2), .int 0, .int 0, .int (-1), .int 0, .int 0, .int 0, .long 0, .int 0])), ((a 3), .inr (1, [.int 0, .int 0, .int 0, .int 0, .int 0, .int 0, .ref (a 4), .ref (a 5), .ref (a 6), .ref (a 7), .int 0, .ref (a 8), .ref (a 9), .ref (a 10), .ref (a 11), .ref (a 12), .ref (a 13)])), (o, .inl (kO, 1, .inr (.inl (fun _ => 0))))]) [0, 1, 2, 4] rfl
  have hDc := hD.sub (ws' := [(h1, .inr (11, [.ref (a 0), .ref (a 1), .ref (a 3), .ref (a 14), .int 0, .null, .null, .null, .null, .null, .null])), ((a 1), .inr (9, [.ref (a 2), .int 0, .int 0, .int (-1), .int 0, .int 0, .int 0, .long 0, .int 0])), ((a 3), .inr (1, [.int 0, .int 0, .int 0, .int 0, .int 0, .int 0, .ref (a 4), .ref (a 5), .ref (a 6), .ref (a 7), .int 0, .ref (a 8), .ref (a 9), .ref (a 10), .ref (a 11), .ref (a 12), .ref (a 13)])), (o, .inl (kO, 1, .inr (.inl (fun _ => 0))))]) [0, 1, 2, 4] (by decide) rfl
  have hKc := hK.sub (tys' := [(kO, .long)]) [0] rfl
  have hFc := va_free (wc := [(h1, .inr (11, [.ref (a 0), .ref (a 1), .ref (a 3), .ref (a 14), .int 0, .null, .null, .null, .null, .null, .null])), ((a 1), .inr (9, [.ref (a 2), .int 0, .int 0, .int (-1), .int 0, .int 0, .int 0, .long 0, .int 0])), ((a 3), .inr (1, [.int 0, .int 0, .int 0, .int 0, .int 0, .int 0, .ref (a 4), .ref (a 5), .ref (a 6), .ref (a 7), .int 0, .ref (a 8), .ref (a 9), .ref (a 10), .ref (a 11), .ref (a 12), .ref (a 13)])), (o, .inl (kO, 1, .inr (.inl (fun _ => 0))))]) hD hS hA [0, 1, 2, 4] rfl
  refine va_calli (vx_runSW (As := [.ref h1, .ref o]) (rest := []) ⟨hx, hb, hml, hown, hts⟩ (p_L_read l dC dI h1 a o kO H.size) (vx_cwSW 2 hts glaw3_0 rfl rfl rfl (by decide +kernel) ⟨by decide +kernel, by decide +kernel⟩) ⟨fun a U g mk q => by obtain ⟨q0, q1, qP, qK, qD⟩ := q; exact ⟨q0, q1, qP, va_K.moved (u := U) (U := U.calling g mk a) (Vm.Alike.refl U.vm) qK, qD⟩, fun U hU9 hW => ⟨rfl, by rw [hU9], by rw [hU9]; exact hPc, va_K.moved hW.alike hKc, hDc.weaken (fun _ _ _ _ => trivial)⟩⟩ rfl rfl hl.1 rfl (lv_room (Nat.le_of_ble_eq_true rfl)) dL_law_321 ⟨by decide +kernel, by decide +kernel⟩) hS (fun q _ h => hFc q h) hFc (fun r321 u t H1 locs ht hvm hw hB hz1 hk1 hS => ?_)
  obtain ⟨go321, hwit321⟩ : ∃ w9, w9 = u := ⟨u, rfl⟩
  subst hwit321
  obtain ⟨hP1, hK1, hD1⟩ := hB
  rw [ht] at hP1
  have hK1 := va_K.moved hvm.symm hK1
  obtain ⟨hP, hD⟩ := va_join (wr := [(h2, .inr (12, fM (vM av)))]) (w1 := [(o, .inl (kO, 1, .inr (.inl go321)))]) hP hD [0, 1, 2, 4] [3] rfl rfl (by decide) (by decide) hk1 hFc hP1 hD1
  generalize H1 = H at hP hS ⊢
  have hP : va_P (dC, dI) vwCl [(h2, .inr (12, fM (vM av))), (o, .inl (kO, 1, .inr (.inl go321)))] H := hP
  have hD : va_D A [(h2, .inr (12, fM (vM av))), (o, .inl (kO, 1, .inr (.inl go321)))] := hD
  refine W.widen (k := 140) (n := 182632) (by decide +kernel) (by decide +kernel) ?_
  obtain ⟨rfl, f321_0⟩ := hw
  refine lv_istore (lv' := [(5, .int 0), (4, .int 0), (3, .ref o), (2, .ref h2), (1, .ref h1), (0, .ref b)]) hx hb dL_law_324 hl (by decide) rfl (fun ls hl => ?_)
  refine lv_aload_n hx hb dL_law_326 rfl (lv_at hl 3 rfl) ?_
  have hPc := hP.sub (ws' := [(h2, .inr (12, fM (vM av)))]) [0] rfl
  have hDc := hD.sub (ws' := [(h2, .inr (12, fM (vM av)))]) [0] (by decide) rfl
  have hKc := hK.sub (tys' := []) [] rfl
  have hFc := va_free (wc := [(h2, .inr (12, fM (vM av)))]) hD hS hA [0] rfl
  refine va_calli (va_runV (As := []) (rest := []) ⟨hx, hb, hml, hown, hts⟩ (p_X12_read l dC dI h2 (vM av) (rfl) H.size) (cwV 0 hts glaw3_1 rfl rfl rfl (by decide +kernel) ⟨by decide +kernel, by decide +kernel⟩) ⟨fun a U g mk q => by obtain ⟨q0, q1, qP, qK, qD⟩ := q; exact ⟨q0, q1, qP, va_K.moved (u := U) (U := U.calling g mk a) (Vm.Alike.refl U.vm) qK, qD⟩, va_recv hKc hPc (ci := 12) (q0 := 0) rfl rfl, fun U hU9 hW => ⟨rfl, by rw [hU9], by rw [hU9]; exact hPc, va_K.moved hW.alike hKc, hDc.weaken (fun _ _ _ _ => trivial)⟩⟩ rfl rfl hl.1 rfl (lv_room (Nat.le_of_ble_eq_true rfl)) dL_law_327 ⟨by decide +kernel, by decide +kernel⟩) hS (fun q _ h => hFc q h) hFc (fun r327 u t H1 locs ht hvm hw hB hz1 hk1 hS => ?_)
  obtain ⟨w327, hwit327⟩ : ∃ w9, w9 = u := ⟨u, rfl⟩
  subst hwit327
  obtain ⟨hP1, hK1, hD1⟩ := hB
  rw [ht] at hP1
  have hK1 := va_K.moved hvm.symm hK1
  obtain ⟨hP, hD⟩ := va_join (wr := [(o, .inl (kO, 1, .inr (.inl go321)))]) (w1 := [(h2, .inr (12, fM w327))]) hP hD [0] [1] rfl rfl (by decide) (by decide) hk1 hFc hP1 hD1
  generalize H1 = H at hP hS ⊢
  have hP : va_P (dC, dI) vwCl [(o, .inl (kO, 1, .inr (.inl go321))), (h2, .inr (12, fM w327))] H := hP
  have hD : va_D A [(o, .inl (kO, 1, .inr (.inl go321))), (h2, .inr (12, fM w327))] := hD
  obtain ⟨rfl, f327_0⟩ := hw
  refine lv_istore (lv' := [(6, .int 0), (5, .int 0), (4, .int 0), (3, .ref o), (2, .ref h2), (1, .ref h1), (0, .ref b)]) hx hb dL_law_330 hl (by decide) rfl (fun ls hl => ?_)
  refine lv_aload_n hx hb dL_law_332 rfl (lv_at hl 4 rfl) ?_
  have hPc := hP.sub (ws' := [(h2, .inr (12, fM w327))]) [1] rfl
  have hDc := hD.sub (ws' := [(h2, .inr (12, fM w327))]) [1] (by decide) rfl
  have hKc := hK.sub (tys' := []) [] rfl
  have hFc := va_free (wc := [(h2, .inr (12, fM w327))]) hD hS hA [1] rfl
  refine va_calli (va_runV (As := []) (rest := []) ⟨hx, hb, hml, hown, hts⟩ (p_X12_thrown l dC dI h2 w327 0 (f327_0) H.size) (cwV 0 hts glaw3_2 rfl rfl rfl (by decide +kernel) ⟨by decide +kernel, by decide +kernel⟩) ⟨fun a U g mk q => by obtain ⟨q0, q1, qP, qK, qD⟩ := q; exact ⟨q0, q1, qP, va_K.moved (u := U) (U := U.calling g mk a) (Vm.Alike.refl U.vm) qK, qD⟩, va_recv hKc hPc (ci := 12) (q0 := 0) rfl rfl, fun U hU9 hW => ⟨rfl, by rw [hU9], by rw [hU9]; exact hPc, va_K.moved hW.alike hKc, hDc.weaken (fun _ _ _ _ => trivial)⟩⟩ rfl rfl hl.1 rfl (lv_room (Nat.le_of_ble_eq_true rfl)) dL_law_333 ⟨by decide +kernel, by decide +kernel⟩) hS (fun q _ h => hFc q h) hFc (fun r333 u t H1 locs ht hvm hw hB hz1 hk1 hS => ?_)
  obtain ⟨hP1, hK1, hD1⟩ := hB
  rw [ht] at hP1
  have hK1 := va_K.moved hvm.symm hK1
  obtain ⟨hP, hD⟩ := va_join (wr := [(o, .inl (kO, 1, .inr (.inl go321)))]) (w1 := []) hP hD [1] [0] rfl rfl (by decide) (by decide) hk1 hFc hP1 hD1
  generalize H1 = H at hP hS ⊢
  have hP : va_P (dC, dI) vwCl [(o, .inl (kO, 1, .inr (.inl go321)))] H := hP
  have hD : va_D A [(o, .inl (kO, 1, .inr (.inl go321)))] := hD
  obtain rfl := hw
  refine lv_iload hx hb dL_law_336 (lv_at hl 1 rfl) ?_
  refine lv_icmp_eq (tgt := 343) hx hb dL_law_338 (by decide) (fun _ => ?_) (fun c9 => absurd (by decide) c9)
  refine lv_iload hx hb dL_law_343 (lv_at hl 1 rfl) ?_
  refine lv_if_ne (tgt := 360) hx hb dL_law_345 (by decide) (fun c9 => absurd c9 (by decide)) (fun _ => ?_)
  refine lv_aload_n hx hb dL_law_348 rfl (lv_at hl 3 rfl) ?_
  refine lv_iconst (v := 0) hx hb dL_law_349 (by decide) ?_
  refine va_lald hx hb hK hP 0 0 rfl rfl (show ¬ ((0 : Int32) < 0 ∨ 1 ≤ (0 : Int32).toNatClampNeg) by decide) dL_law_350 ?_
  refine lv_topl (fun y1 hy1 => ?_)
  obtain rfl : 0 = y1 := (hy1.trans (f321_0)).symm
  refine lv_iload hx hb dL_law_351 (lv_at hl 0 rfl) ?_
  refine lv_i2l hx hb dL_law_353 rfl ?_
  refine lv_topl (fun y2 hy2 => ?_)
  obtain rfl : 0 = y2 := (hy2.trans (by decide)).symm
  refine W.lcmp hx hb dL_law_354 ?_
  refine lv_topi (fun y3 hy3 => ?_)
  obtain rfl : 0 = y3 := (hy3.trans (by decide)).symm
  refine lv_if_eq (tgt := 360) hx hb dL_law_355 (by decide) (fun _ => ?_) (fun c9 => absurd (by decide) c9)
  refine lv_goto (tgt := 2131) hx hb dL_law_360 (by decide) ?_
  refine lv_iinc (v := 6) (lv' := [(4, .int 6), (6, .int 0), (5, .int 0), (3, .ref o), (2, .ref h2), (1, .ref h1), (0, .ref b)]) hx hb dL_law_2131 hl (k := 2) rfl (by decide) (by decide) rfl (fun ls hl => ?_)
  refine lv_goto (tgt := 23) hx hb dL_law_2134 (by decide) ?_
  refine lv_iload hx hb dL_law_23 (lv_at hl 0 rfl) ?_
  refine lv_aload_n hx hb dL_law_25 rfl (lv_at hl 6 rfl) ?_
  refine va_slen hx hb hX hbl hbA hS dL_law_26 ?_
  refine lv_topi (fun y4 hy4 => ?_)
  obtain rfl : 6 = y4 := (hy4.trans (rfl)).symm
  refine lv_bipush (v := 6) hx hb dL_law_27 (by decide) ?_
  refine lv_isub hx hb dL_law_29 ?_
  refine lv_topi (fun y5 hy5 => ?_)
  obtain rfl : 0 = y5 := (hy5.trans (by decide)).symm
  refine lv_icmp_gt (tgt := 2137) hx hb dL_law_30 (by decide) (fun _ => ?_) (fun c9 => absurd (by decide) c9)
  refine lv_iconst (v := 1) hx hb dL_law_2137 (by decide) ?_
  refine W.widen (k := 600002) (n := 7302232) (by decide +kernel) (by decide +kernel) ?_
  refine va_forget (fun q hq => hA2 _ (hS.2.2 q hq)) ?_
  exact lw_ret hx hb hr hlocks dL_law_2138
theorem dL_law_363 : decode cL_law 363 = .ok (.aload_n 1, 1) := by decide +kernel
theorem dL_law_364 : decode cL_law 364 = .ok (.aload_n 0, 1) := by decide +kernel
theorem dL_law_365 : decode cL_law 365 = .ok (.iload 4, 2) := by decide +kernel
theorem dL_law_367 : decode cL_law 367 = .ok (.iconst 1, 1) := by decide +kernel
theorem dL_law_368 : decode cL_law 368 = .ok (.iadd, 1) := by decide +kernel
theorem dL_law_369 : decode cL_law 369 = .ok (.iaload, 1) := by decide +kernel
theorem dL_law_370 : decode cL_law 370 = .ok (.invokevirtual 114, 3) := by decide +kernel
theorem dL_law_373 : decode cL_law 373 = .ok (.aload_n 2, 1) := by decide +kernel
theorem dL_law_374 : decode cL_law 374 = .ok (.aload_n 0, 1) := by decide +kernel
theorem dL_law_375 : decode cL_law 375 = .ok (.iload 4, 2) := by decide +kernel
theorem dL_law_377 : decode cL_law 377 = .ok (.iconst 1, 1) := by decide +kernel
theorem dL_law_378 : decode cL_law 378 = .ok (.iadd, 1) := by decide +kernel
theorem dL_law_379 : decode cL_law 379 = .ok (.iaload, 1) := by decide +kernel
theorem dL_law_380 : decode cL_law 380 = .ok (.invokevirtual 117, 3) := by decide +kernel
theorem dL_law_383 : decode cL_law 383 = .ok (.if_icmp .eq 1748, 3) := by decide +kernel
theorem dL_law_386 : decode cL_law 386 = .ok (.iconst 0, 1) := by decide +kernel
theorem dL_law_387 : decode cL_law 387 = .ok (.ireturn, 1) := by decide +kernel
theorem glaw4_0 : GoodIn lw_tbl (wsV RL 114 RX11 yX11_fault wsPX11_fault) := goodIn_sub ((List.forall_mem_append.mpr ⟨(mem_p ([.methodLink RL 114 yX11_fault, .instanceMethod yX11_fault, .selects RX11 yX11_fault yX11_fault, .initialized RX11] : List Cond) [(2, 17), (2, 18), (2, 19), (1, 1)] (by decide +kernel)), ml_wsPX11_fault⟩ : ∀ w ∈ wsV RL 114 RX11 yX11_fault wsPX11_fault, w ∈ lw_tbl)) (by decide +kernel)
theorem glaw4_1 : GoodIn lw_tbl (wsV RL 117 RX12 yX12_fault wsPX12_fault) := goodIn_sub ((List.forall_mem_append.mpr ⟨(mem_p ([.methodLink RL 117 yX12_fault, .instanceMethod yX12_fault, .selects RX12 yX12_fault yX12_fault, .initialized RX12] : List Cond) [(15, 72), (15, 73), (15, 74), (1, 4)] (by decide +kernel)), ml_wsPX12_fault⟩ : ∀ w ∈ wsV RL 117 RX12 yX12_fault wsPX12_fault, w ∈ lw_tbl)) (by decide +kernel)
set_option maxHeartbeats 4000000 in
set_option maxRecDepth 100000 in
/-- the law's case 4: fault -/
theorem lc_4 {p : Program} {e : Env} {s : State} {m : MethodId} {below : List Frame} {meth : Method} {c : Code} (l : Launch) (hst : l.stackTraces = false) {b : Nat} {xs : Nat → Int32} (C0 : lw_At p s m meth c b 6 xs) {A : Nat → Prop} (hA : ∀ q : Nat, s.heap.size ≤ q → A q) (hA2 : ∀ q : Nat, A q → s.heap.size ≤ q) (X0 : lx_ok A s) (dC : Nat → ClassId) (dI : Nat → Nat → Nat) {h1 h2 o : Nat} {a : Nat → Nat} {k : Nat → ClassId} {av : Nat → Nat} {kv : Nat → ClassId} {kO : ClassId} {H : Heap} {locs : List Loc} {ls : Array Slot} (hK : va_K (dC, dI) vwCl [(kO, .long)] s) (hP : va_P (dC, dI) vwCl [(h1, .inr (11, [.ref (a 0), .ref (a 1), .ref (a 3), .ref (a 14), .int 0, .null, .null, .null, .null, .null, .null])), ((a 1), .inr (9, [.ref (a 2), .int 0, .int 0, .int (-1), .int 0, .int 0, .int 0, .long 0, .int 0])), (h2, .inr (12, fM (vM av))), (o, .inl (kO, 1, .inr (.inl (fun _ => 0))))] H) (hD : va_D A [(h1, .inr (11, [.ref (a 0), .ref (a 1), .ref (a 3), .ref (a 14), .int 0, .null, .null, .null, .null, .null, .null])), ((a 1), .inr (9, [.ref (a 2), .int 0, .int 0, .int (-1), .int 0, .int 0, .int 0, .long 0, .int 0])), (h2, .inr (12, fM (vM av))), (o, .inl (kO, 1, .inr (.inl (fun _ => 0))))]) (hS : va_S A s.heap H locs) (hl : lv_has ls 7 [(4, .int 0), (3, .ref o), (2, .ref h2), (1, .ref h1), (0, .ref b)]) : W p l e room_1 s m #[Value.ref b] below meth c H locs 125 181434 (lw_Z below #[Value.ref b] s) (F0 m 363 ls []) := by
  obtain ⟨hx, hb, hr, hml, hown, hts, hX, hbl, hlocks, hgv⟩ := id C0
  have hb : c.code = cL_law := hb
  have hown : s.vm.findClass RL = some m.cls := hown
  obtain ⟨hU, hN, hnX11_343, hnX11_392, hnX11_421, hncAI, hngX11_161, hngX11_79, hngX11_95⟩ := X0
  have hbA : ¬ A b := fun h => absurd (hA2 b h) (Nat.not_le.mpr hbl)
  refine lv_aload_n hx hb dL_law_363 rfl (lv_at hl 3 rfl) ?_
  refine lv_aload_n hx hb dL_law_364 rfl (lv_at hl 4 rfl) ?_
  refine lv_iload hx hb dL_law_365 (lv_at hl 0 rfl) ?_
  refine lv_iconst (v := 1) hx hb dL_law_367 (by decide) ?_
  refine lv_iadd hx hb dL_law_368 ?_
  refine lv_topi (fun y1 hy1 => ?_)
  obtain rfl : 1 = y1 := (hy1.trans (by decide)).symm
  refine va_sld hx hb hX hbl hbA hS (show ¬ ((1 : Int32) < 0 ∨ 6 ≤ (1 : Int32).toNatClampNeg) by decide) dL_law_369 ?_
  refine lv_topi (fun y2 hy2 => ?_)
  obtain rfl : (xs 1) = y2 := (hy2.trans (rfl)).symm
  have hPc := hP.sub (ws' := [(h1, .inr (11, [.ref (a 0), .ref (a 1), .ref (a 3), .ref (a 14), .int 0, .null, .null, .null, .null, .null, .null])), ((a 1), .inr (9, [.ref (a 2), .int 0, .int 0, .int (-1), .int 0, .int 0, .int 0, .long 0, .int 0]))]) [0, 1] rfl
  have hDc := hD.sub (ws' := [(h1, .inr (11, [.ref (a 0), .ref (a 1), .ref (a 3), .ref (a 14), .int 0, .null, .null, .null, .null, .null, .null])), ((a 1), .inr (9, [.ref (a 2), .int 0, .int 0, .int (-1), .int 0, .int 0, .int 0, .long 0, .int 0]))]) [0, 1] (by decide) rfl
  have hKc := hK.sub (tys' := []) [] rfl
  have hFc := va_free (wc := [(h1, .inr (11, [.ref (a 0), .ref (a 1), .ref (a 3), .ref (a 14), .int 0, .null, .null, .null, .null, .null, .null])), ((a 1), .inr (9, [.ref (a 2), .int 0, .int 0, .int (-1), .int 0, .int 0, .int 0, .long 0, .int 0]))]) hD hS hA [0, 1] rfl
  refine va_calli (va_runV (As := [.int (xs 1)]) (rest := []) ⟨hx, hb, hml, hown, hts⟩ (p_X11_fault l dC dI h1 a (xs 1) H.size) (cwV 1 hts glaw4_0 rfl rfl rfl (by decide +kernel) ⟨by decide +kernel, by decide +kernel⟩) ⟨fun a U g mk q => by obtain ⟨q0, q1, qP, qK, qD⟩ := q; exact ⟨q0, q1, qP, va_K.moved (u := U) (U := U.calling g mk a) (Vm.Alike.refl U.vm) qK, qD⟩, va_recv hKc hPc (ci := 11) (q0 := 0) rfl rfl, fun U hU9 hW => ⟨rfl, by rw [hU9], by rw [hU9]; exact hPc, va_K.moved hW.alike hKc, hDc.weaken (fun _ _ _ _ => trivial)⟩⟩ rfl rfl hl.1 rfl (lv_room (Nat.le_of_ble_eq_true rfl)) dL_law_370 ⟨by decide +kernel, by decide +kernel⟩) hS (fun q _ h => hFc q h) hFc (fun r370 u t H1 locs ht hvm hw hB hz1 hk1 hS => ?_)
  obtain ⟨hP1, hK1, hD1⟩ := hB
  rw [ht] at hP1
  have hK1 := va_K.moved hvm.symm hK1
  obtain ⟨hP, hD⟩ := va_join (wr := [(h2, .inr (12, fM (vM av))), (o, .inl (kO, 1, .inr (.inl (fun _ => 0))))]) (w1 := []) hP hD [0, 1] [2, 3] rfl rfl (by decide) (by decide) hk1 hFc hP1 hD1
  generalize H1 = H at hP hS ⊢
  have hP : va_P (dC, dI) vwCl [(h2, .inr (12, fM (vM av))), (o, .inl (kO, 1, .inr (.inl (fun _ => 0))))] H := hP
  have hD : va_D A [(h2, .inr (12, fM (vM av))), (o, .inl (kO, 1, .inr (.inl (fun _ => 0))))] := hD
  rcases hw with ⟨rfl, f370_0⟩ | ⟨rfl, f370_0⟩
  · refine lv_aload_n hx hb dL_law_373 rfl (lv_at hl 2 rfl) ?_
    refine lv_aload_n hx hb dL_law_374 rfl (lv_at hl 4 rfl) ?_
    refine lv_iload hx hb dL_law_375 (lv_at hl 0 rfl) ?_
    refine lv_iconst (v := 1) hx hb dL_law_377 (by decide) ?_
    refine lv_iadd hx hb dL_law_378 ?_
    refine lv_topi (fun y3 hy3 => ?_)
    obtain rfl : 1 = y3 := (hy3.trans (by decide)).symm
    refine va_sld hx hb hX hbl hbA hS (show ¬ ((1 : Int32) < 0 ∨ 6 ≤ (1 : Int32).toNatClampNeg) by decide) dL_law_379 ?_
    refine lv_topi (fun y4 hy4 => ?_)
    obtain rfl : (xs 1) = y4 := (hy4.trans (rfl)).symm
    have hPc := hP.sub (ws' := [(h2, .inr (12, fM (vM av)))]) [0] rfl
    have hDc := hD.sub (ws' := [(h2, .inr (12, fM (vM av)))]) [0] (by decide) rfl
    have hKc := hK.sub (tys' := []) [] rfl
    have hFc := va_free (wc := [(h2, .inr (12, fM (vM av)))]) hD hS hA [0] rfl
    refine va_calli (va_runV (As := [.int (xs 1)]) (rest := [.int 0]) ⟨hx, hb, hml, hown, hts⟩ (p_X12_fault l dC dI h2 (vM av) (rfl) (rfl) (xs 1) H.size) (cwV 1 hts glaw4_1 rfl rfl rfl (by decide +kernel) ⟨by decide +kernel, by decide +kernel⟩) ⟨fun a U g mk q => by obtain ⟨q0, q1, qP, qK, qD⟩ := q; exact ⟨q0, q1, qP, va_K.moved (u := U) (U := U.calling g mk a) (Vm.Alike.refl U.vm) qK, qD⟩, va_recv hKc hPc (ci := 12) (q0 := 0) rfl rfl, fun U hU9 hW => ⟨rfl, by rw [hU9], by rw [hU9]; exact hPc, va_K.moved hW.alike hKc, hDc.weaken (fun _ _ _ _ => trivial)⟩⟩ rfl rfl hl.1 rfl (lv_room (Nat.le_of_ble_eq_true rfl)) dL_law_380 ⟨by decide +kernel, by decide +kernel⟩) hS (fun q _ h => hFc q h) hFc (fun r380 u t H1 locs ht hvm hw hB hz1 hk1 hS => ?_)
    obtain ⟨w380, hwit380⟩ : ∃ w9, w9 = u := ⟨u, rfl⟩
    subst hwit380
    obtain ⟨hP1, hK1, hD1⟩ := hB
    rw [ht] at hP1
    have hK1 := va_K.moved hvm.symm hK1
    obtain ⟨hP, hD⟩ := va_join (wr := [(o, .inl (kO, 1, .inr (.inl (fun _ => 0))))]) (w1 := [(h2, .inr (12, fM w380))]) hP hD [0] [1] rfl rfl (by decide) (by decide) hk1 hFc hP1 hD1
    generalize H1 = H at hP hS ⊢
    have hP : va_P (dC, dI) vwCl [(o, .inl (kO, 1, .inr (.inl (fun _ => 0)))), (h2, .inr (12, fM w380))] H := hP
    have hD : va_D A [(o, .inl (kO, 1, .inr (.inl (fun _ => 0)))), (h2, .inr (12, fM w380))] := hD
    rcases hw with ⟨rfl, f380_0, f380_1⟩ | ⟨rfl, f380_0, f380_1⟩
    · refine lv_icmp_eq (tgt := 2131) hx hb dL_law_383 (by decide) (fun _ => ?_) (fun c9 => absurd (by decide) c9)
      refine lv_iinc (v := 6) (lv' := [(4, .int 6), (3, .ref o), (2, .ref h2), (1, .ref h1), (0, .ref b)]) hx hb dL_law_2131 hl (k := 0) rfl (by decide) (by decide) rfl (fun ls hl => ?_)
      refine lv_goto (tgt := 23) hx hb dL_law_2134 (by decide) ?_
      refine lv_iload hx hb dL_law_23 (lv_at hl 0 rfl) ?_
      refine lv_aload_n hx hb dL_law_25 rfl (lv_at hl 4 rfl) ?_
      refine va_slen hx hb hX hbl hbA hS dL_law_26 ?_
      refine lv_topi (fun y5 hy5 => ?_)
      obtain rfl : 6 = y5 := (hy5.trans (rfl)).symm
      refine lv_bipush (v := 6) hx hb dL_law_27 (by decide) ?_
      refine lv_isub hx hb dL_law_29 ?_
      refine lv_topi (fun y6 hy6 => ?_)
      obtain rfl : 0 = y6 := (hy6.trans (by decide)).symm
      refine lv_icmp_gt (tgt := 2137) hx hb dL_law_30 (by decide) (fun _ => ?_) (fun c9 => absurd (by decide) c9)
      refine lv_iconst (v := 1) hx hb dL_law_2137 (by decide) ?_
      refine W.widen (k := 600002) (n := 7302232) (by decide +kernel) (by decide +kernel) ?_
      refine va_forget (fun q hq => hA2 _ (hS.2.2 q hq)) ?_
      exact lw_ret hx hb hr hlocks dL_law_2138
    · refine lv_icmp_eq (tgt := 2131) hx hb dL_law_383 (by decide) (fun c9 => absurd c9 (by decide)) (fun _ => ?_)
      refine lv_iconst (v := 0) hx hb dL_law_386 (by decide) ?_
      refine W.widen (k := 600002) (n := 7302232) (by decide +kernel) (by decide +kernel) ?_
      exact False.elim (by omega)
  · refine lv_aload_n hx hb dL_law_373 rfl (lv_at hl 2 rfl) ?_
    refine lv_aload_n hx hb dL_law_374 rfl (lv_at hl 4 rfl) ?_
    refine lv_iload hx hb dL_law_375 (lv_at hl 0 rfl) ?_
    refine lv_iconst (v := 1) hx hb dL_law_377 (by decide) ?_
    refine lv_iadd hx hb dL_law_378 ?_
    refine lv_topi (fun y7 hy7 => ?_)
    obtain rfl : 1 = y7 := (hy7.trans (by decide)).symm
    refine va_sld hx hb hX hbl hbA hS (show ¬ ((1 : Int32) < 0 ∨ 6 ≤ (1 : Int32).toNatClampNeg) by decide) dL_law_379 ?_
    refine lv_topi (fun y8 hy8 => ?_)
    obtain rfl : (xs 1) = y8 := (hy8.trans (rfl)).symm
    have hPc := hP.sub (ws' := [(h2, .inr (12, fM (vM av)))]) [0] rfl
    have hDc := hD.sub (ws' := [(h2, .inr (12, fM (vM av)))]) [0] (by decide) rfl
    have hKc := hK.sub (tys' := []) [] rfl
    have hFc := va_free (wc := [(h2, .inr (12, fM (vM av)))]) hD hS hA [0] rfl
    refine va_calli (va_runV (As := [.int (xs 1)]) (rest := [.int (-1)]) ⟨hx, hb, hml, hown, hts⟩ (p_X12_fault l dC dI h2 (vM av) (rfl) (rfl) (xs 1) H.size) (cwV 1 hts glaw4_1 rfl rfl rfl (by decide +kernel) ⟨by decide +kernel, by decide +kernel⟩) ⟨fun a U g mk q => by obtain ⟨q0, q1, qP, qK, qD⟩ := q; exact ⟨q0, q1, qP, va_K.moved (u := U) (U := U.calling g mk a) (Vm.Alike.refl U.vm) qK, qD⟩, va_recv hKc hPc (ci := 12) (q0 := 0) rfl rfl, fun U hU9 hW => ⟨rfl, by rw [hU9], by rw [hU9]; exact hPc, va_K.moved hW.alike hKc, hDc.weaken (fun _ _ _ _ => trivial)⟩⟩ rfl rfl hl.1 rfl (lv_room (Nat.le_of_ble_eq_true rfl)) dL_law_380 ⟨by decide +kernel, by decide +kernel⟩) hS (fun q _ h => hFc q h) hFc (fun r380_1 u t H1 locs ht hvm hw hB hz1 hk1 hS => ?_)
    obtain ⟨w380_1, hwit380_1⟩ : ∃ w9, w9 = u := ⟨u, rfl⟩
    subst hwit380_1
    obtain ⟨hP1, hK1, hD1⟩ := hB
    rw [ht] at hP1
    have hK1 := va_K.moved hvm.symm hK1
    obtain ⟨hP, hD⟩ := va_join (wr := [(o, .inl (kO, 1, .inr (.inl (fun _ => 0))))]) (w1 := [(h2, .inr (12, fM w380_1))]) hP hD [0] [1] rfl rfl (by decide) (by decide) hk1 hFc hP1 hD1
    generalize H1 = H at hP hS ⊢
    have hP : va_P (dC, dI) vwCl [(o, .inl (kO, 1, .inr (.inl (fun _ => 0)))), (h2, .inr (12, fM w380_1))] H := hP
    have hD : va_D A [(o, .inl (kO, 1, .inr (.inl (fun _ => 0)))), (h2, .inr (12, fM w380_1))] := hD
    rcases hw with ⟨rfl, f380_1_0, f380_1_1⟩ | ⟨rfl, f380_1_0, f380_1_1⟩
    · refine lv_icmp_eq (tgt := 2131) hx hb dL_law_383 (by decide) (fun c9 => absurd c9 (by decide)) (fun _ => ?_)
      refine lv_iconst (v := 0) hx hb dL_law_386 (by decide) ?_
      refine W.widen (k := 600002) (n := 7302232) (by decide +kernel) (by decide +kernel) ?_
      exact False.elim (by omega)
    · refine lv_icmp_eq (tgt := 2131) hx hb dL_law_383 (by decide) (fun _ => ?_) (fun c9 => absurd (by decide) c9)
      refine lv_iinc (v := 6) (lv' := [(4, .int 6), (3, .ref o), (2, .ref h2), (1, .ref h1), (0, .ref b)]) hx hb dL_law_2131 hl (k := 0) rfl (by decide) (by decide) rfl (fun ls hl => ?_)
      refine lv_goto (tgt := 23) hx hb dL_law_2134 (by decide) ?_
      refine lv_iload hx hb dL_law_23 (lv_at hl 0 rfl) ?_
      refine lv_aload_n hx hb dL_law_25 rfl (lv_at hl 4 rfl) ?_
      refine va_slen hx hb hX hbl hbA hS dL_law_26 ?_
      refine lv_topi (fun y9 hy9 => ?_)
      obtain rfl : 6 = y9 := (hy9.trans (rfl)).symm
      refine lv_bipush (v := 6) hx hb dL_law_27 (by decide) ?_
      refine lv_isub hx hb dL_law_29 ?_
      refine lv_topi (fun y10 hy10 => ?_)
      obtain rfl : 0 = y10 := (hy10.trans (by decide)).symm
      refine lv_icmp_gt (tgt := 2137) hx hb dL_law_30 (by decide) (fun _ => ?_) (fun c9 => absurd (by decide) c9)
      refine lv_iconst (v := 1) hx hb dL_law_2137 (by decide) ?_
      refine W.widen (k := 600002) (n := 7302232) (by decide +kernel) (by decide +kernel) ?_
      refine va_forget (fun q hq => hA2 _ (hS.2.2 q hq)) ?_
      exact lw_ret hx hb hr hlocks dL_law_2138
theorem dL_law_388 : decode cL_law 388 = .ok (.aload_n 1, 1) := by decide +kernel
theorem dL_law_389 : decode cL_law 389 = .ok (.aload_n 0, 1) := by decide +kernel
theorem dL_law_390 : decode cL_law 390 = .ok (.iload 4, 2) := by decide +kernel
theorem dL_law_392 : decode cL_law 392 = .ok (.iconst 1, 1) := by decide +kernel
theorem dL_law_393 : decode cL_law 393 = .ok (.iadd, 1) := by decide +kernel
theorem dL_law_394 : decode cL_law 394 = .ok (.iaload, 1) := by decide +kernel
theorem dL_law_395 : decode cL_law 395 = .ok (.aload_n 0, 1) := by decide +kernel
theorem dL_law_396 : decode cL_law 396 = .ok (.iload 4, 2) := by decide +kernel
theorem dL_law_398 : decode cL_law 398 = .ok (.iconst 2, 1) := by decide +kernel
theorem dL_law_399 : decode cL_law 399 = .ok (.iadd, 1) := by decide +kernel
theorem dL_law_400 : decode cL_law 400 = .ok (.iaload, 1) := by decide +kernel
theorem dL_law_401 : decode cL_law 401 = .ok (.aload_n 3, 1) := by decide +kernel
theorem dL_law_402 : decode cL_law 402 = .ok (.invokestatic 118, 3) := by decide +kernel
theorem dL_law_405 : decode cL_law 405 = .ok (.istore 5, 2) := by decide +kernel
theorem dL_law_407 : decode cL_law 407 = .ok (.aload_n 2, 1) := by decide +kernel
theorem dL_law_408 : decode cL_law 408 = .ok (.aload_n 0, 1) := by decide +kernel
theorem dL_law_409 : decode cL_law 409 = .ok (.iload 4, 2) := by decide +kernel
theorem dL_law_411 : decode cL_law 411 = .ok (.iconst 1, 1) := by decide +kernel
theorem dL_law_412 : decode cL_law 412 = .ok (.iadd, 1) := by decide +kernel
theorem dL_law_413 : decode cL_law 413 = .ok (.iaload, 1) := by decide +kernel
theorem dL_law_414 : decode cL_law 414 = .ok (.aload_n 0, 1) := by decide +kernel
theorem dL_law_415 : decode cL_law 415 = .ok (.iload 4, 2) := by decide +kernel
theorem dL_law_417 : decode cL_law 417 = .ok (.iconst 2, 1) := by decide +kernel
theorem dL_law_418 : decode cL_law 418 = .ok (.iadd, 1) := by decide +kernel
theorem dL_law_419 : decode cL_law 419 = .ok (.iaload, 1) := by decide +kernel
theorem dL_law_420 : decode cL_law 420 = .ok (.invokevirtual 121, 3) := by decide +kernel
theorem dL_law_423 : decode cL_law 423 = .ok (.istore 6, 2) := by decide +kernel
theorem dL_law_425 : decode cL_law 425 = .ok (.aload_n 2, 1) := by decide +kernel
theorem dL_law_426 : decode cL_law 426 = .ok (.invokevirtual 111, 3) := by decide +kernel
theorem dL_law_429 : decode cL_law 429 = .ok (.iload 5, 2) := by decide +kernel
theorem dL_law_431 : decode cL_law 431 = .ok (.if_icmp .eq 5, 3) := by decide +kernel
theorem dL_law_436 : decode cL_law 436 = .ok (.iload 5, 2) := by decide +kernel
theorem dL_law_438 : decode cL_law 438 = .ok (.ifCond .ne 15, 3) := by decide +kernel
theorem dL_law_453 : decode cL_law 453 = .ok (.goto 1678, 3) := by decide +kernel
theorem glaw5_0 : GoodIn lw_tbl (va_wsS RL 118 yL_variable wsPL_variable) := goodIn_sub ((List.forall_mem_append.mpr ⟨(mem_p ([.methodLink RL 118 yL_variable, .static yL_variable, .initialized "OptimaWorksLaw"] : List Cond) [(6, 119), (6, 120), (1, 0)] (by decide +kernel)), ml_wsPL_variable⟩ : ∀ w ∈ va_wsS RL 118 yL_variable wsPL_variable, w ∈ lw_tbl)) (by decide +kernel)
theorem glaw5_1 : GoodIn lw_tbl (wsV RL 121 RX12 yX12_variable wsPX12_variable) := goodIn_sub ((List.forall_mem_append.mpr ⟨(mem_p ([.methodLink RL 121 yX12_variable, .instanceMethod yX12_variable, .selects RX12 yX12_variable yX12_variable, .initialized RX12] : List Cond) [(15, 76), (15, 77), (15, 78), (1, 4)] (by decide +kernel)), ml_wsPX12_variable⟩ : ∀ w ∈ wsV RL 121 RX12 yX12_variable wsPX12_variable, w ∈ lw_tbl)) (by decide +kernel)
theorem glaw5_2 : GoodIn lw_tbl (wsV RL 111 RX12 yX12_thrown wsPX12_thrown) := goodIn_sub ((List.forall_mem_append.mpr ⟨(mem_p ([.methodLink RL 111 yX12_thrown, .instanceMethod yX12_thrown, .selects RX12 yX12_thrown yX12_thrown, .initialized RX12] : List Cond) [(12, 139), (12, 140), (12, 141), (1, 4)] (by decide +kernel)), ml_wsPX12_thrown⟩ : ∀ w ∈ wsV RL 111 RX12 yX12_thrown wsPX12_thrown, w ∈ lw_tbl)) (by decide +kernel)
set_option maxHeartbeats 4000000 in
set_option maxRecDepth 100000 in
/-- the law's case 5: variable -/
theorem lc_5 {p : Program} {e : Env} {s : State} {m : MethodId} {below : List Frame} {meth : Method} {c : Code} (l : Launch) (hst : l.stackTraces = false) {b : Nat} {xs : Nat → Int32} (C0 : lw_At p s m meth c b 6 xs) {A : Nat → Prop} (hA : ∀ q : Nat, s.heap.size ≤ q → A q) (hA2 : ∀ q : Nat, A q → s.heap.size ≤ q) (X0 : lx_ok A s) (dC : Nat → ClassId) (dI : Nat → Nat → Nat) {h1 h2 o : Nat} {a : Nat → Nat} {k : Nat → ClassId} {av : Nat → Nat} {kv : Nat → ClassId} {kO : ClassId} {H : Heap} {locs : List Loc} {ls : Array Slot} (hK : va_K (dC, dI) vwCl [(kO, .long)] s) (hP : va_P (dC, dI) vwCl [(h1, .inr (11, [.ref (a 0), .ref (a 1), .ref (a 3), .ref (a 14), .int 0, .null, .null, .null, .null, .null, .null])), ((a 3), .inr (1, [.int 0, .int 0, .int 0, .int 0, .int 0, .int 0, .ref (a 4), .ref (a 5), .ref (a 6), .ref (a 7), .int 0, .ref (a 8), .ref (a 9), .ref (a 10), .ref (a 11), .ref (a 12), .ref (a 13)])), (h2, .inr (12, fM (vM av))), (o, .inl (kO, 1, .inr (.inl (fun _ => 0))))] H) (hD : va_D A [(h1, .inr (11, [.ref (a 0), .ref (a 1), .ref (a 3), .ref (a 14), .int 0, .null, .null, .null, .null, .null, .null])), ((a 3), .inr (1, [.int 0, .int 0, .int 0, .int 0, .int 0, .int 0, .ref (a 4), .ref (a 5), .ref (a 6), .ref (a 7), .int 0, .ref (a 8), .ref (a 9), .ref (a 10), .ref (a 11), .ref (a 12), .ref (a 13)])), (h2, .inr (12, fM (vM av))), (o, .inl (kO, 1, .inr (.inl (fun _ => 0))))]) (hS : va_S A s.heap H locs) (hl : lv_has ls 7 [(4, .int 0), (3, .ref o), (2, .ref h2), (1, .ref h1), (0, .ref b)]) : W p l e room_1 s m #[Value.ref b] below meth c H locs 125 181434 (lw_Z below #[Value.ref b] s) (F0 m 388 ls []) := by
  obtain ⟨hx, hb, hr, hml, hown, hts, hX, hbl, hlocks, hgv⟩ := id C0
  have hb : c.code = cL_law := hb
  have hown : s.vm.findClass RL = some m.cls := hown
  obtain ⟨hU, hN, hnX11_343, hnX11_392, hnX11_421, hncAI, hngX11_161, hngX11_79, hngX11_95⟩ := X0
  have hbA : ¬ A b := fun h => absurd (hA2 b h) (Nat.not_le.mpr hbl)
  refine lv_aload_n hx hb dL_law_388 rfl (lv_at hl 3 rfl) ?_
  refine lv_aload_n hx hb dL_law_389 rfl (lv_at hl 4 rfl) ?_
  refine lv_iload hx hb dL_law_390 (lv_at hl 0 rfl) ?_
  refine lv_iconst (v := 1) hx hb dL_law_392 (by decide) ?_
  refine lv_iadd hx hb dL_law_393 ?_
  refine lv_topi (fun y1 hy1 => ?_)
  obtain rfl : 1 = y1 := (hy1.trans (by decide)).symm
  refine va_sld hx hb hX hbl hbA hS (show ¬ ((1 : Int32) < 0 ∨ 6 ≤ (1 : Int32).toNatClampNeg) by decide) dL_law_394 ?_
  refine lv_topi (fun y2 hy2 => ?_)
  obtain rfl : (xs 1) = y2 := (hy2.trans (rfl)).symm
  refine lv_aload_n hx hb dL_law_395 rfl (lv_at hl 4 rfl) ?_
  refine lv_iload hx hb dL_law_396 (lv_at hl 0 rfl) ?_
  refine lv_iconst (v := 2) hx hb dL_law_398 (by decide) ?_
  refine lv_iadd hx hb dL_law_399 ?_
  refine lv_topi (fun y3 hy3 => ?_)
  obtain rfl : 2 = y3 := (hy3.trans (by decide)).symm
  refine va_sld hx hb hX hbl hbA hS (show ¬ ((2 : Int32) < 0 ∨ 6 ≤ (2 : Int32).toNatClampNeg) by decide) dL_law_400 ?_
  refine lv_topi (fun y4 hy4 => ?_)
  obtain rfl : (xs 2) = y4 := (hy4.trans (rfl)).symm
  refine lv_aload_n hx hb dL_law_401 rfl (lv_at hl 1 rfl) ?_
  have hPc := hP.sub (ws' := [(h1, .inr (11, [.ref (a 0), .ref (a 1), .ref (a 3), .ref (a 14), .int 0, .null, .null, .null, .null, .null, .null])), ((a 3), .inr (1, [.int 0, .int 0, .int 0, .int 0, .int 0, .int 0, .ref (a 4), .ref (a 5), .ref (a 6), .ref (a 7), .int 0, .ref (a 8), .ref (a 9), .ref (a 10), .ref (a 11), .ref (a 12), .ref (a 13)])), (o, .inl (kO, 1, .inr (.inl (fun _ => 0))))]) [0, 1, 3] rfl
  have hDc := hD.sub (ws' := [(h1, .inr (11, [.ref (a 0), .ref (a 1), .ref (a 3), .ref (a 14), .int 0, .null, .null, .null, .null, .null, .null])), ((a 3), .inr (1, [.int 0, .int 0, .int 0, .int 0, .int 0, .int 0, .ref (a 4), .ref (a 5), .ref (a 6), .ref (a 7), .int 0, .ref (a 8), .ref (a 9), .ref (a 10), .ref (a 11), .ref (a 12), .ref (a 13)])), (o, .inl (kO, 1, .inr (.inl (fun _ => 0))))]) [0, 1, 3] (by decide) rfl
  have hKc := hK.sub (tys' := [(kO, .long)]) [0] rfl
  have hFc := va_free (wc := [(h1, .inr (11, [.ref (a 0), .ref (a 1), .ref (a 3), .ref (a 14), .int 0, .null, .null, .null, .null, .null, .null])), ((a 3), .inr (1, [.int 0, .int 0, .int 0, .int 0, .int 0, .int 0, .ref (a 4), .ref (a 5), .ref (a 6), .ref (a 7), .int 0, .ref (a 8), .ref (a 9), .ref (a 10), .ref (a 11), .ref (a 12), .ref (a 13)])), (o, .inl (kO, 1, .inr (.inl (fun _ => 0))))]) hD hS hA [0, 1, 3] rfl
  refine va_calli (vx_runSW (As := [.ref h1, .int (xs 1), .int (xs 2), .ref o]) (rest := []) ⟨hx, hb, hml, hown, hts⟩ (p_L_variable l hst dC dI h1 a o kO (xs 1) (xs 2) H.size) (vx_cwSW 4 hts glaw5_0 rfl rfl rfl (by decide +kernel) ⟨by decide +kernel, by decide +kernel⟩) ⟨fun a U g mk q => by obtain ⟨q0, q1, qP, qK, qD, qU, qN, qngX11_95⟩ := q; exact ⟨q0, q1, qP, va_K.moved (u := U) (U := U.calling g mk a) (Vm.Alike.refl U.vm) qK, qD, vx_Zq.moved (u := U) (U := U.calling g mk a) (Vm.Alike.refl U.vm) qU, vx_Zq.moved (u := U) (U := U.calling g mk a) (Vm.Alike.refl U.vm) qN, fun w h => va_Nw.same (u := U) (U := U.calling g mk a) (ngX11_95_ot w h) rfl (qngX11_95 w h)⟩, fun U hU9 hW => ⟨rfl, by rw [hU9], by rw [hU9]; exact hPc, va_K.moved hW.alike hKc, hDc.weaken (fun _ _ _ _ => trivial), by rw [hU9]; exact ((hU.kept (fun a h1 h2 => hS.2.1 a h1 h2)).narrow hFc).moved hW.alike, by rw [hU9]; exact ((hN.kept (fun a h1 h2 => hS.2.1 a h1 h2)).narrow hFc).moved hW.alike, fun w h => cd_warm (ngX11_95_cd w h) hW (hngX11_95 w h)⟩⟩ rfl rfl hl.1 rfl (lv_room (Nat.le_of_ble_eq_true rfl)) dL_law_402 ⟨by decide +kernel, by decide +kernel⟩) hS (fun q _ h => hFc q h) hFc (fun r402 u t H1 locs ht hvm hw hB hz1 hk1 hS => ?_)
  obtain ⟨go402, hwit402⟩ : ∃ w9, w9 = u := ⟨u, rfl⟩
  subst hwit402
  obtain ⟨hP1, hK1, hD1⟩ := hB
  rw [ht] at hP1
  have hK1 := va_K.moved hvm.symm hK1
  obtain ⟨hP, hD⟩ := va_join (wr := [(h2, .inr (12, fM (vM av)))]) (w1 := [(o, .inl (kO, 1, .inr (.inl go402)))]) hP hD [0, 1, 3] [2] rfl rfl (by decide) (by decide) hk1 hFc hP1 hD1
  generalize H1 = H at hP hS ⊢
  have hP : va_P (dC, dI) vwCl [(h2, .inr (12, fM (vM av))), (o, .inl (kO, 1, .inr (.inl go402)))] H := hP
  have hD : va_D A [(h2, .inr (12, fM (vM av))), (o, .inl (kO, 1, .inr (.inl go402)))] := hD
  refine W.widen (k := 126) (n := 181440) (by decide +kernel) (by decide +kernel) ?_
  obtain rfl := hw
  refine lv_istore (lv' := [(5, .int 1), (4, .int 0), (3, .ref o), (2, .ref h2), (1, .ref h1), (0, .ref b)]) hx hb dL_law_405 hl (by decide) rfl (fun ls hl => ?_)
  refine lv_aload_n hx hb dL_law_407 rfl (lv_at hl 3 rfl) ?_
  refine lv_aload_n hx hb dL_law_408 rfl (lv_at hl 5 rfl) ?_
  refine lv_iload hx hb dL_law_409 (lv_at hl 1 rfl) ?_
  refine lv_iconst (v := 1) hx hb dL_law_411 (by decide) ?_
  refine lv_iadd hx hb dL_law_412 ?_
  refine lv_topi (fun y5 hy5 => ?_)
  obtain rfl : 1 = y5 := (hy5.trans (by decide)).symm
  refine va_sld hx hb hX hbl hbA hS (show ¬ ((1 : Int32) < 0 ∨ 6 ≤ (1 : Int32).toNatClampNeg) by decide) dL_law_413 ?_
  refine lv_topi (fun y6 hy6 => ?_)
  obtain rfl : (xs 1) = y6 := (hy6.trans (rfl)).symm
  refine lv_aload_n hx hb dL_law_414 rfl (lv_at hl 5 rfl) ?_
  refine lv_iload hx hb dL_law_415 (lv_at hl 1 rfl) ?_
  refine lv_iconst (v := 2) hx hb dL_law_417 (by decide) ?_
  refine lv_iadd hx hb dL_law_418 ?_
  refine lv_topi (fun y7 hy7 => ?_)
  obtain rfl : 2 = y7 := (hy7.trans (by decide)).symm
  refine va_sld hx hb hX hbl hbA hS (show ¬ ((2 : Int32) < 0 ∨ 6 ≤ (2 : Int32).toNatClampNeg) by decide) dL_law_419 ?_
  refine lv_topi (fun y8 hy8 => ?_)
  obtain rfl : (xs 2) = y8 := (hy8.trans (rfl)).symm
  have hPc := hP.sub (ws' := [(h2, .inr (12, fM (vM av)))]) [0] rfl
  have hDc := hD.sub (ws' := [(h2, .inr (12, fM (vM av)))]) [0] (by decide) rfl
  have hKc := hK.sub (tys' := []) [] rfl
  have hFc := va_free (wc := [(h2, .inr (12, fM (vM av)))]) hD hS hA [0] rfl
  refine va_calli (va_runV (As := [.int (xs 1), .int (xs 2)]) (rest := []) ⟨hx, hb, hml, hown, hts⟩ (p_X12_variable l dC dI h2 (vM av) (rfl) (xs 1) (xs 2) H.size) (cwV 2 hts glaw5_1 rfl rfl rfl (by decide +kernel) ⟨by decide +kernel, by decide +kernel⟩) ⟨fun a U g mk q => by obtain ⟨q0, q1, qP, qK, qD⟩ := q; exact ⟨q0, q1, qP, va_K.moved (u := U) (U := U.calling g mk a) (Vm.Alike.refl U.vm) qK, qD⟩, va_recv hKc hPc (ci := 12) (q0 := 0) rfl rfl, fun U hU9 hW => ⟨rfl, by rw [hU9], by rw [hU9]; exact hPc, va_K.moved hW.alike hKc, hDc.weaken (fun _ _ _ _ => trivial)⟩⟩ rfl rfl hl.1 rfl (lv_room (Nat.le_of_ble_eq_true rfl)) dL_law_420 ⟨by decide +kernel, by decide +kernel⟩) hS (fun q _ h => hFc q h) hFc (fun r420 u t H1 locs ht hvm hw hB hz1 hk1 hS => ?_)
  obtain ⟨w420, hwit420⟩ : ∃ w9, w9 = u := ⟨u, rfl⟩
  subst hwit420
  obtain ⟨hP1, hK1, hD1⟩ := hB
  rw [ht] at hP1
  have hK1 := va_K.moved hvm.symm hK1
  obtain ⟨hP, hD⟩ := va_join (wr := [(o, .inl (kO, 1, .inr (.inl go402)))]) (w1 := [(h2, .inr (12, fM w420))]) hP hD [0] [1] rfl rfl (by decide) (by decide) hk1 hFc hP1 hD1
  generalize H1 = H at hP hS ⊢
  have hP : va_P (dC, dI) vwCl [(o, .inl (kO, 1, .inr (.inl go402))), (h2, .inr (12, fM w420))] H := hP
  have hD : va_D A [(o, .inl (kO, 1, .inr (.inl go402))), (h2, .inr (12, fM w420))] := hD
  obtain ⟨rfl, f420_0⟩ := hw
  refine lv_istore (lv' := [(6, .int 0), (5, .int 1), (4, .int 0), (3, .ref o), (2, .ref h2), (1, .ref h1), (0, .ref b)]) hx hb dL_law_423 hl (by decide) rfl (fun ls hl => ?_)
  refine lv_aload_n hx hb dL_law_425 rfl (lv_at hl 4 rfl) ?_
  have hPc := hP.sub (ws' := [(h2, .inr (12, fM w420))]) [1] rfl
  have hDc := hD.sub (ws' := [(h2, .inr (12, fM w420))]) [1] (by decide) rfl
  have hKc := hK.sub (tys' := []) [] rfl
  have hFc := va_free (wc := [(h2, .inr (12, fM w420))]) hD hS hA [1] rfl
  refine va_calli (va_runV (As := []) (rest := []) ⟨hx, hb, hml, hown, hts⟩ (p_X12_thrown l dC dI h2 w420 1 (f420_0) H.size) (cwV 0 hts glaw5_2 rfl rfl rfl (by decide +kernel) ⟨by decide +kernel, by decide +kernel⟩) ⟨fun a U g mk q => by obtain ⟨q0, q1, qP, qK, qD⟩ := q; exact ⟨q0, q1, qP, va_K.moved (u := U) (U := U.calling g mk a) (Vm.Alike.refl U.vm) qK, qD⟩, va_recv hKc hPc (ci := 12) (q0 := 0) rfl rfl, fun U hU9 hW => ⟨rfl, by rw [hU9], by rw [hU9]; exact hPc, va_K.moved hW.alike hKc, hDc.weaken (fun _ _ _ _ => trivial)⟩⟩ rfl rfl hl.1 rfl (lv_room (Nat.le_of_ble_eq_true rfl)) dL_law_426 ⟨by decide +kernel, by decide +kernel⟩) hS (fun q _ h => hFc q h) hFc (fun r426 u t H1 locs ht hvm hw hB hz1 hk1 hS => ?_)
  obtain ⟨hP1, hK1, hD1⟩ := hB
  rw [ht] at hP1
  have hK1 := va_K.moved hvm.symm hK1
  obtain ⟨hP, hD⟩ := va_join (wr := [(o, .inl (kO, 1, .inr (.inl go402)))]) (w1 := []) hP hD [1] [0] rfl rfl (by decide) (by decide) hk1 hFc hP1 hD1
  generalize H1 = H at hP hS ⊢
  have hP : va_P (dC, dI) vwCl [(o, .inl (kO, 1, .inr (.inl go402)))] H := hP
  have hD : va_D A [(o, .inl (kO, 1, .inr (.inl go402)))] := hD
  obtain rfl := hw
  refine lv_iload hx hb dL_law_429 (lv_at hl 1 rfl) ?_
  refine lv_icmp_eq (tgt := 436) hx hb dL_law_431 (by decide) (fun _ => ?_) (fun c9 => absurd (by decide) c9)
  refine lv_iload hx hb dL_law_436 (lv_at hl 1 rfl) ?_
  refine lv_if_ne (tgt := 453) hx hb dL_law_438 (by decide) (fun _ => ?_) (fun c9 => absurd c9 (by decide))
  refine lv_goto (tgt := 2131) hx hb dL_law_453 (by decide) ?_
  refine lv_iinc (v := 6) (lv' := [(4, .int 6), (6, .int 0), (5, .int 1), (3, .ref o), (2, .ref h2), (1, .ref h1), (0, .ref b)]) hx hb dL_law_2131 hl (k := 2) rfl (by decide) (by decide) rfl (fun ls hl => ?_)
  refine lv_goto (tgt := 23) hx hb dL_law_2134 (by decide) ?_
  refine lv_iload hx hb dL_law_23 (lv_at hl 0 rfl) ?_
  refine lv_aload_n hx hb dL_law_25 rfl (lv_at hl 6 rfl) ?_
  refine va_slen hx hb hX hbl hbA hS dL_law_26 ?_
  refine lv_topi (fun y9 hy9 => ?_)
  obtain rfl : 6 = y9 := (hy9.trans (rfl)).symm
  refine lv_bipush (v := 6) hx hb dL_law_27 (by decide) ?_
  refine lv_isub hx hb dL_law_29 ?_
  refine lv_topi (fun y10 hy10 => ?_)
  obtain rfl : 0 = y10 := (hy10.trans (by decide)).symm
  refine lv_icmp_gt (tgt := 2137) hx hb dL_law_30 (by decide) (fun _ => ?_) (fun c9 => absurd (by decide) c9)
  refine lv_iconst (v := 1) hx hb dL_law_2137 (by decide) ?_
  refine W.widen (k := 600002) (n := 7302232) (by decide +kernel) (by decide +kernel) ?_
  refine va_forget (fun q hq => hA2 _ (hS.2.2 q hq)) ?_
  exact lw_ret hx hb hr hlocks dL_law_2138
theorem dL_law_456 : decode cL_law 456 = .ok (.aload_n 1, 1) := by decide +kernel
theorem dL_law_457 : decode cL_law 457 = .ok (.aload_n 0, 1) := by decide +kernel
theorem dL_law_458 : decode cL_law 458 = .ok (.iload 4, 2) := by decide +kernel
theorem dL_law_460 : decode cL_law 460 = .ok (.iconst 1, 1) := by decide +kernel
theorem dL_law_461 : decode cL_law 461 = .ok (.iadd, 1) := by decide +kernel
theorem dL_law_462 : decode cL_law 462 = .ok (.iaload, 1) := by decide +kernel
theorem dL_law_463 : decode cL_law 463 = .ok (.aload_n 0, 1) := by decide +kernel
theorem dL_law_464 : decode cL_law 464 = .ok (.iload 4, 2) := by decide +kernel
theorem dL_law_466 : decode cL_law 466 = .ok (.iconst 2, 1) := by decide +kernel
theorem dL_law_467 : decode cL_law 467 = .ok (.iadd, 1) := by decide +kernel
theorem dL_law_468 : decode cL_law 468 = .ok (.iaload, 1) := by decide +kernel
theorem dL_law_469 : decode cL_law 469 = .ok (.aload_n 0, 1) := by decide +kernel
theorem dL_law_470 : decode cL_law 470 = .ok (.iload 4, 2) := by decide +kernel
theorem dL_law_472 : decode cL_law 472 = .ok (.iconst 3, 1) := by decide +kernel
theorem dL_law_473 : decode cL_law 473 = .ok (.iadd, 1) := by decide +kernel
theorem dL_law_474 : decode cL_law 474 = .ok (.iaload, 1) := by decide +kernel
theorem dL_law_475 : decode cL_law 475 = .ok (.aload_n 3, 1) := by decide +kernel
theorem dL_law_476 : decode cL_law 476 = .ok (.invokestatic 122, 3) := by decide +kernel
theorem dL_law_479 : decode cL_law 479 = .ok (.istore 5, 2) := by decide +kernel
theorem dL_law_481 : decode cL_law 481 = .ok (.aload_n 2, 1) := by decide +kernel
theorem dL_law_482 : decode cL_law 482 = .ok (.aload_n 0, 1) := by decide +kernel
theorem dL_law_483 : decode cL_law 483 = .ok (.iload 4, 2) := by decide +kernel
theorem dL_law_485 : decode cL_law 485 = .ok (.iconst 1, 1) := by decide +kernel
theorem dL_law_486 : decode cL_law 486 = .ok (.iadd, 1) := by decide +kernel
theorem dL_law_487 : decode cL_law 487 = .ok (.iaload, 1) := by decide +kernel
theorem dL_law_488 : decode cL_law 488 = .ok (.aload_n 0, 1) := by decide +kernel
theorem dL_law_489 : decode cL_law 489 = .ok (.iload 4, 2) := by decide +kernel
theorem dL_law_491 : decode cL_law 491 = .ok (.iconst 2, 1) := by decide +kernel
theorem dL_law_492 : decode cL_law 492 = .ok (.iadd, 1) := by decide +kernel
theorem dL_law_493 : decode cL_law 493 = .ok (.iaload, 1) := by decide +kernel
theorem dL_law_494 : decode cL_law 494 = .ok (.aload_n 0, 1) := by decide +kernel
theorem dL_law_495 : decode cL_law 495 = .ok (.iload 4, 2) := by decide +kernel
theorem dL_law_497 : decode cL_law 497 = .ok (.iconst 3, 1) := by decide +kernel
theorem dL_law_498 : decode cL_law 498 = .ok (.iadd, 1) := by decide +kernel
theorem dL_law_499 : decode cL_law 499 = .ok (.iaload, 1) := by decide +kernel
theorem dL_law_500 : decode cL_law 500 = .ok (.invokevirtual 125, 3) := by decide +kernel
theorem dL_law_503 : decode cL_law 503 = .ok (.istore 6, 2) := by decide +kernel
theorem dL_law_505 : decode cL_law 505 = .ok (.aload_n 2, 1) := by decide +kernel
theorem dL_law_506 : decode cL_law 506 = .ok (.invokevirtual 111, 3) := by decide +kernel
theorem dL_law_509 : decode cL_law 509 = .ok (.iload 5, 2) := by decide +kernel
theorem dL_law_511 : decode cL_law 511 = .ok (.if_icmp .eq 5, 3) := by decide +kernel
theorem dL_law_516 : decode cL_law 516 = .ok (.iload 5, 2) := by decide +kernel
theorem dL_law_518 : decode cL_law 518 = .ok (.ifCond .ne 15, 3) := by decide +kernel
theorem dL_law_533 : decode cL_law 533 = .ok (.goto 1598, 3) := by decide +kernel
theorem glaw6_0 : GoodIn lw_tbl (va_wsS RL 122 yL_row wsPL_row) := goodIn_sub ((List.forall_mem_append.mpr ⟨(mem_p ([.methodLink RL 122 yL_row, .static yL_row, .initialized "OptimaWorksLaw"] : List Cond) [(6, 142), (6, 143), (1, 0)] (by decide +kernel)), ml_wsPL_row⟩ : ∀ w ∈ va_wsS RL 122 yL_row wsPL_row, w ∈ lw_tbl)) (by decide +kernel)
theorem glaw6_1 : GoodIn lw_tbl (wsV RL 125 RX12 yX12_row wsPX12_row) := goodIn_sub ((List.forall_mem_append.mpr ⟨(mem_p ([.methodLink RL 125 yX12_row, .instanceMethod yX12_row, .selects RX12 yX12_row yX12_row, .initialized RX12] : List Cond) [(15, 80), (15, 81), (15, 82), (1, 4)] (by decide +kernel)), ml_wsPX12_row⟩ : ∀ w ∈ wsV RL 125 RX12 yX12_row wsPX12_row, w ∈ lw_tbl)) (by decide +kernel)
theorem glaw6_2 : GoodIn lw_tbl (wsV RL 111 RX12 yX12_thrown wsPX12_thrown) := goodIn_sub ((List.forall_mem_append.mpr ⟨(mem_p ([.methodLink RL 111 yX12_thrown, .instanceMethod yX12_thrown, .selects RX12 yX12_thrown yX12_thrown, .initialized RX12] : List Cond) [(12, 139), (12, 140), (12, 141), (1, 4)] (by decide +kernel)), ml_wsPX12_thrown⟩ : ∀ w ∈ wsV RL 111 RX12 yX12_thrown wsPX12_thrown, w ∈ lw_tbl)) (by decide +kernel)
set_option maxHeartbeats 4000000 in
set_option maxRecDepth 100000 in
/-- the law's case 6: row -/
theorem lc_6 {p : Program} {e : Env} {s : State} {m : MethodId} {below : List Frame} {meth : Method} {c : Code} (l : Launch) (hst : l.stackTraces = false) {b : Nat} {xs : Nat → Int32} (C0 : lw_At p s m meth c b 6 xs) {A : Nat → Prop} (hA : ∀ q : Nat, s.heap.size ≤ q → A q) (hA2 : ∀ q : Nat, A q → s.heap.size ≤ q) (X0 : lx_ok A s) (dC : Nat → ClassId) (dI : Nat → Nat → Nat) {h1 h2 o : Nat} {a : Nat → Nat} {k : Nat → ClassId} {av : Nat → Nat} {kv : Nat → ClassId} {kO : ClassId} {H : Heap} {locs : List Loc} {ls : Array Slot} (hK : va_K (dC, dI) vwCl [(kO, .long)] s) (hP : va_P (dC, dI) vwCl [(h1, .inr (11, [.ref (a 0), .ref (a 1), .ref (a 3), .ref (a 14), .int 0, .null, .null, .null, .null, .null, .null])), ((a 3), .inr (1, [.int 0, .int 0, .int 0, .int 0, .int 0, .int 0, .ref (a 4), .ref (a 5), .ref (a 6), .ref (a 7), .int 0, .ref (a 8), .ref (a 9), .ref (a 10), .ref (a 11), .ref (a 12), .ref (a 13)])), (h2, .inr (12, fM (vM av))), (o, .inl (kO, 1, .inr (.inl (fun _ => 0))))] H) (hD : va_D A [(h1, .inr (11, [.ref (a 0), .ref (a 1), .ref (a 3), .ref (a 14), .int 0, .null, .null, .null, .null, .null, .null])), ((a 3), .inr (1, [.int 0, .int 0, .int 0, .int 0, .int 0, .int 0, .ref (a 4), .ref (a 5), .ref (a 6), .ref (a 7), .int 0, .ref (a 8), .ref (a 9), .ref (a 10), .ref (a 11), .ref (a 12), .ref (a 13)])), (h2, .inr (12, fM (vM av))), (o, .inl (kO, 1, .inr (.inl (fun _ => 0))))]) (hS : va_S A s.heap H locs) (hl : lv_has ls 7 [(4, .int 0), (3, .ref o), (2, .ref h2), (1, .ref h1), (0, .ref b)]) : W p l e room_1 s m #[Value.ref b] below meth c H locs 125 181434 (lw_Z below #[Value.ref b] s) (F0 m 456 ls []) := by
  obtain ⟨hx, hb, hr, hml, hown, hts, hX, hbl, hlocks, hgv⟩ := id C0
  have hb : c.code = cL_law := hb
  have hown : s.vm.findClass RL = some m.cls := hown
  obtain ⟨hU, hN, hnX11_343, hnX11_392, hnX11_421, hncAI, hngX11_161, hngX11_79, hngX11_95⟩ := X0
  have hbA : ¬ A b := fun h => absurd (hA2 b h) (Nat.not_le.mpr hbl)
  refine lv_aload_n hx hb dL_law_456 rfl (lv_at hl 3 rfl) ?_
  refine lv_aload_n hx hb dL_law_457 rfl (lv_at hl 4 rfl) ?_
  refine lv_iload hx hb dL_law_458 (lv_at hl 0 rfl) ?_
  refine lv_iconst (v := 1) hx hb dL_law_460 (by decide) ?_
  refine lv_iadd hx hb dL_law_461 ?_
  refine lv_topi (fun y1 hy1 => ?_)
  obtain rfl : 1 = y1 := (hy1.trans (by decide)).symm
  refine va_sld hx hb hX hbl hbA hS (show ¬ ((1 : Int32) < 0 ∨ 6 ≤ (1 : Int32).toNatClampNeg) by decide) dL_law_462 ?_
  refine lv_topi (fun y2 hy2 => ?_)
  obtain rfl : (xs 1) = y2 := (hy2.trans (rfl)).symm
  refine lv_aload_n hx hb dL_law_463 rfl (lv_at hl 4 rfl) ?_
  refine lv_iload hx hb dL_law_464 (lv_at hl 0 rfl) ?_
  refine lv_iconst (v := 2) hx hb dL_law_466 (by decide) ?_
  refine lv_iadd hx hb dL_law_467 ?_
  refine lv_topi (fun y3 hy3 => ?_)
  obtain rfl : 2 = y3 := (hy3.trans (by decide)).symm
  refine va_sld hx hb hX hbl hbA hS (show ¬ ((2 : Int32) < 0 ∨ 6 ≤ (2 : Int32).toNatClampNeg) by decide) dL_law_468 ?_
  refine lv_topi (fun y4 hy4 => ?_)
  obtain rfl : (xs 2) = y4 := (hy4.trans (rfl)).symm
  refine lv_aload_n hx hb dL_law_469 rfl (lv_at hl 4 rfl) ?_
  refine lv_iload hx hb dL_law_470 (lv_at hl 0 rfl) ?_
  refine lv_iconst (v := 3) hx hb dL_law_472 (by decide) ?_
  refine lv_iadd hx hb dL_law_473 ?_
  refine lv_topi (fun y5 hy5 => ?_)
  obtain rfl : 3 = y5 := (hy5.trans (by decide)).symm
  refine va_sld hx hb hX hbl hbA hS (show ¬ ((3 : Int32) < 0 ∨ 6 ≤ (3 : Int32).toNatClampNeg) by decide) dL_law_474 ?_
  refine lv_topi (fun y6 hy6 => ?_)
  obtain rfl : (xs 3) = y6 := (hy6.trans (rfl)).symm
  refine lv_aload_n hx hb dL_law_475 rfl (lv_at hl 1 rfl) ?_
  have hPc := hP.sub (ws' := [(h1, .inr (11, [.ref (a 0), .ref (a 1), .ref (a 3), .ref (a 14), .int 0, .null, .null, .null, .null, .null, .null])), ((a 3), .inr (1, [.int 0, .int 0, .int 0, .int 0, .int 0, .int 0, .ref (a 4), .ref (a 5), .ref (a 6), .ref (a 7), .int 0, .ref (a 8), .ref (a 9), .ref (a 10), .ref (a 11), .ref (a 12), .ref (a 13)])), (o, .inl (kO, 1, .inr (.inl (fun _ => 0))))]) [0, 1, 3] rfl
  have hDc := hD.sub (ws' := [(h1, .inr (11, [.ref (a 0), .ref (a 1), .ref (a 3), .ref (a 14), .int 0, .null, .null, .null, .null, .null, .null])), ((a 3), .inr (1, [.int 0, .int 0, .int 0, .int 0, .int 0, .int 0, .ref (a 4), .ref (a 5), .ref (a 6), .ref (a 7), .int 0, .ref (a 8), .ref (a 9), .ref (a 10), .ref (a 11), .ref (a 12), .ref (a 13)])), (o, .inl (kO, 1, .inr (.inl (fun _ => 0))))]) [0, 1, 3] (by decide) rfl
  have hKc := hK.sub (tys' := [(kO, .long)]) [0] rfl
  have hFc := va_free (wc := [(h1, .inr (11, [.ref (a 0), .ref (a 1), .ref (a 3), .ref (a 14), .int 0, .null, .null, .null, .null, .null, .null])), ((a 3), .inr (1, [.int 0, .int 0, .int 0, .int 0, .int 0, .int 0, .ref (a 4), .ref (a 5), .ref (a 6), .ref (a 7), .int 0, .ref (a 8), .ref (a 9), .ref (a 10), .ref (a 11), .ref (a 12), .ref (a 13)])), (o, .inl (kO, 1, .inr (.inl (fun _ => 0))))]) hD hS hA [0, 1, 3] rfl
  refine va_calli (vx_runSW (As := [.ref h1, .int (xs 1), .int (xs 2), .int (xs 3), .ref o]) (rest := []) ⟨hx, hb, hml, hown, hts⟩ (p_L_row l hst dC dI h1 a o kO (xs 1) (xs 2) (xs 3) H.size) (vx_cwSW 5 hts glaw6_0 rfl rfl rfl (by decide +kernel) ⟨by decide +kernel, by decide +kernel⟩) ⟨fun a U g mk q => by obtain ⟨q0, q1, qP, qK, qD, qU, qN, qngX11_95⟩ := q; exact ⟨q0, q1, qP, va_K.moved (u := U) (U := U.calling g mk a) (Vm.Alike.refl U.vm) qK, qD, vx_Zq.moved (u := U) (U := U.calling g mk a) (Vm.Alike.refl U.vm) qU, vx_Zq.moved (u := U) (U := U.calling g mk a) (Vm.Alike.refl U.vm) qN, fun w h => va_Nw.same (u := U) (U := U.calling g mk a) (ngX11_95_ot w h) rfl (qngX11_95 w h)⟩, fun U hU9 hW => ⟨rfl, by rw [hU9], by rw [hU9]; exact hPc, va_K.moved hW.alike hKc, hDc.weaken (fun _ _ _ _ => trivial), by rw [hU9]; exact ((hU.kept (fun a h1 h2 => hS.2.1 a h1 h2)).narrow hFc).moved hW.alike, by rw [hU9]; exact ((hN.kept (fun a h1 h2 => hS.2.1 a h1 h2)).narrow hFc).moved hW.alike, fun w h => cd_warm (ngX11_95_cd w h) hW (hngX11_95 w h)⟩⟩ rfl rfl hl.1 rfl (lv_room (Nat.le_of_ble_eq_true rfl)) dL_law_476 ⟨by decide +kernel, by decide +kernel⟩) hS (fun q _ h => hFc q h) hFc (fun r476 u t H1 locs ht hvm hw hB hz1 hk1 hS => ?_)
  obtain ⟨go476, hwit476⟩ : ∃ w9, w9 = u := ⟨u, rfl⟩
  subst hwit476
  obtain ⟨hP1, hK1, hD1⟩ := hB
  rw [ht] at hP1
  have hK1 := va_K.moved hvm.symm hK1
  obtain ⟨hP, hD⟩ := va_join (wr := [(h2, .inr (12, fM (vM av)))]) (w1 := [(o, .inl (kO, 1, .inr (.inl go476)))]) hP hD [0, 1, 3] [2] rfl rfl (by decide) (by decide) hk1 hFc hP1 hD1
  generalize H1 = H at hP hS ⊢
  have hP : va_P (dC, dI) vwCl [(h2, .inr (12, fM (vM av))), (o, .inl (kO, 1, .inr (.inl go476)))] H := hP
  have hD : va_D A [(h2, .inr (12, fM (vM av))), (o, .inl (kO, 1, .inr (.inl go476)))] := hD
  refine W.widen (k := 126) (n := 181440) (by decide +kernel) (by decide +kernel) ?_
  obtain rfl := hw
  refine lv_istore (lv' := [(5, .int 1), (4, .int 0), (3, .ref o), (2, .ref h2), (1, .ref h1), (0, .ref b)]) hx hb dL_law_479 hl (by decide) rfl (fun ls hl => ?_)
  refine lv_aload_n hx hb dL_law_481 rfl (lv_at hl 3 rfl) ?_
  refine lv_aload_n hx hb dL_law_482 rfl (lv_at hl 5 rfl) ?_
  refine lv_iload hx hb dL_law_483 (lv_at hl 1 rfl) ?_
  refine lv_iconst (v := 1) hx hb dL_law_485 (by decide) ?_
  refine lv_iadd hx hb dL_law_486 ?_
  refine lv_topi (fun y7 hy7 => ?_)
  obtain rfl : 1 = y7 := (hy7.trans (by decide)).symm
  refine va_sld hx hb hX hbl hbA hS (show ¬ ((1 : Int32) < 0 ∨ 6 ≤ (1 : Int32).toNatClampNeg) by decide) dL_law_487 ?_
  refine lv_topi (fun y8 hy8 => ?_)
  obtain rfl : (xs 1) = y8 := (hy8.trans (rfl)).symm
  refine lv_aload_n hx hb dL_law_488 rfl (lv_at hl 5 rfl) ?_
  refine lv_iload hx hb dL_law_489 (lv_at hl 1 rfl) ?_
  refine lv_iconst (v := 2) hx hb dL_law_491 (by decide) ?_
  refine lv_iadd hx hb dL_law_492 ?_
  refine lv_topi (fun y9 hy9 => ?_)
  obtain rfl : 2 = y9 := (hy9.trans (by decide)).symm
  refine va_sld hx hb hX hbl hbA hS (show ¬ ((2 : Int32) < 0 ∨ 6 ≤ (2 : Int32).toNatClampNeg) by decide) dL_law_493 ?_
  refine lv_topi (fun y10 hy10 => ?_)
  obtain rfl : (xs 2) = y10 := (hy10.trans (rfl)).symm
  refine lv_aload_n hx hb dL_law_494 rfl (lv_at hl 5 rfl) ?_
  refine lv_iload hx hb dL_law_495 (lv_at hl 1 rfl) ?_
  refine lv_iconst (v := 3) hx hb dL_law_497 (by decide) ?_
  refine lv_iadd hx hb dL_law_498 ?_
  refine lv_topi (fun y11 hy11 => ?_)
  obtain rfl : 3 = y11 := (hy11.trans (by decide)).symm
  refine va_sld hx hb hX hbl hbA hS (show ¬ ((3 : Int32) < 0 ∨ 6 ≤ (3 : Int32).toNatClampNeg) by decide) dL_law_499 ?_
  refine lv_topi (fun y12 hy12 => ?_)
  obtain rfl : (xs 3) = y12 := (hy12.trans (rfl)).symm
  have hPc := hP.sub (ws' := [(h2, .inr (12, fM (vM av)))]) [0] rfl
  have hDc := hD.sub (ws' := [(h2, .inr (12, fM (vM av)))]) [0] (by decide) rfl
  have hKc := hK.sub (tys' := []) [] rfl
  have hFc := va_free (wc := [(h2, .inr (12, fM (vM av)))]) hD hS hA [0] rfl
  refine va_calli (va_runV (As := [.int (xs 1), .int (xs 2), .int (xs 3)]) (rest := []) ⟨hx, hb, hml, hown, hts⟩ (p_X12_row l dC dI h2 (vM av) (rfl) (xs 1) (xs 2) (xs 3) H.size) (cwV 3 hts glaw6_1 rfl rfl rfl (by decide +kernel) ⟨by decide +kernel, by decide +kernel⟩) ⟨fun a U g mk q => by obtain ⟨q0, q1, qP, qK, qD⟩ := q; exact ⟨q0, q1, qP, va_K.moved (u := U) (U := U.calling g mk a) (Vm.Alike.refl U.vm) qK, qD⟩, va_recv hKc hPc (ci := 12) (q0 := 0) rfl rfl, fun U hU9 hW => ⟨rfl, by rw [hU9], by rw [hU9]; exact hPc, va_K.moved hW.alike hKc, hDc.weaken (fun _ _ _ _ => trivial)⟩⟩ rfl rfl hl.1 rfl (lv_room (Nat.le_of_ble_eq_true rfl)) dL_law_500 ⟨by decide +kernel, by decide +kernel⟩) hS (fun q _ h => hFc q h) hFc (fun r500 u t H1 locs ht hvm hw hB hz1 hk1 hS => ?_)
  obtain ⟨w500, hwit500⟩ : ∃ w9, w9 = u := ⟨u, rfl⟩
  subst hwit500
  obtain ⟨hP1, hK1, hD1⟩ := hB
  rw [ht] at hP1
  have hK1 := va_K.moved hvm.symm hK1
  obtain ⟨hP, hD⟩ := va_join (wr := [(o, .inl (kO, 1, .inr (.inl go476)))]) (w1 := [(h2, .inr (12, fM w500))]) hP hD [0] [1] rfl rfl (by decide) (by decide) hk1 hFc hP1 hD1
  generalize H1 = H at hP hS ⊢
  have hP : va_P (dC, dI) vwCl [(o, .inl (kO, 1, .inr (.inl go476))), (h2, .inr (12, fM w500))] H := hP
  have hD : va_D A [(o, .inl (kO, 1, .inr (.inl go476))), (h2, .inr (12, fM w500))] := hD
  obtain ⟨rfl, f500_0⟩ := hw
  refine lv_istore (lv' := [(6, .int 0), (5, .int 1), (4, .int 0), (3, .ref o), (2, .ref h2), (1, .ref h1), (0, .ref b)]) hx hb dL_law_503 hl (by decide) rfl (fun ls hl => ?_)
  refine lv_aload_n hx hb dL_law_505 rfl (lv_at hl 4 rfl) ?_
  have hPc := hP.sub (ws' := [(h2, .inr (12, fM w500))]) [1] rfl
  have hDc := hD.sub (ws' := [(h2, .inr (12, fM w500))]) [1] (by decide) rfl
  have hKc := hK.sub (tys' := []) [] rfl
  have hFc := va_free (wc := [(h2, .inr (12, fM w500))]) hD hS hA [1] rfl
  refine va_calli (va_runV (As := []) (rest := []) ⟨hx, hb, hml, hown, hts⟩ (p_X12_thrown l dC dI h2 w500 1 (f500_0) H.size) (cwV 0 hts glaw6_2 rfl rfl rfl (by decide +kernel) ⟨by decide +kernel, by decide +kernel⟩) ⟨fun a U g mk q => by obtain ⟨q0, q1, qP, qK, qD⟩ := q; exact ⟨q0, q1, qP, va_K.moved (u := U) (U := U.calling g mk a) (Vm.Alike.refl U.vm) qK, qD⟩, va_recv hKc hPc (ci := 12) (q0 := 0) rfl rfl, fun U hU9 hW => ⟨rfl, by rw [hU9], by rw [hU9]; exact hPc, va_K.moved hW.alike hKc, hDc.weaken (fun _ _ _ _ => trivial)⟩⟩ rfl rfl hl.1 rfl (lv_room (Nat.le_of_ble_eq_true rfl)) dL_law_506 ⟨by decide +kernel, by decide +kernel⟩) hS (fun q _ h => hFc q h) hFc (fun r506 u t H1 locs ht hvm hw hB hz1 hk1 hS => ?_)
  obtain ⟨hP1, hK1, hD1⟩ := hB
  rw [ht] at hP1
  have hK1 := va_K.moved hvm.symm hK1
  obtain ⟨hP, hD⟩ := va_join (wr := [(o, .inl (kO, 1, .inr (.inl go476)))]) (w1 := []) hP hD [1] [0] rfl rfl (by decide) (by decide) hk1 hFc hP1 hD1
  generalize H1 = H at hP hS ⊢
  have hP : va_P (dC, dI) vwCl [(o, .inl (kO, 1, .inr (.inl go476)))] H := hP
  have hD : va_D A [(o, .inl (kO, 1, .inr (.inl go476)))] := hD
  obtain rfl := hw
  refine lv_iload hx hb dL_law_509 (lv_at hl 1 rfl) ?_
  refine lv_icmp_eq (tgt := 516) hx hb dL_law_511 (by decide) (fun _ => ?_) (fun c9 => absurd (by decide) c9)
  refine lv_iload hx hb dL_law_516 (lv_at hl 1 rfl) ?_
  refine lv_if_ne (tgt := 533) hx hb dL_law_518 (by decide) (fun _ => ?_) (fun c9 => absurd c9 (by decide))
  refine lv_goto (tgt := 2131) hx hb dL_law_533 (by decide) ?_
  refine lv_iinc (v := 6) (lv' := [(4, .int 6), (6, .int 0), (5, .int 1), (3, .ref o), (2, .ref h2), (1, .ref h1), (0, .ref b)]) hx hb dL_law_2131 hl (k := 2) rfl (by decide) (by decide) rfl (fun ls hl => ?_)
  refine lv_goto (tgt := 23) hx hb dL_law_2134 (by decide) ?_
  refine lv_iload hx hb dL_law_23 (lv_at hl 0 rfl) ?_
  refine lv_aload_n hx hb dL_law_25 rfl (lv_at hl 6 rfl) ?_
  refine va_slen hx hb hX hbl hbA hS dL_law_26 ?_
  refine lv_topi (fun y13 hy13 => ?_)
  obtain rfl : 6 = y13 := (hy13.trans (rfl)).symm
  refine lv_bipush (v := 6) hx hb dL_law_27 (by decide) ?_
  refine lv_isub hx hb dL_law_29 ?_
  refine lv_topi (fun y14 hy14 => ?_)
  obtain rfl : 0 = y14 := (hy14.trans (by decide)).symm
  refine lv_icmp_gt (tgt := 2137) hx hb dL_law_30 (by decide) (fun _ => ?_) (fun c9 => absurd (by decide) c9)
  refine lv_iconst (v := 1) hx hb dL_law_2137 (by decide) ?_
  refine W.widen (k := 600002) (n := 7302232) (by decide +kernel) (by decide +kernel) ?_
  refine va_forget (fun q hq => hA2 _ (hS.2.2 q hq)) ?_
  exact lw_ret hx hb hr hlocks dL_law_2138
theorem dL_law_536 : decode cL_law 536 = .ok (.aload_n 1, 1) := by decide +kernel
theorem dL_law_537 : decode cL_law 537 = .ok (.aload_n 0, 1) := by decide +kernel
theorem dL_law_538 : decode cL_law 538 = .ok (.iload 4, 2) := by decide +kernel
theorem dL_law_540 : decode cL_law 540 = .ok (.iconst 1, 1) := by decide +kernel
theorem dL_law_541 : decode cL_law 541 = .ok (.iadd, 1) := by decide +kernel
theorem dL_law_542 : decode cL_law 542 = .ok (.iaload, 1) := by decide +kernel
theorem dL_law_543 : decode cL_law 543 = .ok (.aload_n 0, 1) := by decide +kernel
theorem dL_law_544 : decode cL_law 544 = .ok (.iload 4, 2) := by decide +kernel
theorem dL_law_546 : decode cL_law 546 = .ok (.iconst 2, 1) := by decide +kernel
theorem dL_law_547 : decode cL_law 547 = .ok (.iadd, 1) := by decide +kernel
theorem dL_law_548 : decode cL_law 548 = .ok (.iaload, 1) := by decide +kernel
theorem dL_law_549 : decode cL_law 549 = .ok (.aload_n 0, 1) := by decide +kernel
theorem dL_law_550 : decode cL_law 550 = .ok (.iload 4, 2) := by decide +kernel
theorem dL_law_552 : decode cL_law 552 = .ok (.iconst 3, 1) := by decide +kernel
theorem dL_law_553 : decode cL_law 553 = .ok (.iadd, 1) := by decide +kernel
theorem dL_law_554 : decode cL_law 554 = .ok (.iaload, 1) := by decide +kernel
theorem dL_law_555 : decode cL_law 555 = .ok (.ifCond .eq 7, 3) := by decide +kernel
theorem dL_law_558 : decode cL_law 558 = .ok (.iconst 1, 1) := by decide +kernel
theorem dL_law_559 : decode cL_law 559 = .ok (.goto 4, 3) := by decide +kernel
theorem dL_law_562 : decode cL_law 562 = .ok (.iconst 0, 1) := by decide +kernel
theorem dL_law_563 : decode cL_law 563 = .ok (.aload_n 3, 1) := by decide +kernel
theorem dL_law_564 : decode cL_law 564 = .ok (.invokestatic 126, 3) := by decide +kernel
theorem dL_law_567 : decode cL_law 567 = .ok (.istore 5, 2) := by decide +kernel
theorem dL_law_569 : decode cL_law 569 = .ok (.aload_n 2, 1) := by decide +kernel
theorem dL_law_570 : decode cL_law 570 = .ok (.aload_n 0, 1) := by decide +kernel
theorem dL_law_571 : decode cL_law 571 = .ok (.iload 4, 2) := by decide +kernel
theorem dL_law_573 : decode cL_law 573 = .ok (.iconst 1, 1) := by decide +kernel
theorem dL_law_574 : decode cL_law 574 = .ok (.iadd, 1) := by decide +kernel
theorem dL_law_575 : decode cL_law 575 = .ok (.iaload, 1) := by decide +kernel
theorem dL_law_576 : decode cL_law 576 = .ok (.aload_n 0, 1) := by decide +kernel
theorem dL_law_577 : decode cL_law 577 = .ok (.iload 4, 2) := by decide +kernel
theorem dL_law_579 : decode cL_law 579 = .ok (.iconst 2, 1) := by decide +kernel
theorem dL_law_580 : decode cL_law 580 = .ok (.iadd, 1) := by decide +kernel
theorem dL_law_581 : decode cL_law 581 = .ok (.iaload, 1) := by decide +kernel
theorem dL_law_582 : decode cL_law 582 = .ok (.aload_n 0, 1) := by decide +kernel
theorem dL_law_583 : decode cL_law 583 = .ok (.iload 4, 2) := by decide +kernel
theorem dL_law_585 : decode cL_law 585 = .ok (.iconst 3, 1) := by decide +kernel
theorem dL_law_586 : decode cL_law 586 = .ok (.iadd, 1) := by decide +kernel
theorem dL_law_587 : decode cL_law 587 = .ok (.iaload, 1) := by decide +kernel
theorem dL_law_588 : decode cL_law 588 = .ok (.ifCond .eq 7, 3) := by decide +kernel
theorem dL_law_591 : decode cL_law 591 = .ok (.iconst 1, 1) := by decide +kernel
theorem dL_law_592 : decode cL_law 592 = .ok (.goto 4, 3) := by decide +kernel
theorem dL_law_595 : decode cL_law 595 = .ok (.iconst 0, 1) := by decide +kernel
theorem dL_law_596 : decode cL_law 596 = .ok (.invokevirtual 129, 3) := by decide +kernel
theorem dL_law_599 : decode cL_law 599 = .ok (.istore 6, 2) := by decide +kernel
theorem dL_law_601 : decode cL_law 601 = .ok (.aload_n 2, 1) := by decide +kernel
theorem dL_law_602 : decode cL_law 602 = .ok (.invokevirtual 111, 3) := by decide +kernel
theorem dL_law_605 : decode cL_law 605 = .ok (.iload 5, 2) := by decide +kernel
theorem dL_law_607 : decode cL_law 607 = .ok (.if_icmp .eq 5, 3) := by decide +kernel
theorem dL_law_612 : decode cL_law 612 = .ok (.iload 5, 2) := by decide +kernel
theorem dL_law_614 : decode cL_law 614 = .ok (.ifCond .ne 15, 3) := by decide +kernel
theorem dL_law_629 : decode cL_law 629 = .ok (.goto 1502, 3) := by decide +kernel
theorem glaw7_0 : GoodIn lw_tbl (va_wsS RL 126 yL_goal wsPL_goal) := goodIn_sub ((List.forall_mem_append.mpr ⟨(mem_p ([.methodLink RL 126 yL_goal, .static yL_goal, .initialized "OptimaWorksLaw"] : List Cond) [(6, 158), (6, 159), (1, 0)] (by decide +kernel)), ml_wsPL_goal⟩ : ∀ w ∈ va_wsS RL 126 yL_goal wsPL_goal, w ∈ lw_tbl)) (by decide +kernel)
theorem glaw7_1 : GoodIn lw_tbl (wsV RL 129 RX12 yX12_goal wsPX12_goal) := goodIn_sub ((List.forall_mem_append.mpr ⟨(mem_p ([.methodLink RL 129 yX12_goal, .instanceMethod yX12_goal, .selects RX12 yX12_goal yX12_goal, .initialized RX12] : List Cond) [(15, 84), (15, 85), (15, 86), (1, 4)] (by decide +kernel)), ml_wsPX12_goal⟩ : ∀ w ∈ wsV RL 129 RX12 yX12_goal wsPX12_goal, w ∈ lw_tbl)) (by decide +kernel)
theorem glaw7_2 : GoodIn lw_tbl (wsV RL 111 RX12 yX12_thrown wsPX12_thrown) := goodIn_sub ((List.forall_mem_append.mpr ⟨(mem_p ([.methodLink RL 111 yX12_thrown, .instanceMethod yX12_thrown, .selects RX12 yX12_thrown yX12_thrown, .initialized RX12] : List Cond) [(12, 139), (12, 140), (12, 141), (1, 4)] (by decide +kernel)), ml_wsPX12_thrown⟩ : ∀ w ∈ wsV RL 111 RX12 yX12_thrown wsPX12_thrown, w ∈ lw_tbl)) (by decide +kernel)
set_option maxHeartbeats 4000000 in
set_option maxRecDepth 100000 in
/-- the law's case 7: goal -/
theorem lc_7 {p : Program} {e : Env} {s : State} {m : MethodId} {below : List Frame} {meth : Method} {c : Code} (l : Launch) (hst : l.stackTraces = false) {b : Nat} {xs : Nat → Int32} (C0 : lw_At p s m meth c b 6 xs) {A : Nat → Prop} (hA : ∀ q : Nat, s.heap.size ≤ q → A q) (hA2 : ∀ q : Nat, A q → s.heap.size ≤ q) (X0 : lx_ok A s) (dC : Nat → ClassId) (dI : Nat → Nat → Nat) {h1 h2 o : Nat} {a : Nat → Nat} {k : Nat → ClassId} {av : Nat → Nat} {kv : Nat → ClassId} {kO : ClassId} {H : Heap} {locs : List Loc} {ls : Array Slot} (hK : va_K (dC, dI) vwCl [(kO, .long)] s) (hP : va_P (dC, dI) vwCl [(h1, .inr (11, [.ref (a 0), .ref (a 1), .ref (a 3), .ref (a 14), .int 0, .null, .null, .null, .null, .null, .null])), ((a 3), .inr (1, [.int 0, .int 0, .int 0, .int 0, .int 0, .int 0, .ref (a 4), .ref (a 5), .ref (a 6), .ref (a 7), .int 0, .ref (a 8), .ref (a 9), .ref (a 10), .ref (a 11), .ref (a 12), .ref (a 13)])), (h2, .inr (12, fM (vM av))), (o, .inl (kO, 1, .inr (.inl (fun _ => 0))))] H) (hD : va_D A [(h1, .inr (11, [.ref (a 0), .ref (a 1), .ref (a 3), .ref (a 14), .int 0, .null, .null, .null, .null, .null, .null])), ((a 3), .inr (1, [.int 0, .int 0, .int 0, .int 0, .int 0, .int 0, .ref (a 4), .ref (a 5), .ref (a 6), .ref (a 7), .int 0, .ref (a 8), .ref (a 9), .ref (a 10), .ref (a 11), .ref (a 12), .ref (a 13)])), (h2, .inr (12, fM (vM av))), (o, .inl (kO, 1, .inr (.inl (fun _ => 0))))]) (hS : va_S A s.heap H locs) (hl : lv_has ls 7 [(4, .int 0), (3, .ref o), (2, .ref h2), (1, .ref h1), (0, .ref b)]) : W p l e room_1 s m #[Value.ref b] below meth c H locs 125 181434 (lw_Z below #[Value.ref b] s) (F0 m 536 ls []) := by
  obtain ⟨hx, hb, hr, hml, hown, hts, hX, hbl, hlocks, hgv⟩ := id C0
  have hb : c.code = cL_law := hb
  have hown : s.vm.findClass RL = some m.cls := hown
  obtain ⟨hU, hN, hnX11_343, hnX11_392, hnX11_421, hncAI, hngX11_161, hngX11_79, hngX11_95⟩ := X0
  have hbA : ¬ A b := fun h => absurd (hA2 b h) (Nat.not_le.mpr hbl)
  refine lv_aload_n hx hb dL_law_536 rfl (lv_at hl 3 rfl) ?_
  refine lv_aload_n hx hb dL_law_537 rfl (lv_at hl 4 rfl) ?_
  refine lv_iload hx hb dL_law_538 (lv_at hl 0 rfl) ?_
  refine lv_iconst (v := 1) hx hb dL_law_540 (by decide) ?_
  refine lv_iadd hx hb dL_law_541 ?_
  refine lv_topi (fun y1 hy1 => ?_)
  obtain rfl : 1 = y1 := (hy1.trans (by decide)).symm
  refine va_sld hx hb hX hbl hbA hS (show ¬ ((1 : Int32) < 0 ∨ 6 ≤ (1 : Int32).toNatClampNeg) by decide) dL_law_542 ?_
  refine lv_topi (fun y2 hy2 => ?_)
  obtain rfl : (xs 1) = y2 := (hy2.trans (rfl)).symm
  refine lv_aload_n hx hb dL_law_543 rfl (lv_at hl 4 rfl) ?_
  refine lv_iload hx hb dL_law_544 (lv_at hl 0 rfl) ?_
  refine lv_iconst (v := 2) hx hb dL_law_546 (by decide) ?_
  refine lv_iadd hx hb dL_law_547 ?_
  refine lv_topi (fun y3 hy3 => ?_)
  obtain rfl : 2 = y3 := (hy3.trans (by decide)).symm
  refine va_sld hx hb hX hbl hbA hS (show ¬ ((2 : Int32) < 0 ∨ 6 ≤ (2 : Int32).toNatClampNeg) by decide) dL_law_548 ?_
  refine lv_topi (fun y4 hy4 => ?_)
  obtain rfl : (xs 2) = y4 := (hy4.trans (rfl)).symm
  refine lv_aload_n hx hb dL_law_549 rfl (lv_at hl 4 rfl) ?_
  refine lv_iload hx hb dL_law_550 (lv_at hl 0 rfl) ?_
  refine lv_iconst (v := 3) hx hb dL_law_552 (by decide) ?_
  refine lv_iadd hx hb dL_law_553 ?_
  refine lv_topi (fun y5 hy5 => ?_)
  obtain rfl : 3 = y5 := (hy5.trans (by decide)).symm
  refine va_sld hx hb hX hbl hbA hS (show ¬ ((3 : Int32) < 0 ∨ 6 ≤ (3 : Int32).toNatClampNeg) by decide) dL_law_554 ?_
  refine lv_topi (fun y6 hy6 => ?_)
  obtain rfl : (xs 3) = y6 := (hy6.trans (rfl)).symm
  refine lv_if_eq (tgt := 562) hx hb dL_law_555 (by decide) (fun c_555 => ?_) (fun c_555 => ?_)
  · have t_555 : ((xs 3)).toInt = 0 := toI_eq c_555 rfl (by decide)
    refine lv_iconst (v := 0) hx hb dL_law_562 (by decide) ?_
    refine lv_aload_n hx hb dL_law_563 rfl (lv_at hl 1 rfl) ?_
    have hPc := hP.sub (ws' := [(h1, .inr (11, [.ref (a 0), .ref (a 1), .ref (a 3), .ref (a 14), .int 0, .null, .null, .null, .null, .null, .null])), ((a 3), .inr (1, [.int 0, .int 0, .int 0, .int 0, .int 0, .int 0, .ref (a 4), .ref (a 5), .ref (a 6), .ref (a 7), .int 0, .ref (a 8), .ref (a 9), .ref (a 10), .ref (a 11), .ref (a 12), .ref (a 13)])), (o, .inl (kO, 1, .inr (.inl (fun _ => 0))))]) [0, 1, 3] rfl
    have hDc := hD.sub (ws' := [(h1, .inr (11, [.ref (a 0), .ref (a 1), .ref (a 3), .ref (a 14), .int 0, .null, .null, .null, .null, .null, .null])), ((a 3), .inr (1, [.int 0, .int 0, .int 0, .int 0, .int 0, .int 0, .ref (a 4), .ref (a 5), .ref (a 6), .ref (a 7), .int 0, .ref (a 8), .ref (a 9), .ref (a 10), .ref (a 11), .ref (a 12), .ref (a 13)])), (o, .inl (kO, 1, .inr (.inl (fun _ => 0))))]) [0, 1, 3] (by decide) rfl
    have hKc := hK.sub (tys' := [(kO, .long)]) [0] rfl
    have hFc := va_free (wc := [(h1, .inr (11, [.ref (a 0), .ref (a 1), .ref (a 3), .ref (a 14), .int 0, .null, .null, .null, .null, .null, .null])), ((a 3), .inr (1, [.int 0, .int 0, .int 0, .int 0, .int 0, .int 0, .ref (a 4), .ref (a 5), .ref (a 6), .ref (a 7), .int 0, .ref (a 8), .ref (a 9), .ref (a 10), .ref (a 11), .ref (a 12), .ref (a 13)])), (o, .inl (kO, 1, .inr (.inl (fun _ => 0))))]) hD hS hA [0, 1, 3] rfl
    refine va_calli (vx_runSW (As := [.ref h1, .int (xs 1), .int (xs 2), .int 0, .ref o]) (rest := []) ⟨hx, hb, hml, hown, hts⟩ (p_L_goal l hst dC dI h1 a o kO (xs 1) (xs 2) 0 H.size) (vx_cwSW 5 hts glaw7_0 rfl rfl rfl (by decide +kernel) ⟨by decide +kernel, by decide +kernel⟩) ⟨fun a U g mk q => by obtain ⟨q0, q1, qP, qK, qD, qU, qN, qngX11_95⟩ := q; exact ⟨q0, q1, qP, va_K.moved (u := U) (U := U.calling g mk a) (Vm.Alike.refl U.vm) qK, qD, vx_Zq.moved (u := U) (U := U.calling g mk a) (Vm.Alike.refl U.vm) qU, vx_Zq.moved (u := U) (U := U.calling g mk a) (Vm.Alike.refl U.vm) qN, fun w h => va_Nw.same (u := U) (U := U.calling g mk a) (ngX11_95_ot w h) rfl (qngX11_95 w h)⟩, fun U hU9 hW => ⟨rfl, by rw [hU9], by rw [hU9]; exact hPc, va_K.moved hW.alike hKc, hDc.weaken (fun _ _ _ _ => trivial), by rw [hU9]; exact ((hU.kept (fun a h1 h2 => hS.2.1 a h1 h2)).narrow hFc).moved hW.alike, by rw [hU9]; exact ((hN.kept (fun a h1 h2 => hS.2.1 a h1 h2)).narrow hFc).moved hW.alike, fun w h => cd_warm (ngX11_95_cd w h) hW (hngX11_95 w h)⟩⟩ rfl rfl hl.1 rfl (lv_room (Nat.le_of_ble_eq_true rfl)) dL_law_564 ⟨by decide +kernel, by decide +kernel⟩) hS (fun q _ h => hFc q h) hFc (fun r564 u t H1 locs ht hvm hw hB hz1 hk1 hS => ?_)
    obtain ⟨go564, hwit564⟩ : ∃ w9, w9 = u := ⟨u, rfl⟩
    subst hwit564
    obtain ⟨hP1, hK1, hD1⟩ := hB
    rw [ht] at hP1
    have hK1 := va_K.moved hvm.symm hK1
    obtain ⟨hP, hD⟩ := va_join (wr := [(h2, .inr (12, fM (vM av)))]) (w1 := [(o, .inl (kO, 1, .inr (.inl go564)))]) hP hD [0, 1, 3] [2] rfl rfl (by decide) (by decide) hk1 hFc hP1 hD1
    generalize H1 = H at hP hS ⊢
    have hP : va_P (dC, dI) vwCl [(h2, .inr (12, fM (vM av))), (o, .inl (kO, 1, .inr (.inl go564)))] H := hP
    have hD : va_D A [(h2, .inr (12, fM (vM av))), (o, .inl (kO, 1, .inr (.inl go564)))] := hD
    refine W.widen (k := 126) (n := 181440) (by decide +kernel) (by decide +kernel) ?_
    obtain rfl := hw
    refine lv_istore (lv' := [(5, .int 1), (4, .int 0), (3, .ref o), (2, .ref h2), (1, .ref h1), (0, .ref b)]) hx hb dL_law_567 hl (by decide) rfl (fun ls hl => ?_)
    refine lv_aload_n hx hb dL_law_569 rfl (lv_at hl 3 rfl) ?_
    refine lv_aload_n hx hb dL_law_570 rfl (lv_at hl 5 rfl) ?_
    refine lv_iload hx hb dL_law_571 (lv_at hl 1 rfl) ?_
    refine lv_iconst (v := 1) hx hb dL_law_573 (by decide) ?_
    refine lv_iadd hx hb dL_law_574 ?_
    refine lv_topi (fun y7 hy7 => ?_)
    obtain rfl : 1 = y7 := (hy7.trans (by decide)).symm
    refine va_sld hx hb hX hbl hbA hS (show ¬ ((1 : Int32) < 0 ∨ 6 ≤ (1 : Int32).toNatClampNeg) by decide) dL_law_575 ?_
    refine lv_topi (fun y8 hy8 => ?_)
    obtain rfl : (xs 1) = y8 := (hy8.trans (rfl)).symm
    refine lv_aload_n hx hb dL_law_576 rfl (lv_at hl 5 rfl) ?_
    refine lv_iload hx hb dL_law_577 (lv_at hl 1 rfl) ?_
    refine lv_iconst (v := 2) hx hb dL_law_579 (by decide) ?_
    refine lv_iadd hx hb dL_law_580 ?_
    refine lv_topi (fun y9 hy9 => ?_)
    obtain rfl : 2 = y9 := (hy9.trans (by decide)).symm
    refine va_sld hx hb hX hbl hbA hS (show ¬ ((2 : Int32) < 0 ∨ 6 ≤ (2 : Int32).toNatClampNeg) by decide) dL_law_581 ?_
    refine lv_topi (fun y10 hy10 => ?_)
    obtain rfl : (xs 2) = y10 := (hy10.trans (rfl)).symm
    refine lv_aload_n hx hb dL_law_582 rfl (lv_at hl 5 rfl) ?_
    refine lv_iload hx hb dL_law_583 (lv_at hl 1 rfl) ?_
    refine lv_iconst (v := 3) hx hb dL_law_585 (by decide) ?_
    refine lv_iadd hx hb dL_law_586 ?_
    refine lv_topi (fun y11 hy11 => ?_)
    obtain rfl : 3 = y11 := (hy11.trans (by decide)).symm
    refine va_sld hx hb hX hbl hbA hS (show ¬ ((3 : Int32) < 0 ∨ 6 ≤ (3 : Int32).toNatClampNeg) by decide) dL_law_587 ?_
    refine lv_topi (fun y12 hy12 => ?_)
    obtain rfl : (xs 3) = y12 := (hy12.trans (rfl)).symm
    refine lv_if_eq (tgt := 595) hx hb dL_law_588 (by decide) (fun c_588 => ?_) (fun c_588 => ?_)
    · have t_588 : ((xs 3)).toInt = 0 := toI_eq c_588 rfl (by decide)
      refine lv_iconst (v := 0) hx hb dL_law_595 (by decide) ?_
      have hPc := hP.sub (ws' := [(h2, .inr (12, fM (vM av)))]) [0] rfl
      have hDc := hD.sub (ws' := [(h2, .inr (12, fM (vM av)))]) [0] (by decide) rfl
      have hKc := hK.sub (tys' := []) [] rfl
      have hFc := va_free (wc := [(h2, .inr (12, fM (vM av)))]) hD hS hA [0] rfl
      refine va_calli (va_runV (As := [.int (xs 1), .int (xs 2), .int 0]) (rest := []) ⟨hx, hb, hml, hown, hts⟩ (p_X12_goal l dC dI h2 (vM av) (rfl) (xs 1) (xs 2) 0 H.size) (cwV 3 hts glaw7_1 rfl rfl rfl (by decide +kernel) ⟨by decide +kernel, by decide +kernel⟩) ⟨fun a U g mk q => by obtain ⟨q0, q1, qP, qK, qD⟩ := q; exact ⟨q0, q1, qP, va_K.moved (u := U) (U := U.calling g mk a) (Vm.Alike.refl U.vm) qK, qD⟩, va_recv hKc hPc (ci := 12) (q0 := 0) rfl rfl, fun U hU9 hW => ⟨rfl, by rw [hU9], by rw [hU9]; exact hPc, va_K.moved hW.alike hKc, hDc.weaken (fun _ _ _ _ => trivial)⟩⟩ rfl rfl hl.1 rfl (lv_room (Nat.le_of_ble_eq_true rfl)) dL_law_596 ⟨by decide +kernel, by decide +kernel⟩) hS (fun q _ h => hFc q h) hFc (fun r596 u t H1 locs ht hvm hw hB hz1 hk1 hS => ?_)
      obtain ⟨w596, hwit596⟩ : ∃ w9, w9 = u := ⟨u, rfl⟩
      subst hwit596
      obtain ⟨hP1, hK1, hD1⟩ := hB
      rw [ht] at hP1
      have hK1 := va_K.moved hvm.symm hK1
      obtain ⟨hP, hD⟩ := va_join (wr := [(o, .inl (kO, 1, .inr (.inl go564)))]) (w1 := [(h2, .inr (12, fM w596))]) hP hD [0] [1] rfl rfl (by decide) (by decide) hk1 hFc hP1 hD1
      generalize H1 = H at hP hS ⊢
      have hP : va_P (dC, dI) vwCl [(o, .inl (kO, 1, .inr (.inl go564))), (h2, .inr (12, fM w596))] H := hP
      have hD : va_D A [(o, .inl (kO, 1, .inr (.inl go564))), (h2, .inr (12, fM w596))] := hD
      obtain ⟨rfl, f596_0⟩ := hw
      refine lv_istore (lv' := [(6, .int 0), (5, .int 1), (4, .int 0), (3, .ref o), (2, .ref h2), (1, .ref h1), (0, .ref b)]) hx hb dL_law_599 hl (by decide) rfl (fun ls hl => ?_)
      refine lv_aload_n hx hb dL_law_601 rfl (lv_at hl 4 rfl) ?_
      have hPc := hP.sub (ws' := [(h2, .inr (12, fM w596))]) [1] rfl
      have hDc := hD.sub (ws' := [(h2, .inr (12, fM w596))]) [1] (by decide) rfl
      have hKc := hK.sub (tys' := []) [] rfl
      have hFc := va_free (wc := [(h2, .inr (12, fM w596))]) hD hS hA [1] rfl
      refine va_calli (va_runV (As := []) (rest := []) ⟨hx, hb, hml, hown, hts⟩ (p_X12_thrown l dC dI h2 w596 1 (f596_0) H.size) (cwV 0 hts glaw7_2 rfl rfl rfl (by decide +kernel) ⟨by decide +kernel, by decide +kernel⟩) ⟨fun a U g mk q => by obtain ⟨q0, q1, qP, qK, qD⟩ := q; exact ⟨q0, q1, qP, va_K.moved (u := U) (U := U.calling g mk a) (Vm.Alike.refl U.vm) qK, qD⟩, va_recv hKc hPc (ci := 12) (q0 := 0) rfl rfl, fun U hU9 hW => ⟨rfl, by rw [hU9], by rw [hU9]; exact hPc, va_K.moved hW.alike hKc, hDc.weaken (fun _ _ _ _ => trivial)⟩⟩ rfl rfl hl.1 rfl (lv_room (Nat.le_of_ble_eq_true rfl)) dL_law_602 ⟨by decide +kernel, by decide +kernel⟩) hS (fun q _ h => hFc q h) hFc (fun r602 u t H1 locs ht hvm hw hB hz1 hk1 hS => ?_)
      obtain ⟨hP1, hK1, hD1⟩ := hB
      rw [ht] at hP1
      have hK1 := va_K.moved hvm.symm hK1
      obtain ⟨hP, hD⟩ := va_join (wr := [(o, .inl (kO, 1, .inr (.inl go564)))]) (w1 := []) hP hD [1] [0] rfl rfl (by decide) (by decide) hk1 hFc hP1 hD1
      generalize H1 = H at hP hS ⊢
      have hP : va_P (dC, dI) vwCl [(o, .inl (kO, 1, .inr (.inl go564)))] H := hP
      have hD : va_D A [(o, .inl (kO, 1, .inr (.inl go564)))] := hD
      obtain rfl := hw
      refine lv_iload hx hb dL_law_605 (lv_at hl 1 rfl) ?_
      refine lv_icmp_eq (tgt := 612) hx hb dL_law_607 (by decide) (fun _ => ?_) (fun c9 => absurd (by decide) c9)
      refine lv_iload hx hb dL_law_612 (lv_at hl 1 rfl) ?_
      refine lv_if_ne (tgt := 629) hx hb dL_law_614 (by decide) (fun _ => ?_) (fun c9 => absurd c9 (by decide))
      refine lv_goto (tgt := 2131) hx hb dL_law_629 (by decide) ?_
      refine lv_iinc (v := 6) (lv' := [(4, .int 6), (6, .int 0), (5, .int 1), (3, .ref o), (2, .ref h2), (1, .ref h1), (0, .ref b)]) hx hb dL_law_2131 hl (k := 2) rfl (by decide) (by decide) rfl (fun ls hl => ?_)
      refine lv_goto (tgt := 23) hx hb dL_law_2134 (by decide) ?_
      refine lv_iload hx hb dL_law_23 (lv_at hl 0 rfl) ?_
      refine lv_aload_n hx hb dL_law_25 rfl (lv_at hl 6 rfl) ?_
      refine va_slen hx hb hX hbl hbA hS dL_law_26 ?_
      refine lv_topi (fun y13 hy13 => ?_)
      obtain rfl : 6 = y13 := (hy13.trans (rfl)).symm
      refine lv_bipush (v := 6) hx hb dL_law_27 (by decide) ?_
      refine lv_isub hx hb dL_law_29 ?_
      refine lv_topi (fun y14 hy14 => ?_)
      obtain rfl : 0 = y14 := (hy14.trans (by decide)).symm
      refine lv_icmp_gt (tgt := 2137) hx hb dL_law_30 (by decide) (fun _ => ?_) (fun c9 => absurd (by decide) c9)
      refine lv_iconst (v := 1) hx hb dL_law_2137 (by decide) ?_
      refine W.widen (k := 600002) (n := 7302232) (by decide +kernel) (by decide +kernel) ?_
      refine va_forget (fun q hq => hA2 _ (hS.2.2 q hq)) ?_
      exact lw_ret hx hb hr hlocks dL_law_2138
    · have t_588 : ¬ ((xs 3)).toInt = 0 := toI_neq c_588 rfl (by decide)
      refine lv_iconst (v := 1) hx hb dL_law_591 (by decide) ?_
      refine lv_goto (tgt := 596) hx hb dL_law_592 (by decide) ?_
      have hPc := hP.sub (ws' := [(h2, .inr (12, fM (vM av)))]) [0] rfl
      have hDc := hD.sub (ws' := [(h2, .inr (12, fM (vM av)))]) [0] (by decide) rfl
      have hKc := hK.sub (tys' := []) [] rfl
      have hFc := va_free (wc := [(h2, .inr (12, fM (vM av)))]) hD hS hA [0] rfl
      refine va_calli (va_runV (As := [.int (xs 1), .int (xs 2), .int 1]) (rest := []) ⟨hx, hb, hml, hown, hts⟩ (p_X12_goal l dC dI h2 (vM av) (rfl) (xs 1) (xs 2) 1 H.size) (cwV 3 hts glaw7_1 rfl rfl rfl (by decide +kernel) ⟨by decide +kernel, by decide +kernel⟩) ⟨fun a U g mk q => by obtain ⟨q0, q1, qP, qK, qD⟩ := q; exact ⟨q0, q1, qP, va_K.moved (u := U) (U := U.calling g mk a) (Vm.Alike.refl U.vm) qK, qD⟩, va_recv hKc hPc (ci := 12) (q0 := 0) rfl rfl, fun U hU9 hW => ⟨rfl, by rw [hU9], by rw [hU9]; exact hPc, va_K.moved hW.alike hKc, hDc.weaken (fun _ _ _ _ => trivial)⟩⟩ rfl rfl hl.1 rfl (lv_room (Nat.le_of_ble_eq_true rfl)) dL_law_596 ⟨by decide +kernel, by decide +kernel⟩) hS (fun q _ h => hFc q h) hFc (fun r596_1 u t H1 locs ht hvm hw hB hz1 hk1 hS => ?_)
      obtain ⟨w596_1, hwit596_1⟩ : ∃ w9, w9 = u := ⟨u, rfl⟩
      subst hwit596_1
      obtain ⟨hP1, hK1, hD1⟩ := hB
      rw [ht] at hP1
      have hK1 := va_K.moved hvm.symm hK1
      obtain ⟨hP, hD⟩ := va_join (wr := [(o, .inl (kO, 1, .inr (.inl go564)))]) (w1 := [(h2, .inr (12, fM w596_1))]) hP hD [0] [1] rfl rfl (by decide) (by decide) hk1 hFc hP1 hD1
      generalize H1 = H at hP hS ⊢
      have hP : va_P (dC, dI) vwCl [(o, .inl (kO, 1, .inr (.inl go564))), (h2, .inr (12, fM w596_1))] H := hP
      have hD : va_D A [(o, .inl (kO, 1, .inr (.inl go564))), (h2, .inr (12, fM w596_1))] := hD
      obtain ⟨rfl, f596_1_0⟩ := hw
      refine lv_istore (lv' := [(6, .int 0), (5, .int 1), (4, .int 0), (3, .ref o), (2, .ref h2), (1, .ref h1), (0, .ref b)]) hx hb dL_law_599 hl (by decide) rfl (fun ls hl => ?_)
      refine lv_aload_n hx hb dL_law_601 rfl (lv_at hl 4 rfl) ?_
      have hPc := hP.sub (ws' := [(h2, .inr (12, fM w596_1))]) [1] rfl
      have hDc := hD.sub (ws' := [(h2, .inr (12, fM w596_1))]) [1] (by decide) rfl
      have hKc := hK.sub (tys' := []) [] rfl
      have hFc := va_free (wc := [(h2, .inr (12, fM w596_1))]) hD hS hA [1] rfl
      refine va_calli (va_runV (As := []) (rest := []) ⟨hx, hb, hml, hown, hts⟩ (p_X12_thrown l dC dI h2 w596_1 1 (f596_1_0) H.size) (cwV 0 hts glaw7_2 rfl rfl rfl (by decide +kernel) ⟨by decide +kernel, by decide +kernel⟩) ⟨fun a U g mk q => by obtain ⟨q0, q1, qP, qK, qD⟩ := q; exact ⟨q0, q1, qP, va_K.moved (u := U) (U := U.calling g mk a) (Vm.Alike.refl U.vm) qK, qD⟩, va_recv hKc hPc (ci := 12) (q0 := 0) rfl rfl, fun U hU9 hW => ⟨rfl, by rw [hU9], by rw [hU9]; exact hPc, va_K.moved hW.alike hKc, hDc.weaken (fun _ _ _ _ => trivial)⟩⟩ rfl rfl hl.1 rfl (lv_room (Nat.le_of_ble_eq_true rfl)) dL_law_602 ⟨by decide +kernel, by decide +kernel⟩) hS (fun q _ h => hFc q h) hFc (fun r602_1 u t H1 locs ht hvm hw hB hz1 hk1 hS => ?_)
      obtain ⟨hP1, hK1, hD1⟩ := hB
      rw [ht] at hP1
      have hK1 := va_K.moved hvm.symm hK1
      obtain ⟨hP, hD⟩ := va_join (wr := [(o, .inl (kO, 1, .inr (.inl go564)))]) (w1 := []) hP hD [1] [0] rfl rfl (by decide) (by decide) hk1 hFc hP1 hD1
      generalize H1 = H at hP hS ⊢
      have hP : va_P (dC, dI) vwCl [(o, .inl (kO, 1, .inr (.inl go564)))] H := hP
      have hD : va_D A [(o, .inl (kO, 1, .inr (.inl go564)))] := hD
      obtain rfl := hw
      refine lv_iload hx hb dL_law_605 (lv_at hl 1 rfl) ?_
      refine lv_icmp_eq (tgt := 612) hx hb dL_law_607 (by decide) (fun _ => ?_) (fun c9 => absurd (by decide) c9)
      refine lv_iload hx hb dL_law_612 (lv_at hl 1 rfl) ?_
      refine lv_if_ne (tgt := 629) hx hb dL_law_614 (by decide) (fun _ => ?_) (fun c9 => absurd c9 (by decide))
      refine lv_goto (tgt := 2131) hx hb dL_law_629 (by decide) ?_
      refine lv_iinc (v := 6) (lv' := [(4, .int 6), (6, .int 0), (5, .int 1), (3, .ref o), (2, .ref h2), (1, .ref h1), (0, .ref b)]) hx hb dL_law_2131 hl (k := 2) rfl (by decide) (by decide) rfl (fun ls hl => ?_)
      refine lv_goto (tgt := 23) hx hb dL_law_2134 (by decide) ?_
      refine lv_iload hx hb dL_law_23 (lv_at hl 0 rfl) ?_
      refine lv_aload_n hx hb dL_law_25 rfl (lv_at hl 6 rfl) ?_
      refine va_slen hx hb hX hbl hbA hS dL_law_26 ?_
      refine lv_topi (fun y15 hy15 => ?_)
      obtain rfl : 6 = y15 := (hy15.trans (rfl)).symm
      refine lv_bipush (v := 6) hx hb dL_law_27 (by decide) ?_
      refine lv_isub hx hb dL_law_29 ?_
      refine lv_topi (fun y16 hy16 => ?_)
      obtain rfl : 0 = y16 := (hy16.trans (by decide)).symm
      refine lv_icmp_gt (tgt := 2137) hx hb dL_law_30 (by decide) (fun _ => ?_) (fun c9 => absurd (by decide) c9)
      refine lv_iconst (v := 1) hx hb dL_law_2137 (by decide) ?_
      refine W.widen (k := 600002) (n := 7302232) (by decide +kernel) (by decide +kernel) ?_
      refine va_forget (fun q hq => hA2 _ (hS.2.2 q hq)) ?_
      exact lw_ret hx hb hr hlocks dL_law_2138
  · have t_555 : ¬ ((xs 3)).toInt = 0 := toI_neq c_555 rfl (by decide)
    refine lv_iconst (v := 1) hx hb dL_law_558 (by decide) ?_
    refine lv_goto (tgt := 563) hx hb dL_law_559 (by decide) ?_
    refine lv_aload_n hx hb dL_law_563 rfl (lv_at hl 1 rfl) ?_
    have hPc := hP.sub (ws' := [(h1, .inr (11, [.ref (a 0), .ref (a 1), .ref (a 3), .ref (a 14), .int 0, .null, .null, .null, .null, .null, .null])), ((a 3), .inr (1, [.int 0, .int 0, .int 0, .int 0, .int 0, .int 0, .ref (a 4), .ref (a 5), .ref (a 6), .ref (a 7), .int 0, .ref (a 8), .ref (a 9), .ref (a 10), .ref (a 11), .ref (a 12), .ref (a 13)])), (o, .inl (kO, 1, .inr (.inl (fun _ => 0))))]) [0, 1, 3] rfl
    have hDc := hD.sub (ws' := [(h1, .inr (11, [.ref (a 0), .ref (a 1), .ref (a 3), .ref (a 14), .int 0, .null, .null, .null, .null, .null, .null])), ((a 3), .inr (1, [.int 0, .int 0, .int 0, .int 0, .int 0, .int 0, .ref (a 4), .ref (a 5), .ref (a 6), .ref (a 7), .int 0, .ref (a 8), .ref (a 9), .ref (a 10), .ref (a 11), .ref (a 12), .ref (a 13)])), (o, .inl (kO, 1, .inr (.inl (fun _ => 0))))]) [0, 1, 3] (by decide) rfl
    have hKc := hK.sub (tys' := [(kO, .long)]) [0] rfl
    have hFc := va_free (wc := [(h1, .inr (11, [.ref (a 0), .ref (a 1), .ref (a 3), .ref (a 14), .int 0, .null, .null, .null, .null, .null, .null])), ((a 3), .inr (1, [.int 0, .int 0, .int 0, .int 0, .int 0, .int 0, .ref (a 4), .ref (a 5), .ref (a 6), .ref (a 7), .int 0, .ref (a 8), .ref (a 9), .ref (a 10), .ref (a 11), .ref (a 12), .ref (a 13)])), (o, .inl (kO, 1, .inr (.inl (fun _ => 0))))]) hD hS hA [0, 1, 3] rfl
    refine va_calli (vx_runSW (As := [.ref h1, .int (xs 1), .int (xs 2), .int 1, .ref o]) (rest := []) ⟨hx, hb, hml, hown, hts⟩ (p_L_goal l hst dC dI h1 a o kO (xs 1) (xs 2) 1 H.size) (vx_cwSW 5 hts glaw7_0 rfl rfl rfl (by decide +kernel) ⟨by decide +kernel, by decide +kernel⟩) ⟨fun a U g mk q => by obtain ⟨q0, q1, qP, qK, qD, qU, qN, qngX11_95⟩ := q; exact ⟨q0, q1, qP, va_K.moved (u := U) (U := U.calling g mk a) (Vm.Alike.refl U.vm) qK, qD, vx_Zq.moved (u := U) (U := U.calling g mk a) (Vm.Alike.refl U.vm) qU, vx_Zq.moved (u := U) (U := U.calling g mk a) (Vm.Alike.refl U.vm) qN, fun w h => va_Nw.same (u := U) (U := U.calling g mk a) (ngX11_95_ot w h) rfl (qngX11_95 w h)⟩, fun U hU9 hW => ⟨rfl, by rw [hU9], by rw [hU9]; exact hPc, va_K.moved hW.alike hKc, hDc.weaken (fun _ _ _ _ => trivial), by rw [hU9]; exact ((hU.kept (fun a h1 h2 => hS.2.1 a h1 h2)).narrow hFc).moved hW.alike, by rw [hU9]; exact ((hN.kept (fun a h1 h2 => hS.2.1 a h1 h2)).narrow hFc).moved hW.alike, fun w h => cd_warm (ngX11_95_cd w h) hW (hngX11_95 w h)⟩⟩ rfl rfl hl.1 rfl (lv_room (Nat.le_of_ble_eq_true rfl)) dL_law_564 ⟨by decide +kernel, by decide +kernel⟩) hS (fun q _ h => hFc q h) hFc (fun r564_1 u t H1 locs ht hvm hw hB hz1 hk1 hS => ?_)
    obtain ⟨go564_1, hwit564_1⟩ : ∃ w9, w9 = u := ⟨u, rfl⟩
    subst hwit564_1
    obtain ⟨hP1, hK1, hD1⟩ := hB
    rw [ht] at hP1
    have hK1 := va_K.moved hvm.symm hK1
    obtain ⟨hP, hD⟩ := va_join (wr := [(h2, .inr (12, fM (vM av)))]) (w1 := [(o, .inl (kO, 1, .inr (.inl go564_1)))]) hP hD [0, 1, 3] [2] rfl rfl (by decide) (by decide) hk1 hFc hP1 hD1
    generalize H1 = H at hP hS ⊢
    have hP : va_P (dC, dI) vwCl [(h2, .inr (12, fM (vM av))), (o, .inl (kO, 1, .inr (.inl go564_1)))] H := hP
    have hD : va_D A [(h2, .inr (12, fM (vM av))), (o, .inl (kO, 1, .inr (.inl go564_1)))] := hD
    refine W.widen (k := 127) (n := 181446) (by decide +kernel) (by decide +kernel) ?_
    obtain rfl := hw
    refine lv_istore (lv' := [(5, .int 1), (4, .int 0), (3, .ref o), (2, .ref h2), (1, .ref h1), (0, .ref b)]) hx hb dL_law_567 hl (by decide) rfl (fun ls hl => ?_)
    refine lv_aload_n hx hb dL_law_569 rfl (lv_at hl 3 rfl) ?_
    refine lv_aload_n hx hb dL_law_570 rfl (lv_at hl 5 rfl) ?_
    refine lv_iload hx hb dL_law_571 (lv_at hl 1 rfl) ?_
    refine lv_iconst (v := 1) hx hb dL_law_573 (by decide) ?_
    refine lv_iadd hx hb dL_law_574 ?_
    refine lv_topi (fun y17 hy17 => ?_)
    obtain rfl : 1 = y17 := (hy17.trans (by decide)).symm
    refine va_sld hx hb hX hbl hbA hS (show ¬ ((1 : Int32) < 0 ∨ 6 ≤ (1 : Int32).toNatClampNeg) by decide) dL_law_575 ?_
    refine lv_topi (fun y18 hy18 => ?_)
    obtain rfl : (xs 1) = y18 := (hy18.trans (rfl)).symm
    refine lv_aload_n hx hb dL_law_576 rfl (lv_at hl 5 rfl) ?_
    refine lv_iload hx hb dL_law_577 (lv_at hl 1 rfl) ?_
    refine lv_iconst (v := 2) hx hb dL_law_579 (by decide) ?_
    refine lv_iadd hx hb dL_law_580 ?_
    refine lv_topi (fun y19 hy19 => ?_)
    obtain rfl : 2 = y19 := (hy19.trans (by decide)).symm
    refine va_sld hx hb hX hbl hbA hS (show ¬ ((2 : Int32) < 0 ∨ 6 ≤ (2 : Int32).toNatClampNeg) by decide) dL_law_581 ?_
    refine lv_topi (fun y20 hy20 => ?_)
    obtain rfl : (xs 2) = y20 := (hy20.trans (rfl)).symm
    refine lv_aload_n hx hb dL_law_582 rfl (lv_at hl 5 rfl) ?_
    refine lv_iload hx hb dL_law_583 (lv_at hl 1 rfl) ?_
    refine lv_iconst (v := 3) hx hb dL_law_585 (by decide) ?_
    refine lv_iadd hx hb dL_law_586 ?_
    refine lv_topi (fun y21 hy21 => ?_)
    obtain rfl : 3 = y21 := (hy21.trans (by decide)).symm
    refine va_sld hx hb hX hbl hbA hS (show ¬ ((3 : Int32) < 0 ∨ 6 ≤ (3 : Int32).toNatClampNeg) by decide) dL_law_587 ?_
    refine lv_topi (fun y22 hy22 => ?_)
    obtain rfl : (xs 3) = y22 := (hy22.trans (rfl)).symm
    refine lv_if_eq (tgt := 595) hx hb dL_law_588 (by decide) (fun c_588 => ?_) (fun c_588 => ?_)
    · have t_588 : ((xs 3)).toInt = 0 := toI_eq c_588 rfl (by decide)
      refine lv_iconst (v := 0) hx hb dL_law_595 (by decide) ?_
      have hPc := hP.sub (ws' := [(h2, .inr (12, fM (vM av)))]) [0] rfl
      have hDc := hD.sub (ws' := [(h2, .inr (12, fM (vM av)))]) [0] (by decide) rfl
      have hKc := hK.sub (tys' := []) [] rfl
      have hFc := va_free (wc := [(h2, .inr (12, fM (vM av)))]) hD hS hA [0] rfl
      refine va_calli (va_runV (As := [.int (xs 1), .int (xs 2), .int 0]) (rest := []) ⟨hx, hb, hml, hown, hts⟩ (p_X12_goal l dC dI h2 (vM av) (rfl) (xs 1) (xs 2) 0 H.size) (cwV 3 hts glaw7_1 rfl rfl rfl (by decide +kernel) ⟨by decide +kernel, by decide +kernel⟩) ⟨fun a U g mk q => by obtain ⟨q0, q1, qP, qK, qD⟩ := q; exact ⟨q0, q1, qP, va_K.moved (u := U) (U := U.calling g mk a) (Vm.Alike.refl U.vm) qK, qD⟩, va_recv hKc hPc (ci := 12) (q0 := 0) rfl rfl, fun U hU9 hW => ⟨rfl, by rw [hU9], by rw [hU9]; exact hPc, va_K.moved hW.alike hKc, hDc.weaken (fun _ _ _ _ => trivial)⟩⟩ rfl rfl hl.1 rfl (lv_room (Nat.le_of_ble_eq_true rfl)) dL_law_596 ⟨by decide +kernel, by decide +kernel⟩) hS (fun q _ h => hFc q h) hFc (fun r596_2 u t H1 locs ht hvm hw hB hz1 hk1 hS => ?_)
      obtain ⟨w596_2, hwit596_2⟩ : ∃ w9, w9 = u := ⟨u, rfl⟩
      subst hwit596_2
      obtain ⟨hP1, hK1, hD1⟩ := hB
      rw [ht] at hP1
      have hK1 := va_K.moved hvm.symm hK1
      obtain ⟨hP, hD⟩ := va_join (wr := [(o, .inl (kO, 1, .inr (.inl go564_1)))]) (w1 := [(h2, .inr (12, fM w596_2))]) hP hD [0] [1] rfl rfl (by decide) (by decide) hk1 hFc hP1 hD1
      generalize H1 = H at hP hS ⊢
      have hP : va_P (dC, dI) vwCl [(o, .inl (kO, 1, .inr (.inl go564_1))), (h2, .inr (12, fM w596_2))] H := hP
      have hD : va_D A [(o, .inl (kO, 1, .inr (.inl go564_1))), (h2, .inr (12, fM w596_2))] := hD
      obtain ⟨rfl, f596_2_0⟩ := hw
      refine lv_istore (lv' := [(6, .int 0), (5, .int 1), (4, .int 0), (3, .ref o), (2, .ref h2), (1, .ref h1), (0, .ref b)]) hx hb dL_law_599 hl (by decide) rfl (fun ls hl => ?_)
      refine lv_aload_n hx hb dL_law_601 rfl (lv_at hl 4 rfl) ?_
      have hPc := hP.sub (ws' := [(h2, .inr (12, fM w596_2))]) [1] rfl
      have hDc := hD.sub (ws' := [(h2, .inr (12, fM w596_2))]) [1] (by decide) rfl
      have hKc := hK.sub (tys' := []) [] rfl
      have hFc := va_free (wc := [(h2, .inr (12, fM w596_2))]) hD hS hA [1] rfl
      refine va_calli (va_runV (As := []) (rest := []) ⟨hx, hb, hml, hown, hts⟩ (p_X12_thrown l dC dI h2 w596_2 1 (f596_2_0) H.size) (cwV 0 hts glaw7_2 rfl rfl rfl (by decide +kernel) ⟨by decide +kernel, by decide +kernel⟩) ⟨fun a U g mk q => by obtain ⟨q0, q1, qP, qK, qD⟩ := q; exact ⟨q0, q1, qP, va_K.moved (u := U) (U := U.calling g mk a) (Vm.Alike.refl U.vm) qK, qD⟩, va_recv hKc hPc (ci := 12) (q0 := 0) rfl rfl, fun U hU9 hW => ⟨rfl, by rw [hU9], by rw [hU9]; exact hPc, va_K.moved hW.alike hKc, hDc.weaken (fun _ _ _ _ => trivial)⟩⟩ rfl rfl hl.1 rfl (lv_room (Nat.le_of_ble_eq_true rfl)) dL_law_602 ⟨by decide +kernel, by decide +kernel⟩) hS (fun q _ h => hFc q h) hFc (fun r602_2 u t H1 locs ht hvm hw hB hz1 hk1 hS => ?_)
      obtain ⟨hP1, hK1, hD1⟩ := hB
      rw [ht] at hP1
      have hK1 := va_K.moved hvm.symm hK1
      obtain ⟨hP, hD⟩ := va_join (wr := [(o, .inl (kO, 1, .inr (.inl go564_1)))]) (w1 := []) hP hD [1] [0] rfl rfl (by decide) (by decide) hk1 hFc hP1 hD1
      generalize H1 = H at hP hS ⊢
      have hP : va_P (dC, dI) vwCl [(o, .inl (kO, 1, .inr (.inl go564_1)))] H := hP
      have hD : va_D A [(o, .inl (kO, 1, .inr (.inl go564_1)))] := hD
      obtain rfl := hw
      refine lv_iload hx hb dL_law_605 (lv_at hl 1 rfl) ?_
      refine lv_icmp_eq (tgt := 612) hx hb dL_law_607 (by decide) (fun _ => ?_) (fun c9 => absurd (by decide) c9)
      refine lv_iload hx hb dL_law_612 (lv_at hl 1 rfl) ?_
      refine lv_if_ne (tgt := 629) hx hb dL_law_614 (by decide) (fun _ => ?_) (fun c9 => absurd c9 (by decide))
      refine lv_goto (tgt := 2131) hx hb dL_law_629 (by decide) ?_
      refine lv_iinc (v := 6) (lv' := [(4, .int 6), (6, .int 0), (5, .int 1), (3, .ref o), (2, .ref h2), (1, .ref h1), (0, .ref b)]) hx hb dL_law_2131 hl (k := 2) rfl (by decide) (by decide) rfl (fun ls hl => ?_)
      refine lv_goto (tgt := 23) hx hb dL_law_2134 (by decide) ?_
      refine lv_iload hx hb dL_law_23 (lv_at hl 0 rfl) ?_
      refine lv_aload_n hx hb dL_law_25 rfl (lv_at hl 6 rfl) ?_
      refine va_slen hx hb hX hbl hbA hS dL_law_26 ?_
      refine lv_topi (fun y23 hy23 => ?_)
      obtain rfl : 6 = y23 := (hy23.trans (rfl)).symm
      refine lv_bipush (v := 6) hx hb dL_law_27 (by decide) ?_
      refine lv_isub hx hb dL_law_29 ?_
      refine lv_topi (fun y24 hy24 => ?_)
      obtain rfl : 0 = y24 := (hy24.trans (by decide)).symm
      refine lv_icmp_gt (tgt := 2137) hx hb dL_law_30 (by decide) (fun _ => ?_) (fun c9 => absurd (by decide) c9)
      refine lv_iconst (v := 1) hx hb dL_law_2137 (by decide) ?_
      refine W.widen (k := 600002) (n := 7302232) (by decide +kernel) (by decide +kernel) ?_
      refine va_forget (fun q hq => hA2 _ (hS.2.2 q hq)) ?_
      exact lw_ret hx hb hr hlocks dL_law_2138
    · have t_588 : ¬ ((xs 3)).toInt = 0 := toI_neq c_588 rfl (by decide)
      refine lv_iconst (v := 1) hx hb dL_law_591 (by decide) ?_
      refine lv_goto (tgt := 596) hx hb dL_law_592 (by decide) ?_
      have hPc := hP.sub (ws' := [(h2, .inr (12, fM (vM av)))]) [0] rfl
      have hDc := hD.sub (ws' := [(h2, .inr (12, fM (vM av)))]) [0] (by decide) rfl
      have hKc := hK.sub (tys' := []) [] rfl
      have hFc := va_free (wc := [(h2, .inr (12, fM (vM av)))]) hD hS hA [0] rfl
      refine va_calli (va_runV (As := [.int (xs 1), .int (xs 2), .int 1]) (rest := []) ⟨hx, hb, hml, hown, hts⟩ (p_X12_goal l dC dI h2 (vM av) (rfl) (xs 1) (xs 2) 1 H.size) (cwV 3 hts glaw7_1 rfl rfl rfl (by decide +kernel) ⟨by decide +kernel, by decide +kernel⟩) ⟨fun a U g mk q => by obtain ⟨q0, q1, qP, qK, qD⟩ := q; exact ⟨q0, q1, qP, va_K.moved (u := U) (U := U.calling g mk a) (Vm.Alike.refl U.vm) qK, qD⟩, va_recv hKc hPc (ci := 12) (q0 := 0) rfl rfl, fun U hU9 hW => ⟨rfl, by rw [hU9], by rw [hU9]; exact hPc, va_K.moved hW.alike hKc, hDc.weaken (fun _ _ _ _ => trivial)⟩⟩ rfl rfl hl.1 rfl (lv_room (Nat.le_of_ble_eq_true rfl)) dL_law_596 ⟨by decide +kernel, by decide +kernel⟩) hS (fun q _ h => hFc q h) hFc (fun r596_3 u t H1 locs ht hvm hw hB hz1 hk1 hS => ?_)
      obtain ⟨w596_3, hwit596_3⟩ : ∃ w9, w9 = u := ⟨u, rfl⟩
      subst hwit596_3
      obtain ⟨hP1, hK1, hD1⟩ := hB
      rw [ht] at hP1
      have hK1 := va_K.moved hvm.symm hK1
      obtain ⟨hP, hD⟩ := va_join (wr := [(o, .inl (kO, 1, .inr (.inl go564_1)))]) (w1 := [(h2, .inr (12, fM w596_3))]) hP hD [0] [1] rfl rfl (by decide) (by decide) hk1 hFc hP1 hD1
      generalize H1 = H at hP hS ⊢
      have hP : va_P (dC, dI) vwCl [(o, .inl (kO, 1, .inr (.inl go564_1))), (h2, .inr (12, fM w596_3))] H := hP
      have hD : va_D A [(o, .inl (kO, 1, .inr (.inl go564_1))), (h2, .inr (12, fM w596_3))] := hD
      obtain ⟨rfl, f596_3_0⟩ := hw
      refine lv_istore (lv' := [(6, .int 0), (5, .int 1), (4, .int 0), (3, .ref o), (2, .ref h2), (1, .ref h1), (0, .ref b)]) hx hb dL_law_599 hl (by decide) rfl (fun ls hl => ?_)
      refine lv_aload_n hx hb dL_law_601 rfl (lv_at hl 4 rfl) ?_
      have hPc := hP.sub (ws' := [(h2, .inr (12, fM w596_3))]) [1] rfl
      have hDc := hD.sub (ws' := [(h2, .inr (12, fM w596_3))]) [1] (by decide) rfl
      have hKc := hK.sub (tys' := []) [] rfl
      have hFc := va_free (wc := [(h2, .inr (12, fM w596_3))]) hD hS hA [1] rfl
      refine va_calli (va_runV (As := []) (rest := []) ⟨hx, hb, hml, hown, hts⟩ (p_X12_thrown l dC dI h2 w596_3 1 (f596_3_0) H.size) (cwV 0 hts glaw7_2 rfl rfl rfl (by decide +kernel) ⟨by decide +kernel, by decide +kernel⟩) ⟨fun a U g mk q => by obtain ⟨q0, q1, qP, qK, qD⟩ := q; exact ⟨q0, q1, qP, va_K.moved (u := U) (U := U.calling g mk a) (Vm.Alike.refl U.vm) qK, qD⟩, va_recv hKc hPc (ci := 12) (q0 := 0) rfl rfl, fun U hU9 hW => ⟨rfl, by rw [hU9], by rw [hU9]; exact hPc, va_K.moved hW.alike hKc, hDc.weaken (fun _ _ _ _ => trivial)⟩⟩ rfl rfl hl.1 rfl (lv_room (Nat.le_of_ble_eq_true rfl)) dL_law_602 ⟨by decide +kernel, by decide +kernel⟩) hS (fun q _ h => hFc q h) hFc (fun r602_3 u t H1 locs ht hvm hw hB hz1 hk1 hS => ?_)
      obtain ⟨hP1, hK1, hD1⟩ := hB
      rw [ht] at hP1
      have hK1 := va_K.moved hvm.symm hK1
      obtain ⟨hP, hD⟩ := va_join (wr := [(o, .inl (kO, 1, .inr (.inl go564_1)))]) (w1 := []) hP hD [1] [0] rfl rfl (by decide) (by decide) hk1 hFc hP1 hD1
      generalize H1 = H at hP hS ⊢
      have hP : va_P (dC, dI) vwCl [(o, .inl (kO, 1, .inr (.inl go564_1)))] H := hP
      have hD : va_D A [(o, .inl (kO, 1, .inr (.inl go564_1)))] := hD
      obtain rfl := hw
      refine lv_iload hx hb dL_law_605 (lv_at hl 1 rfl) ?_
      refine lv_icmp_eq (tgt := 612) hx hb dL_law_607 (by decide) (fun _ => ?_) (fun c9 => absurd (by decide) c9)
      refine lv_iload hx hb dL_law_612 (lv_at hl 1 rfl) ?_
      refine lv_if_ne (tgt := 629) hx hb dL_law_614 (by decide) (fun _ => ?_) (fun c9 => absurd c9 (by decide))
      refine lv_goto (tgt := 2131) hx hb dL_law_629 (by decide) ?_
      refine lv_iinc (v := 6) (lv' := [(4, .int 6), (6, .int 0), (5, .int 1), (3, .ref o), (2, .ref h2), (1, .ref h1), (0, .ref b)]) hx hb dL_law_2131 hl (k := 2) rfl (by decide) (by decide) rfl (fun ls hl => ?_)
      refine lv_goto (tgt := 23) hx hb dL_law_2134 (by decide) ?_
      refine lv_iload hx hb dL_law_23 (lv_at hl 0 rfl) ?_
      refine lv_aload_n hx hb dL_law_25 rfl (lv_at hl 6 rfl) ?_
      refine va_slen hx hb hX hbl hbA hS dL_law_26 ?_
      refine lv_topi (fun y25 hy25 => ?_)
      obtain rfl : 6 = y25 := (hy25.trans (rfl)).symm
      refine lv_bipush (v := 6) hx hb dL_law_27 (by decide) ?_
      refine lv_isub hx hb dL_law_29 ?_
      refine lv_topi (fun y26 hy26 => ?_)
      obtain rfl : 0 = y26 := (hy26.trans (by decide)).symm
      refine lv_icmp_gt (tgt := 2137) hx hb dL_law_30 (by decide) (fun _ => ?_) (fun c9 => absurd (by decide) c9)
      refine lv_iconst (v := 1) hx hb dL_law_2137 (by decide) ?_
      refine W.widen (k := 600002) (n := 7302232) (by decide +kernel) (by decide +kernel) ?_
      refine va_forget (fun q hq => hA2 _ (hS.2.2 q hq)) ?_
      exact lw_ret hx hb hr hlocks dL_law_2138
theorem dL_law_632 : decode cL_law 632 = .ok (.aload_n 1, 1) := by decide +kernel
theorem dL_law_633 : decode cL_law 633 = .ok (.aload_n 3, 1) := by decide +kernel
theorem dL_law_634 : decode cL_law 634 = .ok (.invokestatic 130, 3) := by decide +kernel
theorem dL_law_637 : decode cL_law 637 = .ok (.istore 5, 2) := by decide +kernel
theorem dL_law_639 : decode cL_law 639 = .ok (.aload_n 2, 1) := by decide +kernel
theorem dL_law_640 : decode cL_law 640 = .ok (.invokevirtual 132, 3) := by decide +kernel
theorem dL_law_643 : decode cL_law 643 = .ok (.istore 6, 2) := by decide +kernel
theorem dL_law_645 : decode cL_law 645 = .ok (.aload_n 2, 1) := by decide +kernel
theorem dL_law_646 : decode cL_law 646 = .ok (.invokevirtual 111, 3) := by decide +kernel
theorem dL_law_649 : decode cL_law 649 = .ok (.iload 5, 2) := by decide +kernel
theorem dL_law_651 : decode cL_law 651 = .ok (.if_icmp .eq 5, 3) := by decide +kernel
theorem dL_law_656 : decode cL_law 656 = .ok (.iload 5, 2) := by decide +kernel
theorem dL_law_658 : decode cL_law 658 = .ok (.ifCond .ne 15, 3) := by decide +kernel
theorem dL_law_673 : decode cL_law 673 = .ok (.goto 1458, 3) := by decide +kernel
theorem glaw8_0 : GoodIn lw_tbl (va_wsS RL 130 yL_write wsPL_write) := goodIn_sub ((List.forall_mem_append.mpr ⟨(mem_p ([.methodLink RL 130 yL_write, .static yL_write, .initialized "OptimaWorksLaw"] : List Cond) [(6, 165), (6, 166), (1, 0)] (by decide +kernel)), ml_wsPL_write⟩ : ∀ w ∈ va_wsS RL 130 yL_write wsPL_write, w ∈ lw_tbl)) (by decide +kernel)
theorem glaw8_1 : GoodIn lw_tbl (wsV RL 132 RX12 yX12_write wsPX12_write) := goodIn_sub ((List.forall_mem_append.mpr ⟨(mem_p ([.methodLink RL 132 yX12_write, .instanceMethod yX12_write, .selects RX12 yX12_write yX12_write, .initialized RX12] : List Cond) [(15, 20), (15, 21), (15, 22), (1, 4)] (by decide +kernel)), ml_wsPX12_write⟩ : ∀ w ∈ wsV RL 132 RX12 yX12_write wsPX12_write, w ∈ lw_tbl)) (by decide +kernel)
theorem glaw8_2 : GoodIn lw_tbl (wsV RL 111 RX12 yX12_thrown wsPX12_thrown) := goodIn_sub ((List.forall_mem_append.mpr ⟨(mem_p ([.methodLink RL 111 yX12_thrown, .instanceMethod yX12_thrown, .selects RX12 yX12_thrown yX12_thrown, .initialized RX12] : List Cond) [(12, 139), (12, 140), (12, 141), (1, 4)] (by decide +kernel)), ml_wsPX12_thrown⟩ : ∀ w ∈ wsV RL 111 RX12 yX12_thrown wsPX12_thrown, w ∈ lw_tbl)) (by decide +kernel)
set_option maxHeartbeats 4000000 in
set_option maxRecDepth 100000 in
/-- the law's case 8: write -/
theorem lc_8 {p : Program} {e : Env} {s : State} {m : MethodId} {below : List Frame} {meth : Method} {c : Code} (l : Launch) (hst : l.stackTraces = false) {b : Nat} {xs : Nat → Int32} (C0 : lw_At p s m meth c b 6 xs) {A : Nat → Prop} (hA : ∀ q : Nat, s.heap.size ≤ q → A q) (hA2 : ∀ q : Nat, A q → s.heap.size ≤ q) (X0 : lx_ok A s) (dC : Nat → ClassId) (dI : Nat → Nat → Nat) {h1 h2 o : Nat} {a : Nat → Nat} {k : Nat → ClassId} {av : Nat → Nat} {kv : Nat → ClassId} {kO : ClassId} {H : Heap} {locs : List Loc} {ls : Array Slot} (hK : va_K (dC, dI) vwCl [(kO, .long)] s) (hP : va_P (dC, dI) vwCl [(h1, .inr (11, [.ref (a 0), .ref (a 1), .ref (a 3), .ref (a 14), .int 0, .null, .null, .null, .null, .null, .null])), ((a 3), .inr (1, [.int 0, .int 0, .int 0, .int 0, .int 0, .int 0, .ref (a 4), .ref (a 5), .ref (a 6), .ref (a 7), .int 0, .ref (a 8), .ref (a 9), .ref (a 10), .ref (a 11), .ref (a 12), .ref (a 13)])), (h2, .inr (12, fM (vM av))), (o, .inl (kO, 1, .inr (.inl (fun _ => 0))))] H) (hD : va_D A [(h1, .inr (11, [.ref (a 0), .ref (a 1), .ref (a 3), .ref (a 14), .int 0, .null, .null, .null, .null, .null, .null])), ((a 3), .inr (1, [.int 0, .int 0, .int 0, .int 0, .int 0, .int 0, .ref (a 4), .ref (a 5), .ref (a 6), .ref (a 7), .int 0, .ref (a 8), .ref (a 9), .ref (a 10), .ref (a 11), .ref (a 12), .ref (a 13)])), (h2, .inr (12, fM (vM av))), (o, .inl (kO, 1, .inr (.inl (fun _ => 0))))]) (hS : va_S A s.heap H locs) (hl : lv_has ls 7 [(4, .int 0), (3, .ref o), (2, .ref h2), (1, .ref h1), (0, .ref b)]) : W p l e room_1 s m #[Value.ref b] below meth c H locs 125 181434 (lw_Z below #[Value.ref b] s) (F0 m 632 ls []) := by
  obtain ⟨hx, hb, hr, hml, hown, hts, hX, hbl, hlocks, hgv⟩ := id C0
  have hb : c.code = cL_law := hb
  have hown : s.vm.findClass RL = some m.cls := hown
  obtain ⟨hU, hN, hnX11_343, hnX11_392, hnX11_421, hncAI, hngX11_161, hngX11_79, hngX11_95⟩ := X0
  have hbA : ¬ A b := fun h => absurd (hA2 b h) (Nat.not_le.mpr hbl)
  refine lv_aload_n hx hb dL_law_632 rfl (lv_at hl 3 rfl) ?_
  refine lv_aload_n hx hb dL_law_633 rfl (lv_at hl 1 rfl) ?_
  have hPc := hP.sub (ws' := [(h1, .inr (11, [.ref (a 0), .ref (a 1), .ref (a 3), .ref (a 14), .int 0, .null, .null, .null, .null, .null, .null])), ((a 3), .inr (1, [.int 0, .int 0, .int 0, .int 0, .int 0, .int 0, .ref (a 4), .ref (a 5), .ref (a 6), .ref (a 7), .int 0, .ref (a 8), .ref (a 9), .ref (a 10), .ref (a 11), .ref (a 12), .ref (a 13)])), (o, .inl (kO, 1, .inr (.inl (fun _ => 0))))]) [0, 1, 3] rfl
  have hDc := hD.sub (ws' := [(h1, .inr (11, [.ref (a 0), .ref (a 1), .ref (a 3), .ref (a 14), .int 0, .null, .null, .null, .null, .null, .null])), ((a 3), .inr (1, [.int 0, .int 0, .int 0, .int 0, .int 0, .int 0, .ref (a 4), .ref (a 5), .ref (a 6), .ref (a 7), .int 0, .ref (a 8), .ref (a 9), .ref (a 10), .ref (a 11), .ref (a 12), .ref (a 13)])), (o, .inl (kO, 1, .inr (.inl (fun _ => 0))))]) [0, 1, 3] (by decide) rfl
  have hKc := hK.sub (tys' := [(kO, .long)]) [0] rfl
  have hFc := va_free (wc := [(h1, .inr (11, [.ref (a 0), .ref (a 1), .ref (a 3), .ref (a 14), .int 0, .null, .null, .null, .null, .null, .null])), ((a 3), .inr (1, [.int 0, .int 0, .int 0, .int 0, .int 0, .int 0, .ref (a 4), .ref (a 5), .ref (a 6), .ref (a 7), .int 0, .ref (a 8), .ref (a 9), .ref (a 10), .ref (a 11), .ref (a 12), .ref (a 13)])), (o, .inl (kO, 1, .inr (.inl (fun _ => 0))))]) hD hS hA [0, 1, 3] rfl
  refine va_calli (vx_runSW (As := [.ref h1, .ref o]) (rest := []) ⟨hx, hb, hml, hown, hts⟩ (p_L_write l hst dC dI h1 a o kO H.size) (vx_cwSW 2 hts glaw8_0 rfl rfl rfl (by decide +kernel) ⟨by decide +kernel, by decide +kernel⟩) ⟨fun a U g mk q => by obtain ⟨q0, q1, qP, qK, qD, qU, qN, qngX11_161⟩ := q; exact ⟨q0, q1, qP, va_K.moved (u := U) (U := U.calling g mk a) (Vm.Alike.refl U.vm) qK, qD, vx_Zq.moved (u := U) (U := U.calling g mk a) (Vm.Alike.refl U.vm) qU, vx_Zq.moved (u := U) (U := U.calling g mk a) (Vm.Alike.refl U.vm) qN, fun w h => va_Nw.same (u := U) (U := U.calling g mk a) (ngX11_161_ot w h) rfl (qngX11_161 w h)⟩, fun U hU9 hW => ⟨rfl, by rw [hU9], by rw [hU9]; exact hPc, va_K.moved hW.alike hKc, hDc.weaken (fun _ _ _ _ => trivial), by rw [hU9]; exact ((hU.kept (fun a h1 h2 => hS.2.1 a h1 h2)).narrow hFc).moved hW.alike, by rw [hU9]; exact ((hN.kept (fun a h1 h2 => hS.2.1 a h1 h2)).narrow hFc).moved hW.alike, fun w h => cd_warm (ngX11_161_cd w h) hW (hngX11_161 w h)⟩⟩ rfl rfl hl.1 rfl (lv_room (Nat.le_of_ble_eq_true rfl)) dL_law_634 ⟨by decide +kernel, by decide +kernel⟩) hS (fun q _ h => hFc q h) hFc (fun r634 u t H1 locs ht hvm hw hB hz1 hk1 hS => ?_)
  obtain ⟨go634, hwit634⟩ : ∃ w9, w9 = u := ⟨u, rfl⟩
  subst hwit634
  obtain ⟨hP1, hK1, hD1⟩ := hB
  rw [ht] at hP1
  have hK1 := va_K.moved hvm.symm hK1
  obtain ⟨hP, hD⟩ := va_join (wr := [(h2, .inr (12, fM (vM av)))]) (w1 := [(o, .inl (kO, 1, .inr (.inl go634)))]) hP hD [0, 1, 3] [2] rfl rfl (by decide) (by decide) hk1 hFc hP1 hD1
  generalize H1 = H at hP hS ⊢
  have hP : va_P (dC, dI) vwCl [(h2, .inr (12, fM (vM av))), (o, .inl (kO, 1, .inr (.inl go634)))] H := hP
  have hD : va_D A [(h2, .inr (12, fM (vM av))), (o, .inl (kO, 1, .inr (.inl go634)))] := hD
  refine W.widen (k := 126) (n := 181440) (by decide +kernel) (by decide +kernel) ?_
  obtain rfl := hw
  refine lv_istore (lv' := [(5, .int 1), (4, .int 0), (3, .ref o), (2, .ref h2), (1, .ref h1), (0, .ref b)]) hx hb dL_law_637 hl (by decide) rfl (fun ls hl => ?_)
  refine lv_aload_n hx hb dL_law_639 rfl (lv_at hl 3 rfl) ?_
  have hPc := hP.sub (ws' := [(h2, .inr (12, fM (vM av)))]) [0] rfl
  have hDc := hD.sub (ws' := [(h2, .inr (12, fM (vM av)))]) [0] (by decide) rfl
  have hKc := hK.sub (tys' := []) [] rfl
  have hFc := va_free (wc := [(h2, .inr (12, fM (vM av)))]) hD hS hA [0] rfl
  refine va_calli (va_runV (As := []) (rest := []) ⟨hx, hb, hml, hown, hts⟩ (p_X12_write l dC dI h2 (vM av) (rfl) H.size) (cwV 0 hts glaw8_1 rfl rfl rfl (by decide +kernel) ⟨by decide +kernel, by decide +kernel⟩) ⟨fun a U g mk q => by obtain ⟨q0, q1, qP, qK, qD⟩ := q; exact ⟨q0, q1, qP, va_K.moved (u := U) (U := U.calling g mk a) (Vm.Alike.refl U.vm) qK, qD⟩, va_recv hKc hPc (ci := 12) (q0 := 0) rfl rfl, fun U hU9 hW => ⟨rfl, by rw [hU9], by rw [hU9]; exact hPc, va_K.moved hW.alike hKc, hDc.weaken (fun _ _ _ _ => trivial)⟩⟩ rfl rfl hl.1 rfl (lv_room (Nat.le_of_ble_eq_true rfl)) dL_law_640 ⟨by decide +kernel, by decide +kernel⟩) hS (fun q _ h => hFc q h) hFc (fun r640 u t H1 locs ht hvm hw hB hz1 hk1 hS => ?_)
  obtain ⟨w640, hwit640⟩ : ∃ w9, w9 = u := ⟨u, rfl⟩
  subst hwit640
  obtain ⟨hP1, hK1, hD1⟩ := hB
  rw [ht] at hP1
  have hK1 := va_K.moved hvm.symm hK1
  obtain ⟨hP, hD⟩ := va_join (wr := [(o, .inl (kO, 1, .inr (.inl go634)))]) (w1 := [(h2, .inr (12, fM w640))]) hP hD [0] [1] rfl rfl (by decide) (by decide) hk1 hFc hP1 hD1
  generalize H1 = H at hP hS ⊢
  have hP : va_P (dC, dI) vwCl [(o, .inl (kO, 1, .inr (.inl go634))), (h2, .inr (12, fM w640))] H := hP
  have hD : va_D A [(o, .inl (kO, 1, .inr (.inl go634))), (h2, .inr (12, fM w640))] := hD
  obtain ⟨rfl, f640_0⟩ := hw
  refine lv_istore (lv' := [(6, .int 0), (5, .int 1), (4, .int 0), (3, .ref o), (2, .ref h2), (1, .ref h1), (0, .ref b)]) hx hb dL_law_643 hl (by decide) rfl (fun ls hl => ?_)
  refine lv_aload_n hx hb dL_law_645 rfl (lv_at hl 4 rfl) ?_
  have hPc := hP.sub (ws' := [(h2, .inr (12, fM w640))]) [1] rfl
  have hDc := hD.sub (ws' := [(h2, .inr (12, fM w640))]) [1] (by decide) rfl
  have hKc := hK.sub (tys' := []) [] rfl
  have hFc := va_free (wc := [(h2, .inr (12, fM w640))]) hD hS hA [1] rfl
  refine va_calli (va_runV (As := []) (rest := []) ⟨hx, hb, hml, hown, hts⟩ (p_X12_thrown l dC dI h2 w640 1 (f640_0) H.size) (cwV 0 hts glaw8_2 rfl rfl rfl (by decide +kernel) ⟨by decide +kernel, by decide +kernel⟩) ⟨fun a U g mk q => by obtain ⟨q0, q1, qP, qK, qD⟩ := q; exact ⟨q0, q1, qP, va_K.moved (u := U) (U := U.calling g mk a) (Vm.Alike.refl U.vm) qK, qD⟩, va_recv hKc hPc (ci := 12) (q0 := 0) rfl rfl, fun U hU9 hW => ⟨rfl, by rw [hU9], by rw [hU9]; exact hPc, va_K.moved hW.alike hKc, hDc.weaken (fun _ _ _ _ => trivial)⟩⟩ rfl rfl hl.1 rfl (lv_room (Nat.le_of_ble_eq_true rfl)) dL_law_646 ⟨by decide +kernel, by decide +kernel⟩) hS (fun q _ h => hFc q h) hFc (fun r646 u t H1 locs ht hvm hw hB hz1 hk1 hS => ?_)
  obtain ⟨hP1, hK1, hD1⟩ := hB
  rw [ht] at hP1
  have hK1 := va_K.moved hvm.symm hK1
  obtain ⟨hP, hD⟩ := va_join (wr := [(o, .inl (kO, 1, .inr (.inl go634)))]) (w1 := []) hP hD [1] [0] rfl rfl (by decide) (by decide) hk1 hFc hP1 hD1
  generalize H1 = H at hP hS ⊢
  have hP : va_P (dC, dI) vwCl [(o, .inl (kO, 1, .inr (.inl go634)))] H := hP
  have hD : va_D A [(o, .inl (kO, 1, .inr (.inl go634)))] := hD
  obtain rfl := hw
  refine lv_iload hx hb dL_law_649 (lv_at hl 1 rfl) ?_
  refine lv_icmp_eq (tgt := 656) hx hb dL_law_651 (by decide) (fun _ => ?_) (fun c9 => absurd (by decide) c9)
  refine lv_iload hx hb dL_law_656 (lv_at hl 1 rfl) ?_
  refine lv_if_ne (tgt := 673) hx hb dL_law_658 (by decide) (fun _ => ?_) (fun c9 => absurd c9 (by decide))
  refine lv_goto (tgt := 2131) hx hb dL_law_673 (by decide) ?_
  refine lv_iinc (v := 6) (lv' := [(4, .int 6), (6, .int 0), (5, .int 1), (3, .ref o), (2, .ref h2), (1, .ref h1), (0, .ref b)]) hx hb dL_law_2131 hl (k := 2) rfl (by decide) (by decide) rfl (fun ls hl => ?_)
  refine lv_goto (tgt := 23) hx hb dL_law_2134 (by decide) ?_
  refine lv_iload hx hb dL_law_23 (lv_at hl 0 rfl) ?_
  refine lv_aload_n hx hb dL_law_25 rfl (lv_at hl 6 rfl) ?_
  refine va_slen hx hb hX hbl hbA hS dL_law_26 ?_
  refine lv_topi (fun y1 hy1 => ?_)
  obtain rfl : 6 = y1 := (hy1.trans (rfl)).symm
  refine lv_bipush (v := 6) hx hb dL_law_27 (by decide) ?_
  refine lv_isub hx hb dL_law_29 ?_
  refine lv_topi (fun y2 hy2 => ?_)
  obtain rfl : 0 = y2 := (hy2.trans (by decide)).symm
  refine lv_icmp_gt (tgt := 2137) hx hb dL_law_30 (by decide) (fun _ => ?_) (fun c9 => absurd (by decide) c9)
  refine lv_iconst (v := 1) hx hb dL_law_2137 (by decide) ?_
  refine W.widen (k := 600002) (n := 7302232) (by decide +kernel) (by decide +kernel) ?_
  refine va_forget (fun q hq => hA2 _ (hS.2.2 q hq)) ?_
  exact lw_ret hx hb hr hlocks dL_law_2138
theorem dL_law_676 : decode cL_law 676 = .ok (.aload_n 1, 1) := by decide +kernel
theorem dL_law_677 : decode cL_law 677 = .ok (.aload_n 0, 1) := by decide +kernel
theorem dL_law_678 : decode cL_law 678 = .ok (.iload 4, 2) := by decide +kernel
theorem dL_law_680 : decode cL_law 680 = .ok (.iconst 1, 1) := by decide +kernel
theorem dL_law_681 : decode cL_law 681 = .ok (.iadd, 1) := by decide +kernel
theorem dL_law_682 : decode cL_law 682 = .ok (.iaload, 1) := by decide +kernel
theorem dL_law_683 : decode cL_law 683 = .ok (.ifCond .eq 7, 3) := by decide +kernel
theorem dL_law_686 : decode cL_law 686 = .ok (.iconst 1, 1) := by decide +kernel
theorem dL_law_687 : decode cL_law 687 = .ok (.goto 4, 3) := by decide +kernel
theorem dL_law_690 : decode cL_law 690 = .ok (.iconst 0, 1) := by decide +kernel
theorem dL_law_691 : decode cL_law 691 = .ok (.aload_n 3, 1) := by decide +kernel
theorem dL_law_692 : decode cL_law 692 = .ok (.invokestatic 133, 3) := by decide +kernel
theorem dL_law_695 : decode cL_law 695 = .ok (.istore 5, 2) := by decide +kernel
theorem dL_law_697 : decode cL_law 697 = .ok (.aload_n 2, 1) := by decide +kernel
theorem dL_law_698 : decode cL_law 698 = .ok (.aload_n 0, 1) := by decide +kernel
theorem dL_law_699 : decode cL_law 699 = .ok (.iload 4, 2) := by decide +kernel
theorem dL_law_701 : decode cL_law 701 = .ok (.iconst 1, 1) := by decide +kernel
theorem dL_law_702 : decode cL_law 702 = .ok (.iadd, 1) := by decide +kernel
theorem dL_law_703 : decode cL_law 703 = .ok (.iaload, 1) := by decide +kernel
theorem dL_law_704 : decode cL_law 704 = .ok (.ifCond .eq 7, 3) := by decide +kernel
theorem dL_law_707 : decode cL_law 707 = .ok (.iconst 1, 1) := by decide +kernel
theorem dL_law_708 : decode cL_law 708 = .ok (.goto 4, 3) := by decide +kernel
theorem dL_law_711 : decode cL_law 711 = .ok (.iconst 0, 1) := by decide +kernel
theorem dL_law_712 : decode cL_law 712 = .ok (.invokevirtual 136, 3) := by decide +kernel
theorem dL_law_715 : decode cL_law 715 = .ok (.istore 6, 2) := by decide +kernel
theorem dL_law_717 : decode cL_law 717 = .ok (.aload_n 2, 1) := by decide +kernel
theorem dL_law_718 : decode cL_law 718 = .ok (.invokevirtual 111, 3) := by decide +kernel
theorem dL_law_721 : decode cL_law 721 = .ok (.iload 5, 2) := by decide +kernel
theorem dL_law_723 : decode cL_law 723 = .ok (.if_icmp .eq 5, 3) := by decide +kernel
theorem dL_law_728 : decode cL_law 728 = .ok (.iload 5, 2) := by decide +kernel
theorem dL_law_730 : decode cL_law 730 = .ok (.ifCond .ne 22, 3) := by decide +kernel
theorem dL_law_752 : decode cL_law 752 = .ok (.goto 1379, 3) := by decide +kernel
theorem glaw9_0 : GoodIn lw_tbl (va_wsS RL 133 yL_solve wsPL_solve) := goodIn_sub ((List.forall_mem_append.mpr ⟨(mem_p ([.methodLink RL 133 yL_solve, .static yL_solve, .initialized "OptimaWorksLaw"] : List Cond) [(7, 21), (7, 22), (1, 0)] (by decide +kernel)), ml_wsPL_solve⟩ : ∀ w ∈ va_wsS RL 133 yL_solve wsPL_solve, w ∈ lw_tbl)) (by decide +kernel)
theorem glaw9_1 : GoodIn lw_tbl (wsV RL 136 RX12 yX12_solve wsPX12_solve) := goodIn_sub ((List.forall_mem_append.mpr ⟨(mem_p ([.methodLink RL 136 yX12_solve, .instanceMethod yX12_solve, .selects RX12 yX12_solve yX12_solve, .initialized RX12] : List Cond) [(14, 8), (14, 9), (14, 10), (1, 4)] (by decide +kernel)), ml_wsPX12_solve⟩ : ∀ w ∈ wsV RL 136 RX12 yX12_solve wsPX12_solve, w ∈ lw_tbl)) (by decide +kernel)
theorem glaw9_2 : GoodIn lw_tbl (wsV RL 111 RX12 yX12_thrown wsPX12_thrown) := goodIn_sub ((List.forall_mem_append.mpr ⟨(mem_p ([.methodLink RL 111 yX12_thrown, .instanceMethod yX12_thrown, .selects RX12 yX12_thrown yX12_thrown, .initialized RX12] : List Cond) [(12, 139), (12, 140), (12, 141), (1, 4)] (by decide +kernel)), ml_wsPX12_thrown⟩ : ∀ w ∈ wsV RL 111 RX12 yX12_thrown wsPX12_thrown, w ∈ lw_tbl)) (by decide +kernel)
set_option maxHeartbeats 4000000 in
set_option maxRecDepth 100000 in
/-- the law's case 9: solve -/
theorem lc_9 {p : Program} {e : Env} {s : State} {m : MethodId} {below : List Frame} {meth : Method} {c : Code} (l : Launch) (hst : l.stackTraces = false) {b : Nat} {xs : Nat → Int32} (C0 : lw_At p s m meth c b 6 xs) {A : Nat → Prop} (hA : ∀ q : Nat, s.heap.size ≤ q → A q) (hA2 : ∀ q : Nat, A q → s.heap.size ≤ q) (X0 : lx_ok A s) (dC : Nat → ClassId) (dI : Nat → Nat → Nat) {h1 h2 o : Nat} {a : Nat → Nat} {k : Nat → ClassId} {av : Nat → Nat} {kv : Nat → ClassId} {kO : ClassId} {H : Heap} {locs : List Loc} {ls : Array Slot} (hK : va_K (dC, dI) vwCl [(kO, .long)] s) (hP : va_P (dC, dI) vwCl [(h1, .inr (11, [.ref (a 0), .ref (a 1), .ref (a 3), .ref (a 14), .int 0, .null, .null, .null, .null, .null, .null])), ((a 3), .inr (1, [.int 0, .int 0, .int 0, .int 0, .int 0, .int 0, .ref (a 4), .ref (a 5), .ref (a 6), .ref (a 7), .int 0, .ref (a 8), .ref (a 9), .ref (a 10), .ref (a 11), .ref (a 12), .ref (a 13)])), (h2, .inr (12, fM (vM av))), (o, .inl (kO, 1, .inr (.inl (fun _ => 0))))] H) (hD : va_D A [(h1, .inr (11, [.ref (a 0), .ref (a 1), .ref (a 3), .ref (a 14), .int 0, .null, .null, .null, .null, .null, .null])), ((a 3), .inr (1, [.int 0, .int 0, .int 0, .int 0, .int 0, .int 0, .ref (a 4), .ref (a 5), .ref (a 6), .ref (a 7), .int 0, .ref (a 8), .ref (a 9), .ref (a 10), .ref (a 11), .ref (a 12), .ref (a 13)])), (h2, .inr (12, fM (vM av))), (o, .inl (kO, 1, .inr (.inl (fun _ => 0))))]) (hS : va_S A s.heap H locs) (hl : lv_has ls 7 [(4, .int 0), (3, .ref o), (2, .ref h2), (1, .ref h1), (0, .ref b)]) : W p l e room_1 s m #[Value.ref b] below meth c H locs 125 181434 (lw_Z below #[Value.ref b] s) (F0 m 676 ls []) := by
  obtain ⟨hx, hb, hr, hml, hown, hts, hX, hbl, hlocks, hgv⟩ := id C0
  have hb : c.code = cL_law := hb
  have hown : s.vm.findClass RL = some m.cls := hown
  obtain ⟨hU, hN, hnX11_343, hnX11_392, hnX11_421, hncAI, hngX11_161, hngX11_79, hngX11_95⟩ := X0
  have hbA : ¬ A b := fun h => absurd (hA2 b h) (Nat.not_le.mpr hbl)
  refine lv_aload_n hx hb dL_law_676 rfl (lv_at hl 3 rfl) ?_
  refine lv_aload_n hx hb dL_law_677 rfl (lv_at hl 4 rfl) ?_
  refine lv_iload hx hb dL_law_678 (lv_at hl 0 rfl) ?_
  refine lv_iconst (v := 1) hx hb dL_law_680 (by decide) ?_
  refine lv_iadd hx hb dL_law_681 ?_
  refine lv_topi (fun y1 hy1 => ?_)
  obtain rfl : 1 = y1 := (hy1.trans (by decide)).symm
  refine va_sld hx hb hX hbl hbA hS (show ¬ ((1 : Int32) < 0 ∨ 6 ≤ (1 : Int32).toNatClampNeg) by decide) dL_law_682 ?_
  refine lv_topi (fun y2 hy2 => ?_)
  obtain rfl : (xs 1) = y2 := (hy2.trans (rfl)).symm
  refine lv_if_eq (tgt := 690) hx hb dL_law_683 (by decide) (fun c_683 => ?_) (fun c_683 => ?_)
  · have t_683 : ((xs 1)).toInt = 0 := toI_eq c_683 rfl (by decide)
    refine lv_iconst (v := 0) hx hb dL_law_690 (by decide) ?_
    refine lv_aload_n hx hb dL_law_691 rfl (lv_at hl 1 rfl) ?_
    have hPc := hP.sub (ws' := [(h1, .inr (11, [.ref (a 0), .ref (a 1), .ref (a 3), .ref (a 14), .int 0, .null, .null, .null, .null, .null, .null])), ((a 3), .inr (1, [.int 0, .int 0, .int 0, .int 0, .int 0, .int 0, .ref (a 4), .ref (a 5), .ref (a 6), .ref (a 7), .int 0, .ref (a 8), .ref (a 9), .ref (a 10), .ref (a 11), .ref (a 12), .ref (a 13)])), (o, .inl (kO, 1, .inr (.inl (fun _ => 0))))]) [0, 1, 3] rfl
    have hDc := hD.sub (ws' := [(h1, .inr (11, [.ref (a 0), .ref (a 1), .ref (a 3), .ref (a 14), .int 0, .null, .null, .null, .null, .null, .null])), ((a 3), .inr (1, [.int 0, .int 0, .int 0, .int 0, .int 0, .int 0, .ref (a 4), .ref (a 5), .ref (a 6), .ref (a 7), .int 0, .ref (a 8), .ref (a 9), .ref (a 10), .ref (a 11), .ref (a 12), .ref (a 13)])), (o, .inl (kO, 1, .inr (.inl (fun _ => 0))))]) [0, 1, 3] (by decide) rfl
    have hKc := hK.sub (tys' := [(kO, .long)]) [0] rfl
    have hFc := va_free (wc := [(h1, .inr (11, [.ref (a 0), .ref (a 1), .ref (a 3), .ref (a 14), .int 0, .null, .null, .null, .null, .null, .null])), ((a 3), .inr (1, [.int 0, .int 0, .int 0, .int 0, .int 0, .int 0, .ref (a 4), .ref (a 5), .ref (a 6), .ref (a 7), .int 0, .ref (a 8), .ref (a 9), .ref (a 10), .ref (a 11), .ref (a 12), .ref (a 13)])), (o, .inl (kO, 1, .inr (.inl (fun _ => 0))))]) hD hS hA [0, 1, 3] rfl
    refine va_calli (vx_runSW (As := [.ref h1, .int 0, .ref o]) (rest := []) ⟨hx, hb, hml, hown, hts⟩ (p_L_solve l hst dC dI h1 a o kO 0 H.size) (vx_cwSW 3 hts glaw9_0 rfl rfl rfl (by decide +kernel) ⟨by decide +kernel, by decide +kernel⟩) ⟨fun a U g mk q => by obtain ⟨q0, q1, qP, qK, qD, qU, qN, qngX11_161⟩ := q; exact ⟨q0, q1, qP, va_K.moved (u := U) (U := U.calling g mk a) (Vm.Alike.refl U.vm) qK, qD, vx_Zq.moved (u := U) (U := U.calling g mk a) (Vm.Alike.refl U.vm) qU, vx_Zq.moved (u := U) (U := U.calling g mk a) (Vm.Alike.refl U.vm) qN, fun w h => va_Nw.same (u := U) (U := U.calling g mk a) (ngX11_161_ot w h) rfl (qngX11_161 w h)⟩, fun U hU9 hW => ⟨rfl, by rw [hU9], by rw [hU9]; exact hPc, va_K.moved hW.alike hKc, hDc.weaken (fun _ _ _ _ => trivial), by rw [hU9]; exact ((hU.kept (fun a h1 h2 => hS.2.1 a h1 h2)).narrow hFc).moved hW.alike, by rw [hU9]; exact ((hN.kept (fun a h1 h2 => hS.2.1 a h1 h2)).narrow hFc).moved hW.alike, fun w h => cd_warm (ngX11_161_cd w h) hW (hngX11_161 w h)⟩⟩ rfl rfl hl.1 rfl (lv_room (Nat.le_of_ble_eq_true rfl)) dL_law_692 ⟨by decide +kernel, by decide +kernel⟩) hS (fun q _ h => hFc q h) hFc (fun r692 u t H1 locs ht hvm hw hB hz1 hk1 hS => ?_)
    obtain ⟨go692, hwit692⟩ : ∃ w9, w9 = u := ⟨u, rfl⟩
    subst hwit692
    obtain ⟨hP1, hK1, hD1⟩ := hB
    rw [ht] at hP1
    have hK1 := va_K.moved hvm.symm hK1
    obtain ⟨hP, hD⟩ := va_join (wr := [(h2, .inr (12, fM (vM av)))]) (w1 := [(o, .inl (kO, 1, .inr (.inl go692)))]) hP hD [0, 1, 3] [2] rfl rfl (by decide) (by decide) hk1 hFc hP1 hD1
    generalize H1 = H at hP hS ⊢
    have hP : va_P (dC, dI) vwCl [(h2, .inr (12, fM (vM av))), (o, .inl (kO, 1, .inr (.inl go692)))] H := hP
    have hD : va_D A [(h2, .inr (12, fM (vM av))), (o, .inl (kO, 1, .inr (.inl go692)))] := hD
    refine W.widen (k := 126) (n := 181440) (by decide +kernel) (by decide +kernel) ?_
    obtain rfl := hw
    refine lv_istore (lv' := [(5, .int 1), (4, .int 0), (3, .ref o), (2, .ref h2), (1, .ref h1), (0, .ref b)]) hx hb dL_law_695 hl (by decide) rfl (fun ls hl => ?_)
    refine lv_aload_n hx hb dL_law_697 rfl (lv_at hl 3 rfl) ?_
    refine lv_aload_n hx hb dL_law_698 rfl (lv_at hl 5 rfl) ?_
    refine lv_iload hx hb dL_law_699 (lv_at hl 1 rfl) ?_
    refine lv_iconst (v := 1) hx hb dL_law_701 (by decide) ?_
    refine lv_iadd hx hb dL_law_702 ?_
    refine lv_topi (fun y3 hy3 => ?_)
    obtain rfl : 1 = y3 := (hy3.trans (by decide)).symm
    refine va_sld hx hb hX hbl hbA hS (show ¬ ((1 : Int32) < 0 ∨ 6 ≤ (1 : Int32).toNatClampNeg) by decide) dL_law_703 ?_
    refine lv_topi (fun y4 hy4 => ?_)
    obtain rfl : (xs 1) = y4 := (hy4.trans (rfl)).symm
    refine lv_if_eq (tgt := 711) hx hb dL_law_704 (by decide) (fun c_704 => ?_) (fun c_704 => ?_)
    · have t_704 : ((xs 1)).toInt = 0 := toI_eq c_704 rfl (by decide)
      refine lv_iconst (v := 0) hx hb dL_law_711 (by decide) ?_
      have hPc := hP.sub (ws' := [(h2, .inr (12, fM (vM av)))]) [0] rfl
      have hDc := hD.sub (ws' := [(h2, .inr (12, fM (vM av)))]) [0] (by decide) rfl
      have hKc := hK.sub (tys' := []) [] rfl
      have hFc := va_free (wc := [(h2, .inr (12, fM (vM av)))]) hD hS hA [0] rfl
      refine va_calli (va_runV (As := [.int 0]) (rest := []) ⟨hx, hb, hml, hown, hts⟩ (p_X12_solve l dC dI h2 (vM av) (rfl) 0 H.size) (cwV 1 hts glaw9_1 rfl rfl rfl (by decide +kernel) ⟨by decide +kernel, by decide +kernel⟩) ⟨fun a U g mk q => by obtain ⟨q0, q1, qP, qK, qD⟩ := q; exact ⟨q0, q1, qP, va_K.moved (u := U) (U := U.calling g mk a) (Vm.Alike.refl U.vm) qK, qD⟩, va_recv hKc hPc (ci := 12) (q0 := 0) rfl rfl, fun U hU9 hW => ⟨rfl, by rw [hU9], by rw [hU9]; exact hPc, va_K.moved hW.alike hKc, hDc.weaken (fun _ _ _ _ => trivial)⟩⟩ rfl rfl hl.1 rfl (lv_room (Nat.le_of_ble_eq_true rfl)) dL_law_712 ⟨by decide +kernel, by decide +kernel⟩) hS (fun q _ h => hFc q h) hFc (fun r712 u t H1 locs ht hvm hw hB hz1 hk1 hS => ?_)
      obtain ⟨w712, hwit712⟩ : ∃ w9, w9 = u := ⟨u, rfl⟩
      subst hwit712
      obtain ⟨hP1, hK1, hD1⟩ := hB
      rw [ht] at hP1
      have hK1 := va_K.moved hvm.symm hK1
      obtain ⟨hP, hD⟩ := va_join (wr := [(o, .inl (kO, 1, .inr (.inl go692)))]) (w1 := [(h2, .inr (12, fM w712))]) hP hD [0] [1] rfl rfl (by decide) (by decide) hk1 hFc hP1 hD1
      generalize H1 = H at hP hS ⊢
      have hP : va_P (dC, dI) vwCl [(o, .inl (kO, 1, .inr (.inl go692))), (h2, .inr (12, fM w712))] H := hP
      have hD : va_D A [(o, .inl (kO, 1, .inr (.inl go692))), (h2, .inr (12, fM w712))] := hD
      obtain ⟨rfl, f712_0⟩ := hw
      refine lv_istore (lv' := [(6, .int 0), (5, .int 1), (4, .int 0), (3, .ref o), (2, .ref h2), (1, .ref h1), (0, .ref b)]) hx hb dL_law_715 hl (by decide) rfl (fun ls hl => ?_)
      refine lv_aload_n hx hb dL_law_717 rfl (lv_at hl 4 rfl) ?_
      have hPc := hP.sub (ws' := [(h2, .inr (12, fM w712))]) [1] rfl
      have hDc := hD.sub (ws' := [(h2, .inr (12, fM w712))]) [1] (by decide) rfl
      have hKc := hK.sub (tys' := []) [] rfl
      have hFc := va_free (wc := [(h2, .inr (12, fM w712))]) hD hS hA [1] rfl
      refine va_calli (va_runV (As := []) (rest := []) ⟨hx, hb, hml, hown, hts⟩ (p_X12_thrown l dC dI h2 w712 1 (f712_0) H.size) (cwV 0 hts glaw9_2 rfl rfl rfl (by decide +kernel) ⟨by decide +kernel, by decide +kernel⟩) ⟨fun a U g mk q => by obtain ⟨q0, q1, qP, qK, qD⟩ := q; exact ⟨q0, q1, qP, va_K.moved (u := U) (U := U.calling g mk a) (Vm.Alike.refl U.vm) qK, qD⟩, va_recv hKc hPc (ci := 12) (q0 := 0) rfl rfl, fun U hU9 hW => ⟨rfl, by rw [hU9], by rw [hU9]; exact hPc, va_K.moved hW.alike hKc, hDc.weaken (fun _ _ _ _ => trivial)⟩⟩ rfl rfl hl.1 rfl (lv_room (Nat.le_of_ble_eq_true rfl)) dL_law_718 ⟨by decide +kernel, by decide +kernel⟩) hS (fun q _ h => hFc q h) hFc (fun r718 u t H1 locs ht hvm hw hB hz1 hk1 hS => ?_)
      obtain ⟨hP1, hK1, hD1⟩ := hB
      rw [ht] at hP1
      have hK1 := va_K.moved hvm.symm hK1
      obtain ⟨hP, hD⟩ := va_join (wr := [(o, .inl (kO, 1, .inr (.inl go692)))]) (w1 := []) hP hD [1] [0] rfl rfl (by decide) (by decide) hk1 hFc hP1 hD1
      generalize H1 = H at hP hS ⊢
      have hP : va_P (dC, dI) vwCl [(o, .inl (kO, 1, .inr (.inl go692)))] H := hP
      have hD : va_D A [(o, .inl (kO, 1, .inr (.inl go692)))] := hD
      obtain rfl := hw
      refine lv_iload hx hb dL_law_721 (lv_at hl 1 rfl) ?_
      refine lv_icmp_eq (tgt := 728) hx hb dL_law_723 (by decide) (fun _ => ?_) (fun c9 => absurd (by decide) c9)
      refine lv_iload hx hb dL_law_728 (lv_at hl 1 rfl) ?_
      refine lv_if_ne (tgt := 752) hx hb dL_law_730 (by decide) (fun _ => ?_) (fun c9 => absurd c9 (by decide))
      refine lv_goto (tgt := 2131) hx hb dL_law_752 (by decide) ?_
      refine lv_iinc (v := 6) (lv' := [(4, .int 6), (6, .int 0), (5, .int 1), (3, .ref o), (2, .ref h2), (1, .ref h1), (0, .ref b)]) hx hb dL_law_2131 hl (k := 2) rfl (by decide) (by decide) rfl (fun ls hl => ?_)
      refine lv_goto (tgt := 23) hx hb dL_law_2134 (by decide) ?_
      refine lv_iload hx hb dL_law_23 (lv_at hl 0 rfl) ?_
      refine lv_aload_n hx hb dL_law_25 rfl (lv_at hl 6 rfl) ?_
      refine va_slen hx hb hX hbl hbA hS dL_law_26 ?_
      refine lv_topi (fun y5 hy5 => ?_)
      obtain rfl : 6 = y5 := (hy5.trans (rfl)).symm
      refine lv_bipush (v := 6) hx hb dL_law_27 (by decide) ?_
      refine lv_isub hx hb dL_law_29 ?_
      refine lv_topi (fun y6 hy6 => ?_)
      obtain rfl : 0 = y6 := (hy6.trans (by decide)).symm
      refine lv_icmp_gt (tgt := 2137) hx hb dL_law_30 (by decide) (fun _ => ?_) (fun c9 => absurd (by decide) c9)
      refine lv_iconst (v := 1) hx hb dL_law_2137 (by decide) ?_
      refine W.widen (k := 600002) (n := 7302232) (by decide +kernel) (by decide +kernel) ?_
      refine va_forget (fun q hq => hA2 _ (hS.2.2 q hq)) ?_
      exact lw_ret hx hb hr hlocks dL_law_2138
    · have t_704 : ¬ ((xs 1)).toInt = 0 := toI_neq c_704 rfl (by decide)
      refine lv_iconst (v := 1) hx hb dL_law_707 (by decide) ?_
      refine lv_goto (tgt := 712) hx hb dL_law_708 (by decide) ?_
      have hPc := hP.sub (ws' := [(h2, .inr (12, fM (vM av)))]) [0] rfl
      have hDc := hD.sub (ws' := [(h2, .inr (12, fM (vM av)))]) [0] (by decide) rfl
      have hKc := hK.sub (tys' := []) [] rfl
      have hFc := va_free (wc := [(h2, .inr (12, fM (vM av)))]) hD hS hA [0] rfl
      refine va_calli (va_runV (As := [.int 1]) (rest := []) ⟨hx, hb, hml, hown, hts⟩ (p_X12_solve l dC dI h2 (vM av) (rfl) 1 H.size) (cwV 1 hts glaw9_1 rfl rfl rfl (by decide +kernel) ⟨by decide +kernel, by decide +kernel⟩) ⟨fun a U g mk q => by obtain ⟨q0, q1, qP, qK, qD⟩ := q; exact ⟨q0, q1, qP, va_K.moved (u := U) (U := U.calling g mk a) (Vm.Alike.refl U.vm) qK, qD⟩, va_recv hKc hPc (ci := 12) (q0 := 0) rfl rfl, fun U hU9 hW => ⟨rfl, by rw [hU9], by rw [hU9]; exact hPc, va_K.moved hW.alike hKc, hDc.weaken (fun _ _ _ _ => trivial)⟩⟩ rfl rfl hl.1 rfl (lv_room (Nat.le_of_ble_eq_true rfl)) dL_law_712 ⟨by decide +kernel, by decide +kernel⟩) hS (fun q _ h => hFc q h) hFc (fun r712_1 u t H1 locs ht hvm hw hB hz1 hk1 hS => ?_)
      obtain ⟨w712_1, hwit712_1⟩ : ∃ w9, w9 = u := ⟨u, rfl⟩
      subst hwit712_1
      obtain ⟨hP1, hK1, hD1⟩ := hB
      rw [ht] at hP1
      have hK1 := va_K.moved hvm.symm hK1
      obtain ⟨hP, hD⟩ := va_join (wr := [(o, .inl (kO, 1, .inr (.inl go692)))]) (w1 := [(h2, .inr (12, fM w712_1))]) hP hD [0] [1] rfl rfl (by decide) (by decide) hk1 hFc hP1 hD1
      generalize H1 = H at hP hS ⊢
      have hP : va_P (dC, dI) vwCl [(o, .inl (kO, 1, .inr (.inl go692))), (h2, .inr (12, fM w712_1))] H := hP
      have hD : va_D A [(o, .inl (kO, 1, .inr (.inl go692))), (h2, .inr (12, fM w712_1))] := hD
      obtain ⟨rfl, f712_1_0⟩ := hw
      refine lv_istore (lv' := [(6, .int 0), (5, .int 1), (4, .int 0), (3, .ref o), (2, .ref h2), (1, .ref h1), (0, .ref b)]) hx hb dL_law_715 hl (by decide) rfl (fun ls hl => ?_)
      refine lv_aload_n hx hb dL_law_717 rfl (lv_at hl 4 rfl) ?_
      have hPc := hP.sub (ws' := [(h2, .inr (12, fM w712_1))]) [1] rfl
      have hDc := hD.sub (ws' := [(h2, .inr (12, fM w712_1))]) [1] (by decide) rfl
      have hKc := hK.sub (tys' := []) [] rfl
      have hFc := va_free (wc := [(h2, .inr (12, fM w712_1))]) hD hS hA [1] rfl
      refine va_calli (va_runV (As := []) (rest := []) ⟨hx, hb, hml, hown, hts⟩ (p_X12_thrown l dC dI h2 w712_1 1 (f712_1_0) H.size) (cwV 0 hts glaw9_2 rfl rfl rfl (by decide +kernel) ⟨by decide +kernel, by decide +kernel⟩) ⟨fun a U g mk q => by obtain ⟨q0, q1, qP, qK, qD⟩ := q; exact ⟨q0, q1, qP, va_K.moved (u := U) (U := U.calling g mk a) (Vm.Alike.refl U.vm) qK, qD⟩, va_recv hKc hPc (ci := 12) (q0 := 0) rfl rfl, fun U hU9 hW => ⟨rfl, by rw [hU9], by rw [hU9]; exact hPc, va_K.moved hW.alike hKc, hDc.weaken (fun _ _ _ _ => trivial)⟩⟩ rfl rfl hl.1 rfl (lv_room (Nat.le_of_ble_eq_true rfl)) dL_law_718 ⟨by decide +kernel, by decide +kernel⟩) hS (fun q _ h => hFc q h) hFc (fun r718_1 u t H1 locs ht hvm hw hB hz1 hk1 hS => ?_)
      obtain ⟨hP1, hK1, hD1⟩ := hB
      rw [ht] at hP1
      have hK1 := va_K.moved hvm.symm hK1
      obtain ⟨hP, hD⟩ := va_join (wr := [(o, .inl (kO, 1, .inr (.inl go692)))]) (w1 := []) hP hD [1] [0] rfl rfl (by decide) (by decide) hk1 hFc hP1 hD1
      generalize H1 = H at hP hS ⊢
      have hP : va_P (dC, dI) vwCl [(o, .inl (kO, 1, .inr (.inl go692)))] H := hP
      have hD : va_D A [(o, .inl (kO, 1, .inr (.inl go692)))] := hD
      obtain rfl := hw
      refine lv_iload hx hb dL_law_721 (lv_at hl 1 rfl) ?_
      refine lv_icmp_eq (tgt := 728) hx hb dL_law_723 (by decide) (fun _ => ?_) (fun c9 => absurd (by decide) c9)
      refine lv_iload hx hb dL_law_728 (lv_at hl 1 rfl) ?_
      refine lv_if_ne (tgt := 752) hx hb dL_law_730 (by decide) (fun _ => ?_) (fun c9 => absurd c9 (by decide))
      refine lv_goto (tgt := 2131) hx hb dL_law_752 (by decide) ?_
      refine lv_iinc (v := 6) (lv' := [(4, .int 6), (6, .int 0), (5, .int 1), (3, .ref o), (2, .ref h2), (1, .ref h1), (0, .ref b)]) hx hb dL_law_2131 hl (k := 2) rfl (by decide) (by decide) rfl (fun ls hl => ?_)
      refine lv_goto (tgt := 23) hx hb dL_law_2134 (by decide) ?_
      refine lv_iload hx hb dL_law_23 (lv_at hl 0 rfl) ?_
      refine lv_aload_n hx hb dL_law_25 rfl (lv_at hl 6 rfl) ?_
      refine va_slen hx hb hX hbl hbA hS dL_law_26 ?_
      refine lv_topi (fun y7 hy7 => ?_)
      obtain rfl : 6 = y7 := (hy7.trans (rfl)).symm
      refine lv_bipush (v := 6) hx hb dL_law_27 (by decide) ?_
      refine lv_isub hx hb dL_law_29 ?_
      refine lv_topi (fun y8 hy8 => ?_)
      obtain rfl : 0 = y8 := (hy8.trans (by decide)).symm
      refine lv_icmp_gt (tgt := 2137) hx hb dL_law_30 (by decide) (fun _ => ?_) (fun c9 => absurd (by decide) c9)
      refine lv_iconst (v := 1) hx hb dL_law_2137 (by decide) ?_
      refine W.widen (k := 600002) (n := 7302232) (by decide +kernel) (by decide +kernel) ?_
      refine va_forget (fun q hq => hA2 _ (hS.2.2 q hq)) ?_
      exact lw_ret hx hb hr hlocks dL_law_2138
  · have t_683 : ¬ ((xs 1)).toInt = 0 := toI_neq c_683 rfl (by decide)
    refine lv_iconst (v := 1) hx hb dL_law_686 (by decide) ?_
    refine lv_goto (tgt := 691) hx hb dL_law_687 (by decide) ?_
    refine lv_aload_n hx hb dL_law_691 rfl (lv_at hl 1 rfl) ?_
    have hPc := hP.sub (ws' := [(h1, .inr (11, [.ref (a 0), .ref (a 1), .ref (a 3), .ref (a 14), .int 0, .null, .null, .null, .null, .null, .null])), ((a 3), .inr (1, [.int 0, .int 0, .int 0, .int 0, .int 0, .int 0, .ref (a 4), .ref (a 5), .ref (a 6), .ref (a 7), .int 0, .ref (a 8), .ref (a 9), .ref (a 10), .ref (a 11), .ref (a 12), .ref (a 13)])), (o, .inl (kO, 1, .inr (.inl (fun _ => 0))))]) [0, 1, 3] rfl
    have hDc := hD.sub (ws' := [(h1, .inr (11, [.ref (a 0), .ref (a 1), .ref (a 3), .ref (a 14), .int 0, .null, .null, .null, .null, .null, .null])), ((a 3), .inr (1, [.int 0, .int 0, .int 0, .int 0, .int 0, .int 0, .ref (a 4), .ref (a 5), .ref (a 6), .ref (a 7), .int 0, .ref (a 8), .ref (a 9), .ref (a 10), .ref (a 11), .ref (a 12), .ref (a 13)])), (o, .inl (kO, 1, .inr (.inl (fun _ => 0))))]) [0, 1, 3] (by decide) rfl
    have hKc := hK.sub (tys' := [(kO, .long)]) [0] rfl
    have hFc := va_free (wc := [(h1, .inr (11, [.ref (a 0), .ref (a 1), .ref (a 3), .ref (a 14), .int 0, .null, .null, .null, .null, .null, .null])), ((a 3), .inr (1, [.int 0, .int 0, .int 0, .int 0, .int 0, .int 0, .ref (a 4), .ref (a 5), .ref (a 6), .ref (a 7), .int 0, .ref (a 8), .ref (a 9), .ref (a 10), .ref (a 11), .ref (a 12), .ref (a 13)])), (o, .inl (kO, 1, .inr (.inl (fun _ => 0))))]) hD hS hA [0, 1, 3] rfl
    refine va_calli (vx_runSW (As := [.ref h1, .int 1, .ref o]) (rest := []) ⟨hx, hb, hml, hown, hts⟩ (p_L_solve l hst dC dI h1 a o kO 1 H.size) (vx_cwSW 3 hts glaw9_0 rfl rfl rfl (by decide +kernel) ⟨by decide +kernel, by decide +kernel⟩) ⟨fun a U g mk q => by obtain ⟨q0, q1, qP, qK, qD, qU, qN, qngX11_161⟩ := q; exact ⟨q0, q1, qP, va_K.moved (u := U) (U := U.calling g mk a) (Vm.Alike.refl U.vm) qK, qD, vx_Zq.moved (u := U) (U := U.calling g mk a) (Vm.Alike.refl U.vm) qU, vx_Zq.moved (u := U) (U := U.calling g mk a) (Vm.Alike.refl U.vm) qN, fun w h => va_Nw.same (u := U) (U := U.calling g mk a) (ngX11_161_ot w h) rfl (qngX11_161 w h)⟩, fun U hU9 hW => ⟨rfl, by rw [hU9], by rw [hU9]; exact hPc, va_K.moved hW.alike hKc, hDc.weaken (fun _ _ _ _ => trivial), by rw [hU9]; exact ((hU.kept (fun a h1 h2 => hS.2.1 a h1 h2)).narrow hFc).moved hW.alike, by rw [hU9]; exact ((hN.kept (fun a h1 h2 => hS.2.1 a h1 h2)).narrow hFc).moved hW.alike, fun w h => cd_warm (ngX11_161_cd w h) hW (hngX11_161 w h)⟩⟩ rfl rfl hl.1 rfl (lv_room (Nat.le_of_ble_eq_true rfl)) dL_law_692 ⟨by decide +kernel, by decide +kernel⟩) hS (fun q _ h => hFc q h) hFc (fun r692_1 u t H1 locs ht hvm hw hB hz1 hk1 hS => ?_)
    obtain ⟨go692_1, hwit692_1⟩ : ∃ w9, w9 = u := ⟨u, rfl⟩
    subst hwit692_1
    obtain ⟨hP1, hK1, hD1⟩ := hB
    rw [ht] at hP1
    have hK1 := va_K.moved hvm.symm hK1
    obtain ⟨hP, hD⟩ := va_join (wr := [(h2, .inr (12, fM (vM av)))]) (w1 := [(o, .inl (kO, 1, .inr (.inl go692_1)))]) hP hD [0, 1, 3] [2] rfl rfl (by decide) (by decide) hk1 hFc hP1 hD1
    generalize H1 = H at hP hS ⊢
    have hP : va_P (dC, dI) vwCl [(h2, .inr (12, fM (vM av))), (o, .inl (kO, 1, .inr (.inl go692_1)))] H := hP
    have hD : va_D A [(h2, .inr (12, fM (vM av))), (o, .inl (kO, 1, .inr (.inl go692_1)))] := hD
    refine W.widen (k := 127) (n := 181446) (by decide +kernel) (by decide +kernel) ?_
    obtain rfl := hw
    refine lv_istore (lv' := [(5, .int 1), (4, .int 0), (3, .ref o), (2, .ref h2), (1, .ref h1), (0, .ref b)]) hx hb dL_law_695 hl (by decide) rfl (fun ls hl => ?_)
    refine lv_aload_n hx hb dL_law_697 rfl (lv_at hl 3 rfl) ?_
    refine lv_aload_n hx hb dL_law_698 rfl (lv_at hl 5 rfl) ?_
    refine lv_iload hx hb dL_law_699 (lv_at hl 1 rfl) ?_
    refine lv_iconst (v := 1) hx hb dL_law_701 (by decide) ?_
    refine lv_iadd hx hb dL_law_702 ?_
    refine lv_topi (fun y9 hy9 => ?_)
    obtain rfl : 1 = y9 := (hy9.trans (by decide)).symm
    refine va_sld hx hb hX hbl hbA hS (show ¬ ((1 : Int32) < 0 ∨ 6 ≤ (1 : Int32).toNatClampNeg) by decide) dL_law_703 ?_
    refine lv_topi (fun y10 hy10 => ?_)
    obtain rfl : (xs 1) = y10 := (hy10.trans (rfl)).symm
    refine lv_if_eq (tgt := 711) hx hb dL_law_704 (by decide) (fun c_704 => ?_) (fun c_704 => ?_)
    · have t_704 : ((xs 1)).toInt = 0 := toI_eq c_704 rfl (by decide)
      refine lv_iconst (v := 0) hx hb dL_law_711 (by decide) ?_
      have hPc := hP.sub (ws' := [(h2, .inr (12, fM (vM av)))]) [0] rfl
      have hDc := hD.sub (ws' := [(h2, .inr (12, fM (vM av)))]) [0] (by decide) rfl
      have hKc := hK.sub (tys' := []) [] rfl
      have hFc := va_free (wc := [(h2, .inr (12, fM (vM av)))]) hD hS hA [0] rfl
      refine va_calli (va_runV (As := [.int 0]) (rest := []) ⟨hx, hb, hml, hown, hts⟩ (p_X12_solve l dC dI h2 (vM av) (rfl) 0 H.size) (cwV 1 hts glaw9_1 rfl rfl rfl (by decide +kernel) ⟨by decide +kernel, by decide +kernel⟩) ⟨fun a U g mk q => by obtain ⟨q0, q1, qP, qK, qD⟩ := q; exact ⟨q0, q1, qP, va_K.moved (u := U) (U := U.calling g mk a) (Vm.Alike.refl U.vm) qK, qD⟩, va_recv hKc hPc (ci := 12) (q0 := 0) rfl rfl, fun U hU9 hW => ⟨rfl, by rw [hU9], by rw [hU9]; exact hPc, va_K.moved hW.alike hKc, hDc.weaken (fun _ _ _ _ => trivial)⟩⟩ rfl rfl hl.1 rfl (lv_room (Nat.le_of_ble_eq_true rfl)) dL_law_712 ⟨by decide +kernel, by decide +kernel⟩) hS (fun q _ h => hFc q h) hFc (fun r712_2 u t H1 locs ht hvm hw hB hz1 hk1 hS => ?_)
      obtain ⟨w712_2, hwit712_2⟩ : ∃ w9, w9 = u := ⟨u, rfl⟩
      subst hwit712_2
      obtain ⟨hP1, hK1, hD1⟩ := hB
      rw [ht] at hP1
      have hK1 := va_K.moved hvm.symm hK1
      obtain ⟨hP, hD⟩ := va_join (wr := [(o, .inl (kO, 1, .inr (.inl go692_1)))]) (w1 := [(h2, .inr (12, fM w712_2))]) hP hD [0] [1] rfl rfl (by decide) (by decide) hk1 hFc hP1 hD1
      generalize H1 = H at hP hS ⊢
      have hP : va_P (dC, dI) vwCl [(o, .inl (kO, 1, .inr (.inl go692_1))), (h2, .inr (12, fM w712_2))] H := hP
      have hD : va_D A [(o, .inl (kO, 1, .inr (.inl go692_1))), (h2, .inr (12, fM w712_2))] := hD
      obtain ⟨rfl, f712_2_0⟩ := hw
      refine lv_istore (lv' := [(6, .int 0), (5, .int 1), (4, .int 0), (3, .ref o), (2, .ref h2), (1, .ref h1), (0, .ref b)]) hx hb dL_law_715 hl (by decide) rfl (fun ls hl => ?_)
      refine lv_aload_n hx hb dL_law_717 rfl (lv_at hl 4 rfl) ?_
      have hPc := hP.sub (ws' := [(h2, .inr (12, fM w712_2))]) [1] rfl
      have hDc := hD.sub (ws' := [(h2, .inr (12, fM w712_2))]) [1] (by decide) rfl
      have hKc := hK.sub (tys' := []) [] rfl
      have hFc := va_free (wc := [(h2, .inr (12, fM w712_2))]) hD hS hA [1] rfl
      refine va_calli (va_runV (As := []) (rest := []) ⟨hx, hb, hml, hown, hts⟩ (p_X12_thrown l dC dI h2 w712_2 1 (f712_2_0) H.size) (cwV 0 hts glaw9_2 rfl rfl rfl (by decide +kernel) ⟨by decide +kernel, by decide +kernel⟩) ⟨fun a U g mk q => by obtain ⟨q0, q1, qP, qK, qD⟩ := q; exact ⟨q0, q1, qP, va_K.moved (u := U) (U := U.calling g mk a) (Vm.Alike.refl U.vm) qK, qD⟩, va_recv hKc hPc (ci := 12) (q0 := 0) rfl rfl, fun U hU9 hW => ⟨rfl, by rw [hU9], by rw [hU9]; exact hPc, va_K.moved hW.alike hKc, hDc.weaken (fun _ _ _ _ => trivial)⟩⟩ rfl rfl hl.1 rfl (lv_room (Nat.le_of_ble_eq_true rfl)) dL_law_718 ⟨by decide +kernel, by decide +kernel⟩) hS (fun q _ h => hFc q h) hFc (fun r718_2 u t H1 locs ht hvm hw hB hz1 hk1 hS => ?_)
      obtain ⟨hP1, hK1, hD1⟩ := hB
      rw [ht] at hP1
      have hK1 := va_K.moved hvm.symm hK1
      obtain ⟨hP, hD⟩ := va_join (wr := [(o, .inl (kO, 1, .inr (.inl go692_1)))]) (w1 := []) hP hD [1] [0] rfl rfl (by decide) (by decide) hk1 hFc hP1 hD1
      generalize H1 = H at hP hS ⊢
      have hP : va_P (dC, dI) vwCl [(o, .inl (kO, 1, .inr (.inl go692_1)))] H := hP
      have hD : va_D A [(o, .inl (kO, 1, .inr (.inl go692_1)))] := hD
      obtain rfl := hw
      refine lv_iload hx hb dL_law_721 (lv_at hl 1 rfl) ?_
      refine lv_icmp_eq (tgt := 728) hx hb dL_law_723 (by decide) (fun _ => ?_) (fun c9 => absurd (by decide) c9)
      refine lv_iload hx hb dL_law_728 (lv_at hl 1 rfl) ?_
      refine lv_if_ne (tgt := 752) hx hb dL_law_730 (by decide) (fun _ => ?_) (fun c9 => absurd c9 (by decide))
      refine lv_goto (tgt := 2131) hx hb dL_law_752 (by decide) ?_
      refine lv_iinc (v := 6) (lv' := [(4, .int 6), (6, .int 0), (5, .int 1), (3, .ref o), (2, .ref h2), (1, .ref h1), (0, .ref b)]) hx hb dL_law_2131 hl (k := 2) rfl (by decide) (by decide) rfl (fun ls hl => ?_)
      refine lv_goto (tgt := 23) hx hb dL_law_2134 (by decide) ?_
      refine lv_iload hx hb dL_law_23 (lv_at hl 0 rfl) ?_
      refine lv_aload_n hx hb dL_law_25 rfl (lv_at hl 6 rfl) ?_
      refine va_slen hx hb hX hbl hbA hS dL_law_26 ?_
      refine lv_topi (fun y11 hy11 => ?_)
      obtain rfl : 6 = y11 := (hy11.trans (rfl)).symm
      refine lv_bipush (v := 6) hx hb dL_law_27 (by decide) ?_
      refine lv_isub hx hb dL_law_29 ?_
      refine lv_topi (fun y12 hy12 => ?_)
      obtain rfl : 0 = y12 := (hy12.trans (by decide)).symm
      refine lv_icmp_gt (tgt := 2137) hx hb dL_law_30 (by decide) (fun _ => ?_) (fun c9 => absurd (by decide) c9)
      refine lv_iconst (v := 1) hx hb dL_law_2137 (by decide) ?_
      refine W.widen (k := 600002) (n := 7302232) (by decide +kernel) (by decide +kernel) ?_
      refine va_forget (fun q hq => hA2 _ (hS.2.2 q hq)) ?_
      exact lw_ret hx hb hr hlocks dL_law_2138
    · have t_704 : ¬ ((xs 1)).toInt = 0 := toI_neq c_704 rfl (by decide)
      refine lv_iconst (v := 1) hx hb dL_law_707 (by decide) ?_
      refine lv_goto (tgt := 712) hx hb dL_law_708 (by decide) ?_
      have hPc := hP.sub (ws' := [(h2, .inr (12, fM (vM av)))]) [0] rfl
      have hDc := hD.sub (ws' := [(h2, .inr (12, fM (vM av)))]) [0] (by decide) rfl
      have hKc := hK.sub (tys' := []) [] rfl
      have hFc := va_free (wc := [(h2, .inr (12, fM (vM av)))]) hD hS hA [0] rfl
      refine va_calli (va_runV (As := [.int 1]) (rest := []) ⟨hx, hb, hml, hown, hts⟩ (p_X12_solve l dC dI h2 (vM av) (rfl) 1 H.size) (cwV 1 hts glaw9_1 rfl rfl rfl (by decide +kernel) ⟨by decide +kernel, by decide +kernel⟩) ⟨fun a U g mk q => by obtain ⟨q0, q1, qP, qK, qD⟩ := q; exact ⟨q0, q1, qP, va_K.moved (u := U) (U := U.calling g mk a) (Vm.Alike.refl U.vm) qK, qD⟩, va_recv hKc hPc (ci := 12) (q0 := 0) rfl rfl, fun U hU9 hW => ⟨rfl, by rw [hU9], by rw [hU9]; exact hPc, va_K.moved hW.alike hKc, hDc.weaken (fun _ _ _ _ => trivial)⟩⟩ rfl rfl hl.1 rfl (lv_room (Nat.le_of_ble_eq_true rfl)) dL_law_712 ⟨by decide +kernel, by decide +kernel⟩) hS (fun q _ h => hFc q h) hFc (fun r712_3 u t H1 locs ht hvm hw hB hz1 hk1 hS => ?_)
      obtain ⟨w712_3, hwit712_3⟩ : ∃ w9, w9 = u := ⟨u, rfl⟩
      subst hwit712_3
      obtain ⟨hP1, hK1, hD1⟩ := hB
      rw [ht] at hP1
      have hK1 := va_K.moved hvm.symm hK1
      obtain ⟨hP, hD⟩ := va_join (wr := [(o, .inl (kO, 1, .inr (.inl go692_1)))]) (w1 := [(h2, .inr (12, fM w712_3))]) hP hD [0] [1] rfl rfl (by decide) (by decide) hk1 hFc hP1 hD1
      generalize H1 = H at hP hS ⊢
      have hP : va_P (dC, dI) vwCl [(o, .inl (kO, 1, .inr (.inl go692_1))), (h2, .inr (12, fM w712_3))] H := hP
      have hD : va_D A [(o, .inl (kO, 1, .inr (.inl go692_1))), (h2, .inr (12, fM w712_3))] := hD
      obtain ⟨rfl, f712_3_0⟩ := hw
      refine lv_istore (lv' := [(6, .int 0), (5, .int 1), (4, .int 0), (3, .ref o), (2, .ref h2), (1, .ref h1), (0, .ref b)]) hx hb dL_law_715 hl (by decide) rfl (fun ls hl => ?_)
      refine lv_aload_n hx hb dL_law_717 rfl (lv_at hl 4 rfl) ?_
      have hPc := hP.sub (ws' := [(h2, .inr (12, fM w712_3))]) [1] rfl
      have hDc := hD.sub (ws' := [(h2, .inr (12, fM w712_3))]) [1] (by decide) rfl
      have hKc := hK.sub (tys' := []) [] rfl
      have hFc := va_free (wc := [(h2, .inr (12, fM w712_3))]) hD hS hA [1] rfl
      refine va_calli (va_runV (As := []) (rest := []) ⟨hx, hb, hml, hown, hts⟩ (p_X12_thrown l dC dI h2 w712_3 1 (f712_3_0) H.size) (cwV 0 hts glaw9_2 rfl rfl rfl (by decide +kernel) ⟨by decide +kernel, by decide +kernel⟩) ⟨fun a U g mk q => by obtain ⟨q0, q1, qP, qK, qD⟩ := q; exact ⟨q0, q1, qP, va_K.moved (u := U) (U := U.calling g mk a) (Vm.Alike.refl U.vm) qK, qD⟩, va_recv hKc hPc (ci := 12) (q0 := 0) rfl rfl, fun U hU9 hW => ⟨rfl, by rw [hU9], by rw [hU9]; exact hPc, va_K.moved hW.alike hKc, hDc.weaken (fun _ _ _ _ => trivial)⟩⟩ rfl rfl hl.1 rfl (lv_room (Nat.le_of_ble_eq_true rfl)) dL_law_718 ⟨by decide +kernel, by decide +kernel⟩) hS (fun q _ h => hFc q h) hFc (fun r718_3 u t H1 locs ht hvm hw hB hz1 hk1 hS => ?_)
      obtain ⟨hP1, hK1, hD1⟩ := hB
      rw [ht] at hP1
      have hK1 := va_K.moved hvm.symm hK1
      obtain ⟨hP, hD⟩ := va_join (wr := [(o, .inl (kO, 1, .inr (.inl go692_1)))]) (w1 := []) hP hD [1] [0] rfl rfl (by decide) (by decide) hk1 hFc hP1 hD1
      generalize H1 = H at hP hS ⊢
      have hP : va_P (dC, dI) vwCl [(o, .inl (kO, 1, .inr (.inl go692_1)))] H := hP
      have hD : va_D A [(o, .inl (kO, 1, .inr (.inl go692_1)))] := hD
      obtain rfl := hw
      refine lv_iload hx hb dL_law_721 (lv_at hl 1 rfl) ?_
      refine lv_icmp_eq (tgt := 728) hx hb dL_law_723 (by decide) (fun _ => ?_) (fun c9 => absurd (by decide) c9)
      refine lv_iload hx hb dL_law_728 (lv_at hl 1 rfl) ?_
      refine lv_if_ne (tgt := 752) hx hb dL_law_730 (by decide) (fun _ => ?_) (fun c9 => absurd c9 (by decide))
      refine lv_goto (tgt := 2131) hx hb dL_law_752 (by decide) ?_
      refine lv_iinc (v := 6) (lv' := [(4, .int 6), (6, .int 0), (5, .int 1), (3, .ref o), (2, .ref h2), (1, .ref h1), (0, .ref b)]) hx hb dL_law_2131 hl (k := 2) rfl (by decide) (by decide) rfl (fun ls hl => ?_)
      refine lv_goto (tgt := 23) hx hb dL_law_2134 (by decide) ?_
      refine lv_iload hx hb dL_law_23 (lv_at hl 0 rfl) ?_
      refine lv_aload_n hx hb dL_law_25 rfl (lv_at hl 6 rfl) ?_
      refine va_slen hx hb hX hbl hbA hS dL_law_26 ?_
      refine lv_topi (fun y13 hy13 => ?_)
      obtain rfl : 6 = y13 := (hy13.trans (rfl)).symm
      refine lv_bipush (v := 6) hx hb dL_law_27 (by decide) ?_
      refine lv_isub hx hb dL_law_29 ?_
      refine lv_topi (fun y14 hy14 => ?_)
      obtain rfl : 0 = y14 := (hy14.trans (by decide)).symm
      refine lv_icmp_gt (tgt := 2137) hx hb dL_law_30 (by decide) (fun _ => ?_) (fun c9 => absurd (by decide) c9)
      refine lv_iconst (v := 1) hx hb dL_law_2137 (by decide) ?_
      refine W.widen (k := 600002) (n := 7302232) (by decide +kernel) (by decide +kernel) ?_
      refine va_forget (fun q hq => hA2 _ (hS.2.2 q hq)) ?_
      exact lw_ret hx hb hr hlocks dL_law_2138

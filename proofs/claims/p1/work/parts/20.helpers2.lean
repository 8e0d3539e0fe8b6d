def wsFL_value : List Cond := .codeWith yL_value cL_value 4 (some .int) [(0, 9, 12, 32), (0, 9, 15, 19)] :: (.classLink RL 32 "java/lang/IllegalStateException" :: wsV RL 38 RX11 yX11_value wsFX11_value)
theorem gFL_value : GoodIn wsFL_value (wsV RL 38 RX11 yX11_value wsFX11_value) := goodIn_sub (fun _ h => List.mem_cons_of_mem _ (List.mem_cons_of_mem _ h)) (by decide +kernel)
theorem dL_value_0 : decode cL_value 0 = .ok (.aload_n 2, 1) := by decide +kernel
theorem dL_value_1 : decode cL_value 1 = .ok (.iconst 0, 1) := by decide +kernel
theorem dL_value_2 : decode cL_value 2 = .ok (.aload_n 0, 1) := by decide +kernel
theorem dL_value_3 : decode cL_value 3 = .ok (.iload_n 1, 1) := by decide +kernel
theorem dL_value_4 : decode cL_value 4 = .ok (.invokevirtual 38, 3) := by decide +kernel
theorem dL_value_12 : decode cL_value 12 = .ok (.astore_n 3, 1) := by decide +kernel
theorem dL_value_13 : decode cL_value 13 = .ok (.iconst 1, 1) := by decide +kernel
theorem dL_value_14 : decode cL_value 14 = .ok (.ireturn, 1) := by decide +kernel
set_option maxHeartbeats 4000000 in
set_option maxRecDepth 100000 in
/-- on a fresh object: caught -/
theorem x_L_value (l : Launch) (hst : l.stackTraces = false) (dC : Nat → ClassId) (dI : Nat → Nat → Nat) (h0 o : Nat) (a0 a1 a2 a3 : Nat) (sl : Int32) (f5 f7 f8 f9 f10 : Value) (st nv nr ng nd nc : Int32) (g6 g7 g8 g9 : Value) (pr : Int32) (g11 g12 g13 g14 g15 g16 : Value) (qk : Int32) (sz : Nat) : vx_Met l yL_value wsFL_value ({ frames := 8, cells := 1, slots := 6, locals := 124 }) (va_Pc [.ref h0, .int qk, .ref o] (fun U => U.heap.size = sz ∧ va_P (dC, dI) vwCl [(h0, .inr (11, [.ref a0, .ref a1, .ref a2, .ref a3, .int sl, f5, .null, f7, f8, f9, f10])), (a2, .inr (1, [.int st, .int nv, .int nr, .int ng, .int nd, .int nc, g6, g7, g8, g9, .int pr, g11, g12, g13, g14, g15, g16]))] U.heap ∧ va_K (dC, dI) vwCl [] U ∧ va_D (fun _ => True) [(h0, .inr (11, [.ref a0, .ref a1, .ref a2, .ref a3, .int sl, f5, .null, f7, f8, f9, f10])), (a2, .inr (1, [.int st, .int nv, .int nr, .int ng, .int nd, .int nc, g6, g7, g8, g9, .int pr, g11, g12, g13, g14, g15, g16]))] ∧ vx_Zq Bundle.tN "UNASSIGNED_STACK" Bundle.steD (va_A [(h0, .inr (11, [.ref a0, .ref a1, .ref a2, .ref a3, .int sl, f5, .null, f7, f8, f9, f10])), (a2, .inr (1, [.int st, .int nv, .int nr, .int ng, .int nd, .int nc, g6, g7, g8, g9, .int pr, g11, g12, g13, g14, g15, g16]))] sz) U U.heap ∧ vx_Zq Bundle.tN "SUPPRESSED_SENTINEL" Bundle.listD (va_A [(h0, .inr (11, [.ref a0, .ref a1, .ref a2, .ref a3, .int sl, f5, .null, f7, f8, f9, f10])), (a2, .inr (1, [.int st, .int nv, .int nr, .int ng, .int nd, .int nc, g6, g7, g8, g9, .int pr, g11, g12, g13, g14, g15, g16]))] sz) U U.heap ∧ (∀ w ∈ ngX11_161, va_Nw w U))) (va_Qi (fun (r : Int32) (_ : Unit) => r = 1) (fun _ t => va_P (dC, dI) vwCl [(h0, .inr (11, [.ref a0, .ref a1, .ref a2, .ref a3, .int sl, f5, .null, f7, f8, f9, f10])), (a2, .inr (1, [.int st, .int nv, .int nr, .int ng, .int nd, .int nc, g6, g7, g8, g9, .int pr, g11, g12, g13, g14, g15, g16]))] t.heap ∧ va_K (dC, dI) vwCl [] t ∧ va_D (va_A [(h0, .inr (11, [.ref a0, .ref a1, .ref a2, .ref a3, .int sl, f5, .null, f7, f8, f9, f10])), (a2, .inr (1, [.int st, .int nv, .int nr, .int ng, .int nd, .int nc, g6, g7, g8, g9, .int pr, g11, g12, g13, g14, g15, g16]))] sz) [(h0, .inr (11, [.ref a0, .ref a1, .ref a2, .ref a3, .int sl, f5, .null, f7, f8, f9, f10])), (a2, .inr (1, [.int st, .int nv, .int nr, .int ng, .int nd, .int nc, g6, g7, g8, g9, .int pr, g11, g12, g13, g14, g15, g16]))]) (va_A [(h0, .inr (11, [.ref a0, .ref a1, .ref a2, .ref a3, .int sl, f5, .null, f7, f8, f9, f10])), (a2, .inr (1, [.int st, .int nv, .int nr, .int ng, .int nd, .int nc, g6, g7, g8, g9, .int pr, g11, g12, g13, g14, g15, g16]))] sz)) (vx_X (fun n : String => (n = "java/lang/IllegalStateException" ∧ (False))) (fun E n t => E = n ∧ va_P (dC, dI) vwCl [(h0, .inr (11, [.ref a0, .ref a1, .ref a2, .ref a3, .int sl, f5, .null, f7, f8, f9, f10])), (a2, .inr (1, [.int st, .int nv, .int nr, .int ng, .int nd, .int nc, g6, g7, g8, g9, .int pr, g11, g12, g13, g14, g15, g16]))] t.heap ∧ va_K (dC, dI) vwCl [] t ∧ va_D (va_A [(h0, .inr (11, [.ref a0, .ref a1, .ref a2, .ref a3, .int sl, f5, .null, f7, f8, f9, f10])), (a2, .inr (1, [.int st, .int nv, .int nr, .int ng, .int nd, .int nc, g6, g7, g8, g9, .int pr, g11, g12, g13, g14, g15, g16]))] sz) [(h0, .inr (11, [.ref a0, .ref a1, .ref a2, .ref a3, .int sl, f5, .null, f7, f8, f9, f10])), (a2, .inr (1, [.int st, .int nv, .int nr, .int ng, .int nd, .int nc, g6, g7, g8, g9, .int pr, g11, g12, g13, g14, g15, g16]))]) (va_A [(h0, .inr (11, [.ref a0, .ref a1, .ref a2, .ref a3, .int sl, f5, .null, f7, f8, f9, f10])), (a2, .inr (1, [.int st, .int nv, .int nr, .int ng, .int nd, .int nc, g6, g7, g8, g9, .int pr, g11, g12, g13, g14, g15, g16]))] sz)) 1 6 (va_A [(h0, .inr (11, [.ref a0, .ref a1, .ref a2, .ref a3, .int sl, f5, .null, f7, f8, f9, f10])), (a2, .inr (1, [.int st, .int nv, .int nr, .int ng, .int nd, .int nc, g6, g7, g8, g9, .int pr, g11, g12, g13, g14, g15, g16]))] sz) := by
  refine vx_ofWH (hh := [(0, 9, 12, 32), (0, 9, 15, 19)]) (cc := cL_value) (maxL := 4) (ret := (some .int)) (by decide) rfl ?_
  intro p e s m args below meth c s₁ B hml hv
  obtain ⟨rfl, hsz, hP, hK, hD0, hU, hN, hngX11_161⟩ := hv
  have hx := B.exec
  have hb := B.bytes
  have hr := B.returns
  have hts := atoms_spec (ws := wsFL_value) B.pre
  have hown : s.vm.findClass RL = some m.cls := findClass_of_methodNamed B.named
  have hlocks := B.notSynchronized
  have htb : c.exceptionTable.toList = tableOf [(0, 9, 12, 32), (0, 9, 15, 19)] := vx_table (x := yL_value) B (hts _ List.mem_cons_self)
  subst hsz
  have hD := hD0.self (sz := s.heap.size)
  generalize hAe : va_A [(h0, .inr (11, [.ref a0, .ref a1, .ref a2, .ref a3, .int sl, f5, .null, f7, f8, f9, f10])), (a2, .inr (1, [.int st, .int nv, .int nr, .int ng, .int nd, .int nc, g6, g7, g8, g9, .int pr, g11, g12, g13, g14, g15, g16]))] s.heap.size = A at hD hU hN ⊢
  have hA : ∀ q : Nat, s.heap.size ≤ q → A q := fun q h => by rw [← hAe]; exact Or.inr h
  have hS : va_S A s.heap s.heap [] := va_S.rf
  have hP : va_P (dC, dI) vwCl [(h0, .inr (11, [.ref a0, .ref a1, .ref a2, .ref a3, .int sl, f5, .null, f7, f8, f9, f10])), (a2, .inr (1, [.int st, .int nv, .int nr, .int ng, .int nd, .int nc, g6, g7, g8, g9, .int pr, g11, g12, g13, g14, g15, g16]))] s.heap := hP
  have hl := lv_entry ([.ref h0, .int qk, .ref o]) (n := 4) (Nat.le_of_ble_eq_true rfl)
  rw [lg_entry_eq]
  generalize (lg_sl ([.ref h0, .int qk, .ref o]) ++ List.replicate (4 - (lg_sl ([.ref h0, .int qk, .ref o])).length) Slot.unset).toArray = ls at hl ⊢
  have hl : lv_has ls 4 [(0, .ref h0), (1, .int qk), (2, .ref o)] := hl
  refine lv_aload_n hx hb dL_value_0 rfl (lv_at hl 2 rfl) ?_
  refine lv_iconst (v := 0) hx hb dL_value_1 (by decide) ?_
  refine lv_aload_n hx hb dL_value_2 rfl (lv_at hl 0 rfl) ?_
  refine lv_iload_n hx hb dL_value_3 rfl (lv_at hl 1 rfl) ?_
  have hPc := hP.sub (ws' := [(h0, .inr (11, [.ref a0, .ref a1, .ref a2, .ref a3, .int sl, f5, .null, f7, f8, f9, f10])), (a2, .inr (1, [.int st, .int nv, .int nr, .int ng, .int nd, .int nc, g6, g7, g8, g9, .int pr, g11, g12, g13, g14, g15, g16]))]) [0, 1] rfl
  have hDc := hD.sub (ws' := [(h0, .inr (11, [.ref a0, .ref a1, .ref a2, .ref a3, .int sl, f5, .null, f7, f8, f9, f10])), (a2, .inr (1, [.int st, .int nv, .int nr, .int ng, .int nd, .int nc, g6, g7, g8, g9, .int pr, g11, g12, g13, g14, g15, g16]))]) [0, 1] (by decide) rfl
  have hKc := hK.sub (tys' := []) [] rfl
  have hFc := va_free (wc := [(h0, .inr (11, [.ref a0, .ref a1, .ref a2, .ref a3, .int sl, f5, .null, f7, f8, f9, f10])), (a2, .inr (1, [.int st, .int nv, .int nr, .int ng, .int nd, .int nc, g6, g7, g8, g9, .int pr, g11, g12, g13, g14, g15, g16]))]) hD hS hA [0, 1] rfl
  refine vx_calli (vx_runV (As := [.int qk]) (rest := [.int 0, .ref o]) ⟨hx, hb, hml, hown, hts⟩ (x_X11_value l hst dC dI h0 a0 a1 a2 a3 sl f5 f7 f8 f9 f10 st nv nr ng nd nc g6 g7 g8 g9 pr g11 g12 g13 g14 g15 g16 qk s.heap.size) (cwV 1 hts gFL_value rfl rfl rfl (by decide +kernel) ⟨by decide +kernel, by decide +kernel⟩) ⟨fun a U g mk q => by obtain ⟨q0, q1, qP, qK, qD, qU, qN, qngX11_161⟩ := q; exact ⟨q0, q1, qP, va_K.moved (u := U) (U := U.calling g mk a) (Vm.Alike.refl U.vm) qK, qD, vx_Zq.moved (u := U) (U := U.calling g mk a) (Vm.Alike.refl U.vm) qU, vx_Zq.moved (u := U) (U := U.calling g mk a) (Vm.Alike.refl U.vm) qN, fun w h => va_Nw.same (u := U) (U := U.calling g mk a) (ngX11_161_ot w h) rfl (qngX11_161 w h)⟩, va_recv hKc hPc (ci := 11) (q0 := 0) rfl rfl, fun U hU9 hW => ⟨rfl, by rw [hU9], by rw [hU9]; exact hPc, va_K.moved hW.alike hKc, hDc.weaken (fun _ _ _ _ => trivial), by rw [hU9]; exact ((hU.kept (fun a h1 h2 => hS.2.1 a h1 h2)).narrow hFc).moved hW.alike, by rw [hU9]; exact ((hN.kept (fun a h1 h2 => hS.2.1 a h1 h2)).narrow hFc).moved hW.alike, fun w h => cd_warm (ngX11_161_cd w h) hW (hngX11_161 w h)⟩⟩ rfl rfl hl.1 rfl (lv_room (Nat.le_of_ble_eq_true rfl)) dL_value_4 ⟨by decide +kernel, by decide +kernel⟩) hS (fun q _ h => hFc q h) hFc (fun q _ h => hFc q h) (fun E ce q9 u t H1 locs1 ht hvm hw hB hz1 hk1 hS hc1 hc2 hc3 => ?_) (fun r u t H1 locs1 ht hvm hw hB hz1 hk1 hS => hw.elim)
  obtain ⟨hE, hP1, hK1, hD1⟩ := hB
  subst hE
  rw [ht] at hP1
  have hK1 := va_K.moved hvm.symm hK1
  obtain ⟨hP, hD⟩ := va_join (wr := []) (w1 := [(h0, .inr (11, [.ref a0, .ref a1, .ref a2, .ref a3, .int sl, f5, .null, f7, f8, f9, f10])), (a2, .inr (1, [.int st, .int nv, .int nr, .int ng, .int nd, .int nc, g6, g7, g8, g9, .int pr, g11, g12, g13, g14, g15, g16]))]) hP hD [0, 1] [] rfl rfl (by decide) (by decide) hk1 hFc hP1 hD1
  have hP := hP.sub (ws' := [(h0, .inr (11, [.ref a0, .ref a1, .ref a2, .ref a3, .int sl, f5, .null, f7, f8, f9, f10])), (a2, .inr (1, [.int st, .int nv, .int nr, .int ng, .int nd, .int nc, g6, g7, g8, g9, .int pr, g11, g12, g13, g14, g15, g16]))]) [0, 1] rfl
  have hD := hD.sub (ws' := [(h0, .inr (11, [.ref a0, .ref a1, .ref a2, .ref a3, .int sl, f5, .null, f7, f8, f9, f10])), (a2, .inr (1, [.int st, .int nv, .int nr, .int ng, .int nd, .int nc, g6, g7, g8, g9, .int pr, g11, g12, g13, g14, g15, g16]))]) [0, 1] (by decide) rfl
  refine vx_widen (k := 1) (n := 6) (by decide +kernel) (by decide +kernel) ?_
  obtain ⟨rfl, -⟩ := hw
  refine vx_catch (own := RL) (name := "java/lang/IllegalStateException") hown [] ⟨0, 9, 12, 32⟩ [⟨0, 9, 15, 19⟩] (by rw [htb]; rfl) (fun z hz => absurd hz List.not_mem_nil) (by decide) (by decide) (hts (.classLink RL 32 "java/lang/IllegalStateException") (by decide +kernel)) (va_Nw.use rfl (hngX11_161 (.castable "java/lang/IllegalStateException" "java/lang/IllegalStateException") (by decide +kernel))) hc1 hc2 hc3 ?_
  generalize H1 = H at hP hS hc1 ⊢
  refine lv_astore_n (lv' := [(3, .ref q9), (0, .ref h0), (1, .int qk), (2, .ref o)]) hx hb dL_value_12 rfl hl (by decide) rfl (fun ls hl => ?_)
  refine lv_iconst (v := 1) hx hb dL_value_13 (by decide) ?_
  refine vx_ret ?_
  refine W.widen (k := 1) (n := 6) (by decide +kernel) (by decide +kernel) ?_
  exact W.iret (v := 1) hx hb hr (fun t ht hW => ⟨⟨1, (), rfl, rfl, by rw [ht]; exact hP, va_K.moved hW.alike hK, hD⟩, hS.F ht⟩) hS.2.2 dL_value_14
def wsFL_best : List Cond := .codeWith yL_best cL_best 4 (some .int) [(0, 9, 12, 32), (0, 9, 15, 19)] :: (.classLink RL 32 "java/lang/IllegalStateException" :: wsV RL 42 RX11 yX11_best wsFX11_best)
theorem gFL_best : GoodIn wsFL_best (wsV RL 42 RX11 yX11_best wsFX11_best) := goodIn_sub (fun _ h => List.mem_cons_of_mem _ (List.mem_cons_of_mem _ h)) (by decide +kernel)
theorem dL_best_0 : decode cL_best 0 = .ok (.aload_n 2, 1) := by decide +kernel
theorem dL_best_1 : decode cL_best 1 = .ok (.iconst 0, 1) := by decide +kernel
theorem dL_best_2 : decode cL_best 2 = .ok (.aload_n 0, 1) := by decide +kernel
theorem dL_best_3 : decode cL_best 3 = .ok (.iload_n 1, 1) := by decide +kernel
theorem dL_best_4 : decode cL_best 4 = .ok (.invokevirtual 42, 3) := by decide +kernel
theorem dL_best_12 : decode cL_best 12 = .ok (.astore_n 3, 1) := by decide +kernel
theorem dL_best_13 : decode cL_best 13 = .ok (.iconst 1, 1) := by decide +kernel
theorem dL_best_14 : decode cL_best 14 = .ok (.ireturn, 1) := by decide +kernel
set_option maxHeartbeats 4000000 in
set_option maxRecDepth 100000 in
/-- on a fresh object: caught -/
theorem x_L_best (l : Launch) (hst : l.stackTraces = false) (dC : Nat → ClassId) (dI : Nat → Nat → Nat) (h0 o : Nat) (a0 a1 a2 a3 : Nat) (sl : Int32) (f5 f7 f8 f9 f10 : Value) (st nv nr ng nd nc : Int32) (g6 g7 g8 g9 : Value) (pr : Int32) (g11 g12 g13 g14 g15 g16 : Value) (qg : Int32) (sz : Nat) : vx_Met l yL_best wsFL_best ({ frames := 8, cells := 1, slots := 6, locals := 124 }) (va_Pc [.ref h0, .int qg, .ref o] (fun U => U.heap.size = sz ∧ va_P (dC, dI) vwCl [(h0, .inr (11, [.ref a0, .ref a1, .ref a2, .ref a3, .int sl, f5, .null, f7, f8, f9, f10])), (a2, .inr (1, [.int st, .int nv, .int nr, .int ng, .int nd, .int nc, g6, g7, g8, g9, .int pr, g11, g12, g13, g14, g15, g16]))] U.heap ∧ va_K (dC, dI) vwCl [] U ∧ va_D (fun _ => True) [(h0, .inr (11, [.ref a0, .ref a1, .ref a2, .ref a3, .int sl, f5, .null, f7, f8, f9, f10])), (a2, .inr (1, [.int st, .int nv, .int nr, .int ng, .int nd, .int nc, g6, g7, g8, g9, .int pr, g11, g12, g13, g14, g15, g16]))] ∧ vx_Zq Bundle.tN "UNASSIGNED_STACK" Bundle.steD (va_A [(h0, .inr (11, [.ref a0, .ref a1, .ref a2, .ref a3, .int sl, f5, .null, f7, f8, f9, f10])), (a2, .inr (1, [.int st, .int nv, .int nr, .int ng, .int nd, .int nc, g6, g7, g8, g9, .int pr, g11, g12, g13, g14, g15, g16]))] sz) U U.heap ∧ vx_Zq Bundle.tN "SUPPRESSED_SENTINEL" Bundle.listD (va_A [(h0, .inr (11, [.ref a0, .ref a1, .ref a2, .ref a3, .int sl, f5, .null, f7, f8, f9, f10])), (a2, .inr (1, [.int st, .int nv, .int nr, .int ng, .int nd, .int nc, g6, g7, g8, g9, .int pr, g11, g12, g13, g14, g15, g16]))] sz) U U.heap ∧ (∀ w ∈ ngX11_161, va_Nw w U))) (va_Qi (fun (r : Int32) (_ : Unit) => r = 1) (fun _ t => va_P (dC, dI) vwCl [(h0, .inr (11, [.ref a0, .ref a1, .ref a2, .ref a3, .int sl, f5, .null, f7, f8, f9, f10])), (a2, .inr (1, [.int st, .int nv, .int nr, .int ng, .int nd, .int nc, g6, g7, g8, g9, .int pr, g11, g12, g13, g14, g15, g16]))] t.heap ∧ va_K (dC, dI) vwCl [] t ∧ va_D (va_A [(h0, .inr (11, [.ref a0, .ref a1, .ref a2, .ref a3, .int sl, f5, .null, f7, f8, f9, f10])), (a2, .inr (1, [.int st, .int nv, .int nr, .int ng, .int nd, .int nc, g6, g7, g8, g9, .int pr, g11, g12, g13, g14, g15, g16]))] sz) [(h0, .inr (11, [.ref a0, .ref a1, .ref a2, .ref a3, .int sl, f5, .null, f7, f8, f9, f10])), (a2, .inr (1, [.int st, .int nv, .int nr, .int ng, .int nd, .int nc, g6, g7, g8, g9, .int pr, g11, g12, g13, g14, g15, g16]))]) (va_A [(h0, .inr (11, [.ref a0, .ref a1, .ref a2, .ref a3, .int sl, f5, .null, f7, f8, f9, f10])), (a2, .inr (1, [.int st, .int nv, .int nr, .int ng, .int nd, .int nc, g6, g7, g8, g9, .int pr, g11, g12, g13, g14, g15, g16]))] sz)) (vx_X (fun n : String => (n = "java/lang/IllegalStateException" ∧ (False))) (fun E n t => E = n ∧ va_P (dC, dI) vwCl [(h0, .inr (11, [.ref a0, .ref a1, .ref a2, .ref a3, .int sl, f5, .null, f7, f8, f9, f10])), (a2, .inr (1, [.int st, .int nv, .int nr, .int ng, .int nd, .int nc, g6, g7, g8, g9, .int pr, g11, g12, g13, g14, g15, g16]))] t.heap ∧ va_K (dC, dI) vwCl [] t ∧ va_D (va_A [(h0, .inr (11, [.ref a0, .ref a1, .ref a2, .ref a3, .int sl, f5, .null, f7, f8, f9, f10])), (a2, .inr (1, [.int st, .int nv, .int nr, .int ng, .int nd, .int nc, g6, g7, g8, g9, .int pr, g11, g12, g13, g14, g15, g16]))] sz) [(h0, .inr (11, [.ref a0, .ref a1, .ref a2, .ref a3, .int sl, f5, .null, f7, f8, f9, f10])), (a2, .inr (1, [.int st, .int nv, .int nr, .int ng, .int nd, .int nc, g6, g7, g8, g9, .int pr, g11, g12, g13, g14, g15, g16]))]) (va_A [(h0, .inr (11, [.ref a0, .ref a1, .ref a2, .ref a3, .int sl, f5, .null, f7, f8, f9, f10])), (a2, .inr (1, [.int st, .int nv, .int nr, .int ng, .int nd, .int nc, g6, g7, g8, g9, .int pr, g11, g12, g13, g14, g15, g16]))] sz)) 1 6 (va_A [(h0, .inr (11, [.ref a0, .ref a1, .ref a2, .ref a3, .int sl, f5, .null, f7, f8, f9, f10])), (a2, .inr (1, [.int st, .int nv, .int nr, .int ng, .int nd, .int nc, g6, g7, g8, g9, .int pr, g11, g12, g13, g14, g15, g16]))] sz) := by
  refine vx_ofWH (hh := [(0, 9, 12, 32), (0, 9, 15, 19)]) (cc := cL_best) (maxL := 4) (ret := (some .int)) (by decide) rfl ?_
  intro p e s m args below meth c s₁ B hml hv
  obtain ⟨rfl, hsz, hP, hK, hD0, hU, hN, hngX11_161⟩ := hv
  have hx := B.exec
  have hb := B.bytes
  have hr := B.returns
  have hts := atoms_spec (ws := wsFL_best) B.pre
  have hown : s.vm.findClass RL = some m.cls := findClass_of_methodNamed B.named
  have hlocks := B.notSynchronized
  have htb : c.exceptionTable.toList = tableOf [(0, 9, 12, 32), (0, 9, 15, 19)] := vx_table (x := yL_best) B (hts _ List.mem_cons_self)
  subst hsz
  have hD := hD0.self (sz := s.heap.size)
  generalize hAe : va_A [(h0, .inr (11, [.ref a0, .ref a1, .ref a2, .ref a3, .int sl, f5, .null, f7, f8, f9, f10])), (a2, .inr (1, [.int st, .int nv, .int nr, .int ng, .int nd, .int nc, g6, g7, g8, g9, .int pr, g11, g12, g13, g14, g15, g16]))] s.heap.size = A at hD hU hN ⊢
  have hA : ∀ q : Nat, s.heap.size ≤ q → A q := fun q h => by rw [← hAe]; exact Or.inr h
  have hS : va_S A s.heap s.heap [] := va_S.rf
  have hP : va_P (dC, dI) vwCl [(h0, .inr (11, [.ref a0, .ref a1, .ref a2, .ref a3, .int sl, f5, .null, f7, f8, f9, f10])), (a2, .inr (1, [.int st, .int nv, .int nr, .int ng, .int nd, .int nc, g6, g7, g8, g9, .int pr, g11, g12, g13, g14, g15, g16]))] s.heap := hP
  have hl := lv_entry ([.ref h0, .int qg, .ref o]) (n := 4) (Nat.le_of_ble_eq_true rfl)
  rw [lg_entry_eq]
  generalize (lg_sl ([.ref h0, .int qg, .ref o]) ++ List.replicate (4 - (lg_sl ([.ref h0, .int qg, .ref o])).length) Slot.unset).toArray = ls at hl ⊢
  have hl : lv_has ls 4 [(0, .ref h0), (1, .int qg), (2, .ref o)] := hl
  refine lv_aload_n hx hb dL_best_0 rfl (lv_at hl 2 rfl) ?_
  refine lv_iconst (v := 0) hx hb dL_best_1 (by decide) ?_
  refine lv_aload_n hx hb dL_best_2 rfl (lv_at hl 0 rfl) ?_
  refine lv_iload_n hx hb dL_best_3 rfl (lv_at hl 1 rfl) ?_
  have hPc := hP.sub (ws' := [(h0, .inr (11, [.ref a0, .ref a1, .ref a2, .ref a3, .int sl, f5, .null, f7, f8, f9, f10])), (a2, .inr (1, [.int st, .int nv, .int nr, .int ng, .int nd, .int nc, g6, g7, g8, g9, .int pr, g11, g12, g13, g14, g15, g16]))]) [0, 1] rfl
  have hDc := hD.sub (ws' := [(h0, .inr (11, [.ref a0, .ref a1, .ref a2, .ref a3, .int sl, f5, .null, f7, f8, f9, f10])), (a2, .inr (1, [.int st, .int nv, .int nr, .int ng, .int nd, .int nc, g6, g7, g8, g9, .int pr, g11, g12, g13, g14, g15, g16]))]) [0, 1] (by decide) rfl
  have hKc := hK.sub (tys' := []) [] rfl
  have hFc := va_free (wc := [(h0, .inr (11, [.ref a0, .ref a1, .ref a2, .ref a3, .int sl, f5, .null, f7, f8, f9, f10])), (a2, .inr (1, [.int st, .int nv, .int nr, .int ng, .int nd, .int nc, g6, g7, g8, g9, .int pr, g11, g12, g13, g14, g15, g16]))]) hD hS hA [0, 1] rfl
  refine vx_calli (vx_runV (As := [.int qg]) (rest := [.int 0, .ref o]) ⟨hx, hb, hml, hown, hts⟩ (x_X11_best l hst dC dI h0 a0 a1 a2 a3 sl f5 f7 f8 f9 f10 st nv nr ng nd nc g6 g7 g8 g9 pr g11 g12 g13 g14 g15 g16 qg s.heap.size) (cwV 1 hts gFL_best rfl rfl rfl (by decide +kernel) ⟨by decide +kernel, by decide +kernel⟩) ⟨fun a U g mk q => by obtain ⟨q0, q1, qP, qK, qD, qU, qN, qngX11_161⟩ := q; exact ⟨q0, q1, qP, va_K.moved (u := U) (U := U.calling g mk a) (Vm.Alike.refl U.vm) qK, qD, vx_Zq.moved (u := U) (U := U.calling g mk a) (Vm.Alike.refl U.vm) qU, vx_Zq.moved (u := U) (U := U.calling g mk a) (Vm.Alike.refl U.vm) qN, fun w h => va_Nw.same (u := U) (U := U.calling g mk a) (ngX11_161_ot w h) rfl (qngX11_161 w h)⟩, va_recv hKc hPc (ci := 11) (q0 := 0) rfl rfl, fun U hU9 hW => ⟨rfl, by rw [hU9], by rw [hU9]; exact hPc, va_K.moved hW.alike hKc, hDc.weaken (fun _ _ _ _ => trivial), by rw [hU9]; exact ((hU.kept (fun a h1 h2 => hS.2.1 a h1 h2)).narrow hFc).moved hW.alike, by rw [hU9]; exact ((hN.kept (fun a h1 h2 => hS.2.1 a h1 h2)).narrow hFc).moved hW.alike, fun w h => cd_warm (ngX11_161_cd w h) hW (hngX11_161 w h)⟩⟩ rfl rfl hl.1 rfl (lv_room (Nat.le_of_ble_eq_true rfl)) dL_best_4 ⟨by decide +kernel, by decide +kernel⟩) hS (fun q _ h => hFc q h) hFc (fun q _ h => hFc q h) (fun E ce q9 u t H1 locs1 ht hvm hw hB hz1 hk1 hS hc1 hc2 hc3 => ?_) (fun r u t H1 locs1 ht hvm hw hB hz1 hk1 hS => hw.elim)
  obtain ⟨hE, hP1, hK1, hD1⟩ := hB
  subst hE
  rw [ht] at hP1
  have hK1 := va_K.moved hvm.symm hK1
  obtain ⟨hP, hD⟩ := va_join (wr := []) (w1 := [(h0, .inr (11, [.ref a0, .ref a1, .ref a2, .ref a3, .int sl, f5, .null, f7, f8, f9, f10])), (a2, .inr (1, [.int st, .int nv, .int nr, .int ng, .int nd, .int nc, g6, g7, g8, g9, .int pr, g11, g12, g13, g14, g15, g16]))]) hP hD [0, 1] [] rfl rfl (by decide) (by decide) hk1 hFc hP1 hD1
  have hP := hP.sub (ws' := [(h0, .inr (11, [.ref a0, .ref a1, .ref a2, .ref a3, .int sl, f5, .null, f7, f8, f9, f10])), (a2, .inr (1, [.int st, .int nv, .int nr, .int ng, .int nd, .int nc, g6, g7, g8, g9, .int pr, g11, g12, g13, g14, g15, g16]))]) [0, 1] rfl
  have hD := hD.sub (ws' := [(h0, .inr (11, [.ref a0, .ref a1, .ref a2, .ref a3, .int sl, f5, .null, f7, f8, f9, f10])), (a2, .inr (1, [.int st, .int nv, .int nr, .int ng, .int nd, .int nc, g6, g7, g8, g9, .int pr, g11, g12, g13, g14, g15, g16]))]) [0, 1] (by decide) rfl
  refine vx_widen (k := 1) (n := 6) (by decide +kernel) (by decide +kernel) ?_
  obtain ⟨rfl, -⟩ := hw
  refine vx_catch (own := RL) (name := "java/lang/IllegalStateException") hown [] ⟨0, 9, 12, 32⟩ [⟨0, 9, 15, 19⟩] (by rw [htb]; rfl) (fun z hz => absurd hz List.not_mem_nil) (by decide) (by decide) (hts (.classLink RL 32 "java/lang/IllegalStateException") (by decide +kernel)) (va_Nw.use rfl (hngX11_161 (.castable "java/lang/IllegalStateException" "java/lang/IllegalStateException") (by decide +kernel))) hc1 hc2 hc3 ?_
  generalize H1 = H at hP hS hc1 ⊢
  refine lv_astore_n (lv' := [(3, .ref q9), (0, .ref h0), (1, .int qg), (2, .ref o)]) hx hb dL_best_12 rfl hl (by decide) rfl (fun ls hl => ?_)
  refine lv_iconst (v := 1) hx hb dL_best_13 (by decide) ?_
  refine vx_ret ?_
  refine W.widen (k := 1) (n := 6) (by decide +kernel) (by decide +kernel) ?_
  exact W.iret (v := 1) hx hb hr (fun t ht hW => ⟨⟨1, (), rfl, rfl, by rw [ht]; exact hP, va_K.moved hW.alike hK, hD⟩, hS.F ht⟩) hS.2.2 dL_best_14
def wsFL_way : List Cond := .codeWith yL_way cL_way 4 (some .int) [(0, 9, 12, 32), (0, 9, 15, 19)] :: (.classLink RL 32 "java/lang/IllegalStateException" :: wsV RL 45 RX11 yX11_way wsFX11_way)
theorem gFL_way : GoodIn wsFL_way (wsV RL 45 RX11 yX11_way wsFX11_way) := goodIn_sub (fun _ h => List.mem_cons_of_mem _ (List.mem_cons_of_mem _ h)) (by decide +kernel)
theorem dL_way_0 : decode cL_way 0 = .ok (.aload_n 2, 1) := by decide +kernel
theorem dL_way_1 : decode cL_way 1 = .ok (.iconst 0, 1) := by decide +kernel
theorem dL_way_2 : decode cL_way 2 = .ok (.aload_n 0, 1) := by decide +kernel
theorem dL_way_3 : decode cL_way 3 = .ok (.iload_n 1, 1) := by decide +kernel
theorem dL_way_4 : decode cL_way 4 = .ok (.invokevirtual 45, 3) := by decide +kernel
theorem dL_way_12 : decode cL_way 12 = .ok (.astore_n 3, 1) := by decide +kernel
theorem dL_way_13 : decode cL_way 13 = .ok (.iconst 1, 1) := by decide +kernel
theorem dL_way_14 : decode cL_way 14 = .ok (.ireturn, 1) := by decide +kernel
set_option maxHeartbeats 4000000 in
set_option maxRecDepth 100000 in
/-- on a fresh object: caught -/
theorem x_L_way (l : Launch) (hst : l.stackTraces = false) (dC : Nat → ClassId) (dI : Nat → Nat → Nat) (h0 o : Nat) (a0 a1 a2 a3 : Nat) (sl : Int32) (f5 f7 f8 f9 f10 : Value) (st nv nr ng nd nc : Int32) (g6 g7 g8 g9 : Value) (pr : Int32) (g11 g12 g13 g14 g15 g16 : Value) (qr : Int32) (sz : Nat) : vx_Met l yL_way wsFL_way ({ frames := 8, cells := 1, slots := 6, locals := 124 }) (va_Pc [.ref h0, .int qr, .ref o] (fun U => U.heap.size = sz ∧ va_P (dC, dI) vwCl [(h0, .inr (11, [.ref a0, .ref a1, .ref a2, .ref a3, .int sl, f5, .null, f7, f8, f9, f10])), (a2, .inr (1, [.int st, .int nv, .int nr, .int ng, .int nd, .int nc, g6, g7, g8, g9, .int pr, g11, g12, g13, g14, g15, g16]))] U.heap ∧ va_K (dC, dI) vwCl [] U ∧ va_D (fun _ => True) [(h0, .inr (11, [.ref a0, .ref a1, .ref a2, .ref a3, .int sl, f5, .null, f7, f8, f9, f10])), (a2, .inr (1, [.int st, .int nv, .int nr, .int ng, .int nd, .int nc, g6, g7, g8, g9, .int pr, g11, g12, g13, g14, g15, g16]))] ∧ vx_Zq Bundle.tN "UNASSIGNED_STACK" Bundle.steD (va_A [(h0, .inr (11, [.ref a0, .ref a1, .ref a2, .ref a3, .int sl, f5, .null, f7, f8, f9, f10])), (a2, .inr (1, [.int st, .int nv, .int nr, .int ng, .int nd, .int nc, g6, g7, g8, g9, .int pr, g11, g12, g13, g14, g15, g16]))] sz) U U.heap ∧ vx_Zq Bundle.tN "SUPPRESSED_SENTINEL" Bundle.listD (va_A [(h0, .inr (11, [.ref a0, .ref a1, .ref a2, .ref a3, .int sl, f5, .null, f7, f8, f9, f10])), (a2, .inr (1, [.int st, .int nv, .int nr, .int ng, .int nd, .int nc, g6, g7, g8, g9, .int pr, g11, g12, g13, g14, g15, g16]))] sz) U U.heap ∧ (∀ w ∈ ngX11_161, va_Nw w U))) (va_Qi (fun (r : Int32) (_ : Unit) => r = 1) (fun _ t => va_P (dC, dI) vwCl [(h0, .inr (11, [.ref a0, .ref a1, .ref a2, .ref a3, .int sl, f5, .null, f7, f8, f9, f10])), (a2, .inr (1, [.int st, .int nv, .int nr, .int ng, .int nd, .int nc, g6, g7, g8, g9, .int pr, g11, g12, g13, g14, g15, g16]))] t.heap ∧ va_K (dC, dI) vwCl [] t ∧ va_D (va_A [(h0, .inr (11, [.ref a0, .ref a1, .ref a2, .ref a3, .int sl, f5, .null, f7, f8, f9, f10])), (a2, .inr (1, [.int st, .int nv, .int nr, .int ng, .int nd, .int nc, g6, g7, g8, g9, .int pr, g11, g12, g13, g14, g15, g16]))] sz) [(h0, .inr (11, [.ref a0, .ref a1, .ref a2, .ref a3, .int sl, f5, .null, f7, f8, f9, f10])), (a2, .inr (1, [.int st, .int nv, .int nr, .int ng, .int nd, .int nc, g6, g7, g8, g9, .int pr, g11, g12, g13, g14, g15, g16]))]) (va_A [(h0, .inr (11, [.ref a0, .ref a1, .ref a2, .ref a3, .int sl, f5, .null, f7, f8, f9, f10])), (a2, .inr (1, [.int st, .int nv, .int nr, .int ng, .int nd, .int nc, g6, g7, g8, g9, .int pr, g11, g12, g13, g14, g15, g16]))] sz)) (vx_X (fun n : String => (n = "java/lang/IllegalStateException" ∧ (False))) (fun E n t => E = n ∧ va_P (dC, dI) vwCl [(h0, .inr (11, [.ref a0, .ref a1, .ref a2, .ref a3, .int sl, f5, .null, f7, f8, f9, f10])), (a2, .inr (1, [.int st, .int nv, .int nr, .int ng, .int nd, .int nc, g6, g7, g8, g9, .int pr, g11, g12, g13, g14, g15, g16]))] t.heap ∧ va_K (dC, dI) vwCl [] t ∧ va_D (va_A [(h0, .inr (11, [.ref a0, .ref a1, .ref a2, .ref a3, .int sl, f5, .null, f7, f8, f9, f10])), (a2, .inr (1, [.int st, .int nv, .int nr, .int ng, .int nd, .int nc, g6, g7, g8, g9, .int pr, g11, g12, g13, g14, g15, g16]))] sz) [(h0, .inr (11, [.ref a0, .ref a1, .ref a2, .ref a3, .int sl, f5, .null, f7, f8, f9, f10])), (a2, .inr (1, [.int st, .int nv, .int nr, .int ng, .int nd, .int nc, g6, g7, g8, g9, .int pr, g11, g12, g13, g14, g15, g16]))]) (va_A [(h0, .inr (11, [.ref a0, .ref a1, .ref a2, .ref a3, .int sl, f5, .null, f7, f8, f9, f10])), (a2, .inr (1, [.int st, .int nv, .int nr, .int ng, .int nd, .int nc, g6, g7, g8, g9, .int pr, g11, g12, g13, g14, g15, g16]))] sz)) 1 6 (va_A [(h0, .inr (11, [.ref a0, .ref a1, .ref a2, .ref a3, .int sl, f5, .null, f7, f8, f9, f10])), (a2, .inr (1, [.int st, .int nv, .int nr, .int ng, .int nd, .int nc, g6, g7, g8, g9, .int pr, g11, g12, g13, g14, g15, g16]))] sz) := by
  refine vx_ofWH (hh := [(0, 9, 12, 32), (0, 9, 15, 19)]) (cc := cL_way) (maxL := 4) (ret := (some .int)) (by decide) rfl ?_
  intro p e s m args below meth c s₁ B hml hv
  obtain ⟨rfl, hsz, hP, hK, hD0, hU, hN, hngX11_161⟩ := hv
  have hx := B.exec
  have hb := B.bytes
  have hr := B.returns
  have hts := atoms_spec (ws := wsFL_way) B.pre
  have hown : s.vm.findClass RL = some m.cls := findClass_of_methodNamed B.named
  have hlocks := B.notSynchronized
  have htb : c.exceptionTable.toList = tableOf [(0, 9, 12, 32), (0, 9, 15, 19)] := vx_table (x := yL_way) B (hts _ List.mem_cons_self)
  subst hsz
  have hD := hD0.self (sz := s.heap.size)
  generalize hAe : va_A [(h0, .inr (11, [.ref a0, .ref a1, .ref a2, .ref a3, .int sl, f5, .null, f7, f8, f9, f10])), (a2, .inr (1, [.int st, .int nv, .int nr, .int ng, .int nd, .int nc, g6, g7, g8, g9, .int pr, g11, g12, g13, g14, g15, g16]))] s.heap.size = A at hD hU hN ⊢
  have hA : ∀ q : Nat, s.heap.size ≤ q → A q := fun q h => by rw [← hAe]; exact Or.inr h
  have hS : va_S A s.heap s.heap [] := va_S.rf
  have hP : va_P (dC, dI) vwCl [(h0, .inr (11, [.ref a0, .ref a1, .ref a2, .ref a3, .int sl, f5, .null, f7, f8, f9, f10])), (a2, .inr (1, [.int st, .int nv, .int nr, .int ng, .int nd, .int nc, g6, g7, g8, g9, .int pr, g11, g12, g13, g14, g15, g16]))] s.heap := hP
  have hl := lv_entry ([.ref h0, .int qr, .ref o]) (n := 4) (Nat.le_of_ble_eq_true rfl)
  rw [lg_entry_eq]
  generalize (lg_sl ([.ref h0, .int qr, .ref o]) ++ List.replicate (4 - (lg_sl ([.ref h0, .int qr, .ref o])).length) Slot.unset).toArray = ls at hl ⊢
  have hl : lv_has ls 4 [(0, .ref h0), (1, .int qr), (2, .ref o)] := hl
  refine lv_aload_n hx hb dL_way_0 rfl (lv_at hl 2 rfl) ?_
  refine lv_iconst (v := 0) hx hb dL_way_1 (by decide) ?_
  refine lv_aload_n hx hb dL_way_2 rfl (lv_at hl 0 rfl) ?_
  refine lv_iload_n hx hb dL_way_3 rfl (lv_at hl 1 rfl) ?_
  have hPc := hP.sub (ws' := [(h0, .inr (11, [.ref a0, .ref a1, .ref a2, .ref a3, .int sl, f5, .null, f7, f8, f9, f10])), (a2, .inr (1, [.int st, .int nv, .int nr, .int ng, .int nd, .int nc, g6, g7, g8, g9, .int pr, g11, g12, g13, g14, g15, g16]))]) [0, 1] rfl
  have hDc := hD.sub (ws' := [(h0, .inr (11, [.ref a0, .ref a1, .ref a2, .ref a3, .int sl, f5, .null, f7, f8, f9, f10])), (a2, .inr (1, [.int st, .int nv, .int nr, .int ng, .int nd, .int nc, g6, g7, g8, g9, .int pr, g11, g12, g13, g14, g15, g16]))]) [0, 1] (by decide) rfl
  have hKc := hK.sub (tys' := []) [] rfl
  have hFc := va_free (wc := [(h0, .inr (11, [.ref a0, .ref a1, .ref a2, .ref a3, .int sl, f5, .null, f7, f8, f9, f10])), (a2, .inr (1, [.int st, .int nv, .int nr, .int ng, .int nd, .int nc, g6, g7, g8, g9, .int pr, g11, g12, g13, g14, g15, g16]))]) hD hS hA [0, 1] rfl
  refine vx_calli (vx_runV (As := [.int qr]) (rest := [.int 0, .ref o]) ⟨hx, hb, hml, hown, hts⟩ (x_X11_way l hst dC dI h0 a0 a1 a2 a3 sl f5 f7 f8 f9 f10 st nv nr ng nd nc g6 g7 g8 g9 pr g11 g12 g13 g14 g15 g16 qr s.heap.size) (cwV 1 hts gFL_way rfl rfl rfl (by decide +kernel) ⟨by decide +kernel, by decide +kernel⟩) ⟨fun a U g mk q => by obtain ⟨q0, q1, qP, qK, qD, qU, qN, qngX11_161⟩ := q; exact ⟨q0, q1, qP, va_K.moved (u := U) (U := U.calling g mk a) (Vm.Alike.refl U.vm) qK, qD, vx_Zq.moved (u := U) (U := U.calling g mk a) (Vm.Alike.refl U.vm) qU, vx_Zq.moved (u := U) (U := U.calling g mk a) (Vm.Alike.refl U.vm) qN, fun w h => va_Nw.same (u := U) (U := U.calling g mk a) (ngX11_161_ot w h) rfl (qngX11_161 w h)⟩, va_recv hKc hPc (ci := 11) (q0 := 0) rfl rfl, fun U hU9 hW => ⟨rfl, by rw [hU9], by rw [hU9]; exact hPc, va_K.moved hW.alike hKc, hDc.weaken (fun _ _ _ _ => trivial), by rw [hU9]; exact ((hU.kept (fun a h1 h2 => hS.2.1 a h1 h2)).narrow hFc).moved hW.alike, by rw [hU9]; exact ((hN.kept (fun a h1 h2 => hS.2.1 a h1 h2)).narrow hFc).moved hW.alike, fun w h => cd_warm (ngX11_161_cd w h) hW (hngX11_161 w h)⟩⟩ rfl rfl hl.1 rfl (lv_room (Nat.le_of_ble_eq_true rfl)) dL_way_4 ⟨by decide +kernel, by decide +kernel⟩) hS (fun q _ h => hFc q h) hFc (fun q _ h => hFc q h) (fun E ce q9 u t H1 locs1 ht hvm hw hB hz1 hk1 hS hc1 hc2 hc3 => ?_) (fun r u t H1 locs1 ht hvm hw hB hz1 hk1 hS => hw.elim)
  obtain ⟨hE, hP1, hK1, hD1⟩ := hB
  subst hE
  rw [ht] at hP1
  have hK1 := va_K.moved hvm.symm hK1
  obtain ⟨hP, hD⟩ := va_join (wr := []) (w1 := [(h0, .inr (11, [.ref a0, .ref a1, .ref a2, .ref a3, .int sl, f5, .null, f7, f8, f9, f10])), (a2, .inr (1, [.int st, .int nv, .int nr, .int ng, .int nd, .int nc, g6, g7, g8, g9, .int pr, g11, g12, g13, g14, g15, g16]))]) hP hD [0, 1] [] rfl rfl (by decide) (by decide) hk1 hFc hP1 hD1
  have hP := hP.sub (ws' := [(h0, .inr (11, [.ref a0, .ref a1, .ref a2, .ref a3, .int sl, f5, .null, f7, f8, f9, f10])), (a2, .inr (1, [.int st, .int nv, .int nr, .int ng, .int nd, .int nc, g6, g7, g8, g9, .int pr, g11, g12, g13, g14, g15, g16]))]) [0, 1] rfl
  have hD := hD.sub (ws' := [(h0, .inr (11, [.ref a0, .ref a1, .ref a2, .ref a3, .int sl, f5, .null, f7, f8, f9, f10])), (a2, .inr (1, [.int st, .int nv, .int nr, .int ng, .int nd, .int nc, g6, g7, g8, g9, .int pr, g11, g12, g13, g14, g15, g16]))]) [0, 1] (by decide) rfl
  refine vx_widen (k := 1) (n := 6) (by decide +kernel) (by decide +kernel) ?_
  obtain ⟨rfl, -⟩ := hw
  refine vx_catch (own := RL) (name := "java/lang/IllegalStateException") hown [] ⟨0, 9, 12, 32⟩ [⟨0, 9, 15, 19⟩] (by rw [htb]; rfl) (fun z hz => absurd hz List.not_mem_nil) (by decide) (by decide) (hts (.classLink RL 32 "java/lang/IllegalStateException") (by decide +kernel)) (va_Nw.use rfl (hngX11_161 (.castable "java/lang/IllegalStateException" "java/lang/IllegalStateException") (by decide +kernel))) hc1 hc2 hc3 ?_
  generalize H1 = H at hP hS hc1 ⊢
  refine lv_astore_n (lv' := [(3, .ref q9), (0, .ref h0), (1, .int qr), (2, .ref o)]) hx hb dL_way_12 rfl hl (by decide) rfl (fun ls hl => ?_)
  refine lv_iconst (v := 1) hx hb dL_way_13 (by decide) ?_
  refine vx_ret ?_
  refine W.widen (k := 1) (n := 6) (by decide +kernel) (by decide +kernel) ?_
  exact W.iret (v := 1) hx hb hr (fun t ht hW => ⟨⟨1, (), rfl, rfl, by rw [ht]; exact hP, va_K.moved hW.alike hK, hD⟩, hS.F ht⟩) hS.2.2 dL_way_14
def wsFL_row : List Cond := .codeWith yL_row cL_row 6 (some .int) [(0, 12, 15, 19)] :: (.classLink RL 19 "java/lang/IndexOutOfBoundsException" :: wsV RL 21 RX11 yX11_row wsX11_row)
theorem gFL_row : GoodIn wsFL_row (wsV RL 21 RX11 yX11_row wsX11_row) := goodIn_sub (fun _ h => List.mem_cons_of_mem _ (List.mem_cons_of_mem _ h)) (by decide +kernel)
theorem dL_row_0 : decode cL_row 0 = .ok (.aload 4, 2) := by decide +kernel
theorem dL_row_2 : decode cL_row 2 = .ok (.iconst 0, 1) := by decide +kernel
theorem dL_row_3 : decode cL_row 3 = .ok (.aload_n 0, 1) := by decide +kernel
theorem dL_row_4 : decode cL_row 4 = .ok (.iload_n 1, 1) := by decide +kernel
theorem dL_row_5 : decode cL_row 5 = .ok (.iload_n 2, 1) := by decide +kernel
theorem dL_row_6 : decode cL_row 6 = .ok (.iload_n 3, 1) := by decide +kernel
theorem dL_row_7 : decode cL_row 7 = .ok (.invokevirtual 21, 3) := by decide +kernel
theorem dL_row_15 : decode cL_row 15 = .ok (.astore 5, 2) := by decide +kernel
theorem dL_row_17 : decode cL_row 17 = .ok (.iconst 1, 1) := by decide +kernel
theorem dL_row_18 : decode cL_row 18 = .ok (.ireturn, 1) := by decide +kernel
set_option maxHeartbeats 4000000 in
set_option maxRecDepth 100000 in
/-- on a fresh object: caught -/
theorem x_L_row (l : Launch) (hst : l.stackTraces = false) (dC : Nat → ClassId) (dI : Nat → Nat → Nat) (h0 o : Nat) (a0 a1 a2 a3 : Nat) (sl : Int32) (f5 f6 f7 f8 f9 f10 : Value) (st nv ng nd nc : Int32) (g6 g7 g8 g9 : Value) (pr : Int32) (g11 g12 g13 g14 g15 g16 : Value) (qr : Int32) (qw : Int32) (qk : Int32) (sz : Nat) : vx_Met l yL_row wsFL_row ({ frames := 7, cells := 1, slots := 6, locals := 104 }) (va_Pc [.ref h0, .int qr, .int qw, .int qk, .ref o] (fun U => U.heap.size = sz ∧ va_P (dC, dI) vwCl [(h0, .inr (11, [.ref a0, .ref a1, .ref a2, .ref a3, .int sl, f5, f6, f7, f8, f9, f10])), (a2, .inr (1, [.int st, .int nv, .int 0, .int ng, .int nd, .int nc, g6, g7, g8, g9, .int pr, g11, g12, g13, g14, g15, g16]))] U.heap ∧ va_K (dC, dI) vwCl [] U ∧ va_D (fun _ => True) [(h0, .inr (11, [.ref a0, .ref a1, .ref a2, .ref a3, .int sl, f5, f6, f7, f8, f9, f10])), (a2, .inr (1, [.int st, .int nv, .int 0, .int ng, .int nd, .int nc, g6, g7, g8, g9, .int pr, g11, g12, g13, g14, g15, g16]))] ∧ vx_Zq Bundle.tN "UNASSIGNED_STACK" Bundle.steD (va_A [(h0, .inr (11, [.ref a0, .ref a1, .ref a2, .ref a3, .int sl, f5, f6, f7, f8, f9, f10])), (a2, .inr (1, [.int st, .int nv, .int 0, .int ng, .int nd, .int nc, g6, g7, g8, g9, .int pr, g11, g12, g13, g14, g15, g16]))] sz) U U.heap ∧ vx_Zq Bundle.tN "SUPPRESSED_SENTINEL" Bundle.listD (va_A [(h0, .inr (11, [.ref a0, .ref a1, .ref a2, .ref a3, .int sl, f5, f6, f7, f8, f9, f10])), (a2, .inr (1, [.int st, .int nv, .int 0, .int ng, .int nd, .int nc, g6, g7, g8, g9, .int pr, g11, g12, g13, g14, g15, g16]))] sz) U U.heap ∧ (∀ w ∈ ngX11_95, va_Nw w U))) (va_Qi (fun (r : Int32) (_ : Unit) => r = 1) (fun _ t => va_P (dC, dI) vwCl [(h0, .inr (11, [.ref a0, .ref a1, .ref a2, .ref a3, .int sl, f5, f6, f7, f8, f9, f10])), (a2, .inr (1, [.int st, .int nv, .int 0, .int ng, .int nd, .int nc, g6, g7, g8, g9, .int pr, g11, g12, g13, g14, g15, g16]))] t.heap ∧ va_K (dC, dI) vwCl [] t ∧ va_D (va_A [(h0, .inr (11, [.ref a0, .ref a1, .ref a2, .ref a3, .int sl, f5, f6, f7, f8, f9, f10])), (a2, .inr (1, [.int st, .int nv, .int 0, .int ng, .int nd, .int nc, g6, g7, g8, g9, .int pr, g11, g12, g13, g14, g15, g16]))] sz) [(h0, .inr (11, [.ref a0, .ref a1, .ref a2, .ref a3, .int sl, f5, f6, f7, f8, f9, f10])), (a2, .inr (1, [.int st, .int nv, .int 0, .int ng, .int nd, .int nc, g6, g7, g8, g9, .int pr, g11, g12, g13, g14, g15, g16]))]) (va_A [(h0, .inr (11, [.ref a0, .ref a1, .ref a2, .ref a3, .int sl, f5, f6, f7, f8, f9, f10])), (a2, .inr (1, [.int st, .int nv, .int 0, .int ng, .int nd, .int nc, g6, g7, g8, g9, .int pr, g11, g12, g13, g14, g15, g16]))] sz)) (vx_X (fun n : String => (n = "java/lang/IndexOutOfBoundsException" ∧ (False))) (fun E n t => E = n ∧ va_P (dC, dI) vwCl [(h0, .inr (11, [.ref a0, .ref a1, .ref a2, .ref a3, .int sl, f5, f6, f7, f8, f9, f10])), (a2, .inr (1, [.int st, .int nv, .int 0, .int ng, .int nd, .int nc, g6, g7, g8, g9, .int pr, g11, g12, g13, g14, g15, g16]))] t.heap ∧ va_K (dC, dI) vwCl [] t ∧ va_D (va_A [(h0, .inr (11, [.ref a0, .ref a1, .ref a2, .ref a3, .int sl, f5, f6, f7, f8, f9, f10])), (a2, .inr (1, [.int st, .int nv, .int 0, .int ng, .int nd, .int nc, g6, g7, g8, g9, .int pr, g11, g12, g13, g14, g15, g16]))] sz) [(h0, .inr (11, [.ref a0, .ref a1, .ref a2, .ref a3, .int sl, f5, f6, f7, f8, f9, f10])), (a2, .inr (1, [.int st, .int nv, .int 0, .int ng, .int nd, .int nc, g6, g7, g8, g9, .int pr, g11, g12, g13, g14, g15, g16]))]) (va_A [(h0, .inr (11, [.ref a0, .ref a1, .ref a2, .ref a3, .int sl, f5, f6, f7, f8, f9, f10])), (a2, .inr (1, [.int st, .int nv, .int 0, .int ng, .int nd, .int nc, g6, g7, g8, g9, .int pr, g11, g12, g13, g14, g15, g16]))] sz)) 1 6 (va_A [(h0, .inr (11, [.ref a0, .ref a1, .ref a2, .ref a3, .int sl, f5, f6, f7, f8, f9, f10])), (a2, .inr (1, [.int st, .int nv, .int 0, .int ng, .int nd, .int nc, g6, g7, g8, g9, .int pr, g11, g12, g13, g14, g15, g16]))] sz) := by
  refine vx_ofWH (hh := [(0, 12, 15, 19)]) (cc := cL_row) (maxL := 6) (ret := (some .int)) (by decide) rfl ?_
  intro p e s m args below meth c s₁ B hml hv
  obtain ⟨rfl, hsz, hP, hK, hD0, hU, hN, hngX11_95⟩ := hv
  have hx := B.exec
  have hb := B.bytes
  have hr := B.returns
  have hts := atoms_spec (ws := wsFL_row) B.pre
  have hown : s.vm.findClass RL = some m.cls := findClass_of_methodNamed B.named
  have hlocks := B.notSynchronized
  have htb : c.exceptionTable.toList = tableOf [(0, 12, 15, 19)] := vx_table (x := yL_row) B (hts _ List.mem_cons_self)
  subst hsz
  have hD := hD0.self (sz := s.heap.size)
  generalize hAe : va_A [(h0, .inr (11, [.ref a0, .ref a1, .ref a2, .ref a3, .int sl, f5, f6, f7, f8, f9, f10])), (a2, .inr (1, [.int st, .int nv, .int 0, .int ng, .int nd, .int nc, g6, g7, g8, g9, .int pr, g11, g12, g13, g14, g15, g16]))] s.heap.size = A at hD hU hN ⊢
  have hA : ∀ q : Nat, s.heap.size ≤ q → A q := fun q h => by rw [← hAe]; exact Or.inr h
  have hS : va_S A s.heap s.heap [] := va_S.rf
  have hP : va_P (dC, dI) vwCl [(h0, .inr (11, [.ref a0, .ref a1, .ref a2, .ref a3, .int sl, f5, f6, f7, f8, f9, f10])), (a2, .inr (1, [.int st, .int nv, .int 0, .int ng, .int nd, .int nc, g6, g7, g8, g9, .int pr, g11, g12, g13, g14, g15, g16]))] s.heap := hP
  have hl := lv_entry ([.ref h0, .int qr, .int qw, .int qk, .ref o]) (n := 6) (Nat.le_of_ble_eq_true rfl)
  rw [lg_entry_eq]
  generalize (lg_sl ([.ref h0, .int qr, .int qw, .int qk, .ref o]) ++ List.replicate (6 - (lg_sl ([.ref h0, .int qr, .int qw, .int qk, .ref o])).length) Slot.unset).toArray = ls at hl ⊢
  have hl : lv_has ls 6 [(0, .ref h0), (1, .int qr), (2, .int qw), (3, .int qk), (4, .ref o)] := hl
  refine lv_aload hx hb dL_row_0 (lv_at hl 4 rfl) ?_
  refine lv_iconst (v := 0) hx hb dL_row_2 (by decide) ?_
  refine lv_aload_n hx hb dL_row_3 rfl (lv_at hl 0 rfl) ?_
  refine lv_iload_n hx hb dL_row_4 rfl (lv_at hl 1 rfl) ?_
  refine lv_iload_n hx hb dL_row_5 rfl (lv_at hl 2 rfl) ?_
  refine lv_iload_n hx hb dL_row_6 rfl (lv_at hl 3 rfl) ?_
  have hPc := hP.sub (ws' := [(h0, .inr (11, [.ref a0, .ref a1, .ref a2, .ref a3, .int sl, f5, f6, f7, f8, f9, f10])), (a2, .inr (1, [.int st, .int nv, .int 0, .int ng, .int nd, .int nc, g6, g7, g8, g9, .int pr, g11, g12, g13, g14, g15, g16]))]) [0, 1] rfl
  have hDc := hD.sub (ws' := [(h0, .inr (11, [.ref a0, .ref a1, .ref a2, .ref a3, .int sl, f5, f6, f7, f8, f9, f10])), (a2, .inr (1, [.int st, .int nv, .int 0, .int ng, .int nd, .int nc, g6, g7, g8, g9, .int pr, g11, g12, g13, g14, g15, g16]))]) [0, 1] (by decide) rfl
  have hKc := hK.sub (tys' := []) [] rfl
  have hFc := va_free (wc := [(h0, .inr (11, [.ref a0, .ref a1, .ref a2, .ref a3, .int sl, f5, f6, f7, f8, f9, f10])), (a2, .inr (1, [.int st, .int nv, .int 0, .int ng, .int nd, .int nc, g6, g7, g8, g9, .int pr, g11, g12, g13, g14, g15, g16]))]) hD hS hA [0, 1] rfl
  refine vx_calli (vx_runV (As := [.int qr, .int qw, .int qk]) (rest := [.int 0, .ref o]) ⟨hx, hb, hml, hown, hts⟩ (x_X11_row l hst dC dI h0 a0 a1 a2 a3 sl f5 f6 f7 f8 f9 f10 st nv ng nd nc g6 g7 g8 g9 pr g11 g12 g13 g14 g15 g16 qr qw qk s.heap.size) (cwV 3 hts gFL_row rfl rfl rfl (by decide +kernel) ⟨by decide +kernel, by decide +kernel⟩) ⟨fun a U g mk q => by obtain ⟨q0, q1, qP, qK, qD, qU, qN, qngX11_95⟩ := q; exact ⟨q0, q1, qP, va_K.moved (u := U) (U := U.calling g mk a) (Vm.Alike.refl U.vm) qK, qD, vx_Zq.moved (u := U) (U := U.calling g mk a) (Vm.Alike.refl U.vm) qU, vx_Zq.moved (u := U) (U := U.calling g mk a) (Vm.Alike.refl U.vm) qN, fun w h => va_Nw.same (u := U) (U := U.calling g mk a) (ngX11_95_ot w h) rfl (qngX11_95 w h)⟩, va_recv hKc hPc (ci := 11) (q0 := 0) rfl rfl, fun U hU9 hW => ⟨rfl, by rw [hU9], by rw [hU9]; exact hPc, va_K.moved hW.alike hKc, hDc.weaken (fun _ _ _ _ => trivial), by rw [hU9]; exact ((hU.kept (fun a h1 h2 => hS.2.1 a h1 h2)).narrow hFc).moved hW.alike, by rw [hU9]; exact ((hN.kept (fun a h1 h2 => hS.2.1 a h1 h2)).narrow hFc).moved hW.alike, fun w h => cd_warm (ngX11_95_cd w h) hW (hngX11_95 w h)⟩⟩ rfl rfl hl.1 rfl (lv_room (Nat.le_of_ble_eq_true rfl)) dL_row_7 ⟨by decide +kernel, by decide +kernel⟩) hS (fun q _ h => hFc q h) hFc (fun q _ h => hFc q h) (fun E ce q9 u t H1 locs1 ht hvm hw hB hz1 hk1 hS hc1 hc2 hc3 => ?_) (fun r u t H1 locs1 ht hvm hw hB hz1 hk1 hS => hw.elim)
  obtain ⟨hE, hP1, hK1, hD1⟩ := hB
  subst hE
  rw [ht] at hP1
  have hK1 := va_K.moved hvm.symm hK1
  obtain ⟨hP, hD⟩ := va_join (wr := []) (w1 := [(h0, .inr (11, [.ref a0, .ref a1, .ref a2, .ref a3, .int sl, f5, f6, f7, f8, f9, f10])), (a2, .inr (1, [.int st, .int nv, .int 0, .int ng, .int nd, .int nc, g6, g7, g8, g9, .int pr, g11, g12, g13, g14, g15, g16]))]) hP hD [0, 1] [] rfl rfl (by decide) (by decide) hk1 hFc hP1 hD1
  have hP := hP.sub (ws' := [(h0, .inr (11, [.ref a0, .ref a1, .ref a2, .ref a3, .int sl, f5, f6, f7, f8, f9, f10])), (a2, .inr (1, [.int st, .int nv, .int 0, .int ng, .int nd, .int nc, g6, g7, g8, g9, .int pr, g11, g12, g13, g14, g15, g16]))]) [0, 1] rfl
  have hD := hD.sub (ws' := [(h0, .inr (11, [.ref a0, .ref a1, .ref a2, .ref a3, .int sl, f5, f6, f7, f8, f9, f10])), (a2, .inr (1, [.int st, .int nv, .int 0, .int ng, .int nd, .int nc, g6, g7, g8, g9, .int pr, g11, g12, g13, g14, g15, g16]))]) [0, 1] (by decide) rfl
  refine vx_widen (k := 1) (n := 6) (by decide +kernel) (by decide +kernel) ?_
  obtain ⟨rfl, -⟩ := hw
  refine vx_catch (own := RL) (name := "java/lang/IndexOutOfBoundsException") hown [] ⟨0, 12, 15, 19⟩ [] (by rw [htb]; rfl) (fun z hz => absurd hz List.not_mem_nil) (by decide) (by decide) (hts (.classLink RL 19 "java/lang/IndexOutOfBoundsException") (by decide +kernel)) (va_Nw.use rfl (hngX11_95 (.castable "java/lang/IndexOutOfBoundsException" "java/lang/IndexOutOfBoundsException") (by decide +kernel))) hc1 hc2 hc3 ?_
  generalize H1 = H at hP hS hc1 ⊢
  refine lv_astore (lv' := [(5, .ref q9), (0, .ref h0), (1, .int qr), (2, .int qw), (3, .int qk), (4, .ref o)]) hx hb dL_row_15 hl (by decide) rfl (fun ls hl => ?_)
  refine lv_iconst (v := 1) hx hb dL_row_17 (by decide) ?_
  refine vx_ret ?_
  refine W.widen (k := 1) (n := 6) (by decide +kernel) (by decide +kernel) ?_
  exact W.iret (v := 1) hx hb hr (fun t ht hW => ⟨⟨1, (), rfl, rfl, by rw [ht]; exact hP, va_K.moved hW.alike hK, hD⟩, hS.F ht⟩) hS.2.2 dL_row_18
def wsFL_goal : List Cond := .codeWith yL_goal cL_goal 6 (some .int) [(0, 12, 15, 19)] :: (.classLink RL 19 "java/lang/IndexOutOfBoundsException" :: wsV RL 25 RX11 yX11_goal wsX11_goal)
theorem gFL_goal : GoodIn wsFL_goal (wsV RL 25 RX11 yX11_goal wsX11_goal) := goodIn_sub (fun _ h => List.mem_cons_of_mem _ (List.mem_cons_of_mem _ h)) (by decide +kernel)
theorem dL_goal_0 : decode cL_goal 0 = .ok (.aload 4, 2) := by decide +kernel
theorem dL_goal_2 : decode cL_goal 2 = .ok (.iconst 0, 1) := by decide +kernel
theorem dL_goal_3 : decode cL_goal 3 = .ok (.aload_n 0, 1) := by decide +kernel
theorem dL_goal_4 : decode cL_goal 4 = .ok (.iload_n 1, 1) := by decide +kernel
theorem dL_goal_5 : decode cL_goal 5 = .ok (.iload_n 2, 1) := by decide +kernel
theorem dL_goal_6 : decode cL_goal 6 = .ok (.iload_n 3, 1) := by decide +kernel
theorem dL_goal_7 : decode cL_goal 7 = .ok (.invokevirtual 25, 3) := by decide +kernel
theorem dL_goal_15 : decode cL_goal 15 = .ok (.astore 5, 2) := by decide +kernel
theorem dL_goal_17 : decode cL_goal 17 = .ok (.iconst 1, 1) := by decide +kernel
theorem dL_goal_18 : decode cL_goal 18 = .ok (.ireturn, 1) := by decide +kernel
set_option maxHeartbeats 4000000 in
set_option maxRecDepth 100000 in
/-- on a fresh object: caught -/
theorem x_L_goal (l : Launch) (hst : l.stackTraces = false) (dC : Nat → ClassId) (dI : Nat → Nat → Nat) (h0 o : Nat) (a0 a1 a2 a3 : Nat) (sl : Int32) (f5 f6 f7 f8 f9 f10 : Value) (st nv nr nd nc : Int32) (g6 g7 g8 g9 : Value) (pr : Int32) (g11 g12 g13 g14 g15 g16 : Value) (qg : Int32) (qk : Int32) (qu : Int32) (sz : Nat) : vx_Met l yL_goal wsFL_goal ({ frames := 7, cells := 1, slots := 6, locals := 105 }) (va_Pc [.ref h0, .int qg, .int qk, .int qu, .ref o] (fun U => U.heap.size = sz ∧ va_P (dC, dI) vwCl [(h0, .inr (11, [.ref a0, .ref a1, .ref a2, .ref a3, .int sl, f5, f6, f7, f8, f9, f10])), (a2, .inr (1, [.int st, .int nv, .int nr, .int 0, .int nd, .int nc, g6, g7, g8, g9, .int pr, g11, g12, g13, g14, g15, g16]))] U.heap ∧ va_K (dC, dI) vwCl [] U ∧ va_D (fun _ => True) [(h0, .inr (11, [.ref a0, .ref a1, .ref a2, .ref a3, .int sl, f5, f6, f7, f8, f9, f10])), (a2, .inr (1, [.int st, .int nv, .int nr, .int 0, .int nd, .int nc, g6, g7, g8, g9, .int pr, g11, g12, g13, g14, g15, g16]))] ∧ vx_Zq Bundle.tN "UNASSIGNED_STACK" Bundle.steD (va_A [(h0, .inr (11, [.ref a0, .ref a1, .ref a2, .ref a3, .int sl, f5, f6, f7, f8, f9, f10])), (a2, .inr (1, [.int st, .int nv, .int nr, .int 0, .int nd, .int nc, g6, g7, g8, g9, .int pr, g11, g12, g13, g14, g15, g16]))] sz) U U.heap ∧ vx_Zq Bundle.tN "SUPPRESSED_SENTINEL" Bundle.listD (va_A [(h0, .inr (11, [.ref a0, .ref a1, .ref a2, .ref a3, .int sl, f5, f6, f7, f8, f9, f10])), (a2, .inr (1, [.int st, .int nv, .int nr, .int 0, .int nd, .int nc, g6, g7, g8, g9, .int pr, g11, g12, g13, g14, g15, g16]))] sz) U U.heap ∧ (∀ w ∈ ngX11_95, va_Nw w U))) (va_Qi (fun (r : Int32) (_ : Unit) => r = 1) (fun _ t => va_P (dC, dI) vwCl [(h0, .inr (11, [.ref a0, .ref a1, .ref a2, .ref a3, .int sl, f5, f6, f7, f8, f9, f10])), (a2, .inr (1, [.int st, .int nv, .int nr, .int 0, .int nd, .int nc, g6, g7, g8, g9, .int pr, g11, g12, g13, g14, g15, g16]))] t.heap ∧ va_K (dC, dI) vwCl [] t ∧ va_D (va_A [(h0, .inr (11, [.ref a0, .ref a1, .ref a2, .ref a3, .int sl, f5, f6, f7, f8, f9, f10])), (a2, .inr (1, [.int st, .int nv, .int nr, .int 0, .int nd, .int nc, g6, g7, g8, g9, .int pr, g11, g12, g13, g14, g15, g16]))] sz) [(h0, .inr (11, [.ref a0, .ref a1, .ref a2, .ref a3, .int sl, f5, f6, f7, f8, f9, f10])), (a2, .inr (1, [.int st, .int nv, .int nr, .int 0, .int nd, .int nc, g6, g7, g8, g9, .int pr, g11, g12, g13, g14, g15, g16]))]) (va_A [(h0, .inr (11, [.ref a0, .ref a1, .ref a2, .ref a3, .int sl, f5, f6, f7, f8, f9, f10])), (a2, .inr (1, [.int st, .int nv, .int nr, .int 0, .int nd, .int nc, g6, g7, g8, g9, .int pr, g11, g12, g13, g14, g15, g16]))] sz)) (vx_X (fun n : String => (n = "java/lang/IndexOutOfBoundsException" ∧ (False))) (fun E n t => E = n ∧ va_P (dC, dI) vwCl [(h0, .inr (11, [.ref a0, .ref a1, .ref a2, .ref a3, .int sl, f5, f6, f7, f8, f9, f10])), (a2, .inr (1, [.int st, .int nv, .int nr, .int 0, .int nd, .int nc, g6, g7, g8, g9, .int pr, g11, g12, g13, g14, g15, g16]))] t.heap ∧ va_K (dC, dI) vwCl [] t ∧ va_D (va_A [(h0, .inr (11, [.ref a0, .ref a1, .ref a2, .ref a3, .int sl, f5, f6, f7, f8, f9, f10])), (a2, .inr (1, [.int st, .int nv, .int nr, .int 0, .int nd, .int nc, g6, g7, g8, g9, .int pr, g11, g12, g13, g14, g15, g16]))] sz) [(h0, .inr (11, [.ref a0, .ref a1, .ref a2, .ref a3, .int sl, f5, f6, f7, f8, f9, f10])), (a2, .inr (1, [.int st, .int nv, .int nr, .int 0, .int nd, .int nc, g6, g7, g8, g9, .int pr, g11, g12, g13, g14, g15, g16]))]) (va_A [(h0, .inr (11, [.ref a0, .ref a1, .ref a2, .ref a3, .int sl, f5, f6, f7, f8, f9, f10])), (a2, .inr (1, [.int st, .int nv, .int nr, .int 0, .int nd, .int nc, g6, g7, g8, g9, .int pr, g11, g12, g13, g14, g15, g16]))] sz)) 1 6 (va_A [(h0, .inr (11, [.ref a0, .ref a1, .ref a2, .ref a3, .int sl, f5, f6, f7, f8, f9, f10])), (a2, .inr (1, [.int st, .int nv, .int nr, .int 0, .int nd, .int nc, g6, g7, g8, g9, .int pr, g11, g12, g13, g14, g15, g16]))] sz) := by
  refine vx_ofWH (hh := [(0, 12, 15, 19)]) (cc := cL_goal) (maxL := 6) (ret := (some .int)) (by decide) rfl ?_
  intro p e s m args below meth c s₁ B hml hv
  obtain ⟨rfl, hsz, hP, hK, hD0, hU, hN, hngX11_95⟩ := hv
  have hx := B.exec
  have hb := B.bytes
  have hr := B.returns
  have hts := atoms_spec (ws := wsFL_goal) B.pre
  have hown : s.vm.findClass RL = some m.cls := findClass_of_methodNamed B.named
  have hlocks := B.notSynchronized
  have htb : c.exceptionTable.toList = tableOf [(0, 12, 15, 19)] := vx_table (x := yL_goal) B (hts _ List.mem_cons_self)
  subst hsz
  have hD := hD0.self (sz := s.heap.size)
  generalize hAe : va_A [(h0, .inr (11, [.ref a0, .ref a1, .ref a2, .ref a3, .int sl, f5, f6, f7, f8, f9, f10])), (a2, .inr (1, [.int st, .int nv, .int nr, .int 0, .int nd, .int nc, g6, g7, g8, g9, .int pr, g11, g12, g13, g14, g15, g16]))] s.heap.size = A at hD hU hN ⊢
  have hA : ∀ q : Nat, s.heap.size ≤ q → A q := fun q h => by rw [← hAe]; exact Or.inr h
  have hS : va_S A s.heap s.heap [] := va_S.rf
  have hP : va_P (dC, dI) vwCl [(h0, .inr (11, [.ref a0, .ref a1, .ref a2, .ref a3, .int sl, f5, f6, f7, f8, f9, f10])), (a2, .inr (1, [.int st, .int nv, .int nr, .int 0, .int nd, .int nc, g6, g7, g8, g9, .int pr, g11, g12, g13, g14, g15, g16]))] s.heap := hP
  have hl := lv_entry ([.ref h0, .int qg, .int qk, .int qu, .ref o]) (n := 6) (Nat.le_of_ble_eq_true rfl)
  rw [lg_entry_eq]
  generalize (lg_sl ([.ref h0, .int qg, .int qk, .int qu, .ref o]) ++ List.replicate (6 - (lg_sl ([.ref h0, .int qg, .int qk, .int qu, .ref o])).length) Slot.unset).toArray = ls at hl ⊢
  have hl : lv_has ls 6 [(0, .ref h0), (1, .int qg), (2, .int qk), (3, .int qu), (4, .ref o)] := hl
  refine lv_aload hx hb dL_goal_0 (lv_at hl 4 rfl) ?_
  refine lv_iconst (v := 0) hx hb dL_goal_2 (by decide) ?_
  refine lv_aload_n hx hb dL_goal_3 rfl (lv_at hl 0 rfl) ?_
  refine lv_iload_n hx hb dL_goal_4 rfl (lv_at hl 1 rfl) ?_
  refine lv_iload_n hx hb dL_goal_5 rfl (lv_at hl 2 rfl) ?_
  refine lv_iload_n hx hb dL_goal_6 rfl (lv_at hl 3 rfl) ?_
  have hPc := hP.sub (ws' := [(h0, .inr (11, [.ref a0, .ref a1, .ref a2, .ref a3, .int sl, f5, f6, f7, f8, f9, f10])), (a2, .inr (1, [.int st, .int nv, .int nr, .int 0, .int nd, .int nc, g6, g7, g8, g9, .int pr, g11, g12, g13, g14, g15, g16]))]) [0, 1] rfl
  have hDc := hD.sub (ws' := [(h0, .inr (11, [.ref a0, .ref a1, .ref a2, .ref a3, .int sl, f5, f6, f7, f8, f9, f10])), (a2, .inr (1, [.int st, .int nv, .int nr, .int 0, .int nd, .int nc, g6, g7, g8, g9, .int pr, g11, g12, g13, g14, g15, g16]))]) [0, 1] (by decide) rfl
  have hKc := hK.sub (tys' := []) [] rfl
  have hFc := va_free (wc := [(h0, .inr (11, [.ref a0, .ref a1, .ref a2, .ref a3, .int sl, f5, f6, f7, f8, f9, f10])), (a2, .inr (1, [.int st, .int nv, .int nr, .int 0, .int nd, .int nc, g6, g7, g8, g9, .int pr, g11, g12, g13, g14, g15, g16]))]) hD hS hA [0, 1] rfl
  refine vx_calli (vx_runV (As := [.int qg, .int qk, .int qu]) (rest := [.int 0, .ref o]) ⟨hx, hb, hml, hown, hts⟩ (x_X11_goal l hst dC dI h0 a0 a1 a2 a3 sl f5 f6 f7 f8 f9 f10 st nv nr nd nc g6 g7 g8 g9 pr g11 g12 g13 g14 g15 g16 qg qk qu s.heap.size) (cwV 3 hts gFL_goal rfl rfl rfl (by decide +kernel) ⟨by decide +kernel, by decide +kernel⟩) ⟨fun a U g mk q => by obtain ⟨q0, q1, qP, qK, qD, qU, qN, qngX11_95⟩ := q; exact ⟨q0, q1, qP, va_K.moved (u := U) (U := U.calling g mk a) (Vm.Alike.refl U.vm) qK, qD, vx_Zq.moved (u := U) (U := U.calling g mk a) (Vm.Alike.refl U.vm) qU, vx_Zq.moved (u := U) (U := U.calling g mk a) (Vm.Alike.refl U.vm) qN, fun w h => va_Nw.same (u := U) (U := U.calling g mk a) (ngX11_95_ot w h) rfl (qngX11_95 w h)⟩, va_recv hKc hPc (ci := 11) (q0 := 0) rfl rfl, fun U hU9 hW => ⟨rfl, by rw [hU9], by rw [hU9]; exact hPc, va_K.moved hW.alike hKc, hDc.weaken (fun _ _ _ _ => trivial), by rw [hU9]; exact ((hU.kept (fun a h1 h2 => hS.2.1 a h1 h2)).narrow hFc).moved hW.alike, by rw [hU9]; exact ((hN.kept (fun a h1 h2 => hS.2.1 a h1 h2)).narrow hFc).moved hW.alike, fun w h => cd_warm (ngX11_95_cd w h) hW (hngX11_95 w h)⟩⟩ rfl rfl hl.1 rfl (lv_room (Nat.le_of_ble_eq_true rfl)) dL_goal_7 ⟨by decide +kernel, by decide +kernel⟩) hS (fun q _ h => hFc q h) hFc (fun q _ h => hFc q h) (fun E ce q9 u t H1 locs1 ht hvm hw hB hz1 hk1 hS hc1 hc2 hc3 => ?_) (fun r u t H1 locs1 ht hvm hw hB hz1 hk1 hS => hw.elim)
  obtain ⟨hE, hP1, hK1, hD1⟩ := hB
  subst hE
  rw [ht] at hP1
  have hK1 := va_K.moved hvm.symm hK1
  obtain ⟨hP, hD⟩ := va_join (wr := []) (w1 := [(h0, .inr (11, [.ref a0, .ref a1, .ref a2, .ref a3, .int sl, f5, f6, f7, f8, f9, f10])), (a2, .inr (1, [.int st, .int nv, .int nr, .int 0, .int nd, .int nc, g6, g7, g8, g9, .int pr, g11, g12, g13, g14, g15, g16]))]) hP hD [0, 1] [] rfl rfl (by decide) (by decide) hk1 hFc hP1 hD1
  have hP := hP.sub (ws' := [(h0, .inr (11, [.ref a0, .ref a1, .ref a2, .ref a3, .int sl, f5, f6, f7, f8, f9, f10])), (a2, .inr (1, [.int st, .int nv, .int nr, .int 0, .int nd, .int nc, g6, g7, g8, g9, .int pr, g11, g12, g13, g14, g15, g16]))]) [0, 1] rfl
  have hD := hD.sub (ws' := [(h0, .inr (11, [.ref a0, .ref a1, .ref a2, .ref a3, .int sl, f5, f6, f7, f8, f9, f10])), (a2, .inr (1, [.int st, .int nv, .int nr, .int 0, .int nd, .int nc, g6, g7, g8, g9, .int pr, g11, g12, g13, g14, g15, g16]))]) [0, 1] (by decide) rfl
  refine vx_widen (k := 1) (n := 6) (by decide +kernel) (by decide +kernel) ?_
  obtain ⟨rfl, -⟩ := hw
  refine vx_catch (own := RL) (name := "java/lang/IndexOutOfBoundsException") hown [] ⟨0, 12, 15, 19⟩ [] (by rw [htb]; rfl) (fun z hz => absurd hz List.not_mem_nil) (by decide) (by decide) (hts (.classLink RL 19 "java/lang/IndexOutOfBoundsException") (by decide +kernel)) (va_Nw.use rfl (hngX11_95 (.castable "java/lang/IndexOutOfBoundsException" "java/lang/IndexOutOfBoundsException") (by decide +kernel))) hc1 hc2 hc3 ?_
  generalize H1 = H at hP hS hc1 ⊢
  refine lv_astore (lv' := [(5, .ref q9), (0, .ref h0), (1, .int qg), (2, .int qk), (3, .int qu), (4, .ref o)]) hx hb dL_goal_15 hl (by decide) rfl (fun ls hl => ?_)
  refine lv_iconst (v := 1) hx hb dL_goal_17 (by decide) ?_
  refine vx_ret ?_
  refine W.widen (k := 1) (n := 6) (by decide +kernel) (by decide +kernel) ?_
  exact W.iret (v := 1) hx hb hr (fun t ht hW => ⟨⟨1, (), rfl, rfl, by rw [ht]; exact hP, va_K.moved hW.alike hK, hD⟩, hS.F ht⟩) hS.2.2 dL_goal_18
def wsFL_multiplier : List Cond := .codeWith yL_multiplier cL_multiplier 4 (some .int) [(0, 9, 12, 32), (0, 9, 15, 19)] :: (.classLink RL 32 "java/lang/IllegalStateException" :: wsV RL 57 RX11 yX11_multiplier wsX11_multiplier)
theorem gFL_multiplier : GoodIn wsFL_multiplier (wsV RL 57 RX11 yX11_multiplier wsX11_multiplier) := goodIn_sub (fun _ h => List.mem_cons_of_mem _ (List.mem_cons_of_mem _ h)) (by decide +kernel)
theorem dL_multiplier_0 : decode cL_multiplier 0 = .ok (.aload_n 2, 1) := by decide +kernel
theorem dL_multiplier_1 : decode cL_multiplier 1 = .ok (.iconst 0, 1) := by decide +kernel
theorem dL_multiplier_2 : decode cL_multiplier 2 = .ok (.aload_n 0, 1) := by decide +kernel
theorem dL_multiplier_3 : decode cL_multiplier 3 = .ok (.iload_n 1, 1) := by decide +kernel
theorem dL_multiplier_4 : decode cL_multiplier 4 = .ok (.invokevirtual 57, 3) := by decide +kernel
theorem dL_multiplier_12 : decode cL_multiplier 12 = .ok (.astore_n 3, 1) := by decide +kernel
theorem dL_multiplier_13 : decode cL_multiplier 13 = .ok (.iconst 1, 1) := by decide +kernel
theorem dL_multiplier_14 : decode cL_multiplier 14 = .ok (.ireturn, 1) := by decide +kernel
set_option maxHeartbeats 4000000 in
set_option maxRecDepth 100000 in
/-- on a fresh object: caught -/
theorem x_L_multiplier (l : Launch) (hst : l.stackTraces = false) (dC : Nat → ClassId) (dI : Nat → Nat → Nat) (h0 o : Nat) (a0 a1 a2 a3 : Nat) (sl : Int32) (f5 f6 f8 f9 f10 : Value) (qi : Int32) (sz : Nat) : vx_Met l yL_multiplier wsFL_multiplier ({ frames := 7, cells := 1, slots := 6, locals := 102 }) (va_Pc [.ref h0, .int qi, .ref o] (fun U => U.heap.size = sz ∧ va_P (dC, dI) vwCl [(h0, .inr (11, [.ref a0, .ref a1, .ref a2, .ref a3, .int sl, f5, f6, .null, f8, f9, f10]))] U.heap ∧ va_K (dC, dI) vwCl [] U ∧ va_D (fun _ => True) [(h0, .inr (11, [.ref a0, .ref a1, .ref a2, .ref a3, .int sl, f5, f6, .null, f8, f9, f10]))] ∧ vx_Zq Bundle.tN "UNASSIGNED_STACK" Bundle.steD (va_A [(h0, .inr (11, [.ref a0, .ref a1, .ref a2, .ref a3, .int sl, f5, f6, .null, f8, f9, f10]))] sz) U U.heap ∧ vx_Zq Bundle.tN "SUPPRESSED_SENTINEL" Bundle.listD (va_A [(h0, .inr (11, [.ref a0, .ref a1, .ref a2, .ref a3, .int sl, f5, f6, .null, f8, f9, f10]))] sz) U U.heap ∧ (∀ w ∈ ngX11_161, va_Nw w U))) (va_Qi (fun (r : Int32) (_ : Unit) => r = 1) (fun _ t => va_P (dC, dI) vwCl [(h0, .inr (11, [.ref a0, .ref a1, .ref a2, .ref a3, .int sl, f5, f6, .null, f8, f9, f10]))] t.heap ∧ va_K (dC, dI) vwCl [] t ∧ va_D (va_A [(h0, .inr (11, [.ref a0, .ref a1, .ref a2, .ref a3, .int sl, f5, f6, .null, f8, f9, f10]))] sz) [(h0, .inr (11, [.ref a0, .ref a1, .ref a2, .ref a3, .int sl, f5, f6, .null, f8, f9, f10]))]) (va_A [(h0, .inr (11, [.ref a0, .ref a1, .ref a2, .ref a3, .int sl, f5, f6, .null, f8, f9, f10]))] sz)) (vx_X (fun n : String => (n = "java/lang/IllegalStateException" ∧ (False))) (fun E n t => E = n ∧ va_P (dC, dI) vwCl [(h0, .inr (11, [.ref a0, .ref a1, .ref a2, .ref a3, .int sl, f5, f6, .null, f8, f9, f10]))] t.heap ∧ va_K (dC, dI) vwCl [] t ∧ va_D (va_A [(h0, .inr (11, [.ref a0, .ref a1, .ref a2, .ref a3, .int sl, f5, f6, .null, f8, f9, f10]))] sz) [(h0, .inr (11, [.ref a0, .ref a1, .ref a2, .ref a3, .int sl, f5, f6, .null, f8, f9, f10]))]) (va_A [(h0, .inr (11, [.ref a0, .ref a1, .ref a2, .ref a3, .int sl, f5, f6, .null, f8, f9, f10]))] sz)) 1 6 (va_A [(h0, .inr (11, [.ref a0, .ref a1, .ref a2, .ref a3, .int sl, f5, f6, .null, f8, f9, f10]))] sz) := by
  refine vx_ofWH (hh := [(0, 9, 12, 32), (0, 9, 15, 19)]) (cc := cL_multiplier) (maxL := 4) (ret := (some .int)) (by decide) rfl ?_
  intro p e s m args below meth c s₁ B hml hv
  obtain ⟨rfl, hsz, hP, hK, hD0, hU, hN, hngX11_161⟩ := hv
  have hx := B.exec
  have hb := B.bytes
  have hr := B.returns
  have hts := atoms_spec (ws := wsFL_multiplier) B.pre
  have hown : s.vm.findClass RL = some m.cls := findClass_of_methodNamed B.named
  have hlocks := B.notSynchronized
  have htb : c.exceptionTable.toList = tableOf [(0, 9, 12, 32), (0, 9, 15, 19)] := vx_table (x := yL_multiplier) B (hts _ List.mem_cons_self)
  subst hsz
  have hD := hD0.self (sz := s.heap.size)
  generalize hAe : va_A [(h0, .inr (11, [.ref a0, .ref a1, .ref a2, .ref a3, .int sl, f5, f6, .null, f8, f9, f10]))] s.heap.size = A at hD hU hN ⊢
  have hA : ∀ q : Nat, s.heap.size ≤ q → A q := fun q h => by rw [← hAe]; exact Or.inr h
  have hS : va_S A s.heap s.heap [] := va_S.rf
  have hP : va_P (dC, dI) vwCl [(h0, .inr (11, [.ref a0, .ref a1, .ref a2, .ref a3, .int sl, f5, f6, .null, f8, f9, f10]))] s.heap := hP
  have hl := lv_entry ([.ref h0, .int qi, .ref o]) (n := 4) (Nat.le_of_ble_eq_true rfl)
  rw [lg_entry_eq]
  generalize (lg_sl ([.ref h0, .int qi, .ref o]) ++ List.replicate (4 - (lg_sl ([.ref h0, .int qi, .ref o])).length) Slot.unset).toArray = ls at hl ⊢
  have hl : lv_has ls 4 [(0, .ref h0), (1, .int qi), (2, .ref o)] := hl
  refine lv_aload_n hx hb dL_multiplier_0 rfl (lv_at hl 2 rfl) ?_
  refine lv_iconst (v := 0) hx hb dL_multiplier_1 (by decide) ?_
  refine lv_aload_n hx hb dL_multiplier_2 rfl (lv_at hl 0 rfl) ?_
  refine lv_iload_n hx hb dL_multiplier_3 rfl (lv_at hl 1 rfl) ?_
  have hPc := hP.sub (ws' := [(h0, .inr (11, [.ref a0, .ref a1, .ref a2, .ref a3, .int sl, f5, f6, .null, f8, f9, f10]))]) [0] rfl
  have hDc := hD.sub (ws' := [(h0, .inr (11, [.ref a0, .ref a1, .ref a2, .ref a3, .int sl, f5, f6, .null, f8, f9, f10]))]) [0] (by decide) rfl
  have hKc := hK.sub (tys' := []) [] rfl
  have hFc := va_free (wc := [(h0, .inr (11, [.ref a0, .ref a1, .ref a2, .ref a3, .int sl, f5, f6, .null, f8, f9, f10]))]) hD hS hA [0] rfl
  refine vx_calli (vx_runV (As := [.int qi]) (rest := [.int 0, .ref o]) ⟨hx, hb, hml, hown, hts⟩ (x_X11_multiplier l hst dC dI h0 a0 a1 a2 a3 sl f5 f6 f8 f9 f10 qi s.heap.size) (cwV 1 hts gFL_multiplier rfl rfl rfl (by decide +kernel) ⟨by decide +kernel, by decide +kernel⟩) ⟨fun a U g mk q => by obtain ⟨q0, q1, qP, qK, qD, qU, qN, qngX11_161⟩ := q; exact ⟨q0, q1, qP, va_K.moved (u := U) (U := U.calling g mk a) (Vm.Alike.refl U.vm) qK, qD, vx_Zq.moved (u := U) (U := U.calling g mk a) (Vm.Alike.refl U.vm) qU, vx_Zq.moved (u := U) (U := U.calling g mk a) (Vm.Alike.refl U.vm) qN, fun w h => va_Nw.same (u := U) (U := U.calling g mk a) (ngX11_161_ot w h) rfl (qngX11_161 w h)⟩, va_recv hKc hPc (ci := 11) (q0 := 0) rfl rfl, fun U hU9 hW => ⟨rfl, by rw [hU9], by rw [hU9]; exact hPc, va_K.moved hW.alike hKc, hDc.weaken (fun _ _ _ _ => trivial), by rw [hU9]; exact ((hU.kept (fun a h1 h2 => hS.2.1 a h1 h2)).narrow hFc).moved hW.alike, by rw [hU9]; exact ((hN.kept (fun a h1 h2 => hS.2.1 a h1 h2)).narrow hFc).moved hW.alike, fun w h => cd_warm (ngX11_161_cd w h) hW (hngX11_161 w h)⟩⟩ rfl rfl hl.1 rfl (lv_room (Nat.le_of_ble_eq_true rfl)) dL_multiplier_4 ⟨by decide +kernel, by decide +kernel⟩) hS (fun q _ h => hFc q h) hFc (fun q _ h => hFc q h) (fun E ce q9 u t H1 locs1 ht hvm hw hB hz1 hk1 hS hc1 hc2 hc3 => ?_) (fun r u t H1 locs1 ht hvm hw hB hz1 hk1 hS => hw.elim)
  obtain ⟨hE, hP1, hK1, hD1⟩ := hB
  subst hE
  rw [ht] at hP1
  have hK1 := va_K.moved hvm.symm hK1
  obtain ⟨hP, hD⟩ := va_join (wr := []) (w1 := [(h0, .inr (11, [.ref a0, .ref a1, .ref a2, .ref a3, .int sl, f5, f6, .null, f8, f9, f10]))]) hP hD [0] [] rfl rfl (by decide) (by decide) hk1 hFc hP1 hD1
  have hP := hP.sub (ws' := [(h0, .inr (11, [.ref a0, .ref a1, .ref a2, .ref a3, .int sl, f5, f6, .null, f8, f9, f10]))]) [0] rfl
  have hD := hD.sub (ws' := [(h0, .inr (11, [.ref a0, .ref a1, .ref a2, .ref a3, .int sl, f5, f6, .null, f8, f9, f10]))]) [0] (by decide) rfl
  refine vx_widen (k := 1) (n := 6) (by decide +kernel) (by decide +kernel) ?_
  obtain ⟨rfl, -⟩ := hw
  refine vx_catch (own := RL) (name := "java/lang/IllegalStateException") hown [] ⟨0, 9, 12, 32⟩ [⟨0, 9, 15, 19⟩] (by rw [htb]; rfl) (fun z hz => absurd hz List.not_mem_nil) (by decide) (by decide) (hts (.classLink RL 32 "java/lang/IllegalStateException") (by decide +kernel)) (va_Nw.use rfl (hngX11_161 (.castable "java/lang/IllegalStateException" "java/lang/IllegalStateException") (by decide +kernel))) hc1 hc2 hc3 ?_
  generalize H1 = H at hP hS hc1 ⊢
  refine lv_astore_n (lv' := [(3, .ref q9), (0, .ref h0), (1, .int qi), (2, .ref o)]) hx hb dL_multiplier_12 rfl hl (by decide) rfl (fun ls hl => ?_)
  refine lv_iconst (v := 1) hx hb dL_multiplier_13 (by decide) ?_
  refine vx_ret ?_
  refine W.widen (k := 1) (n := 6) (by decide +kernel) (by decide +kernel) ?_
  exact W.iret (v := 1) hx hb hr (fun t ht hW => ⟨⟨1, (), rfl, rfl, by rw [ht]; exact hP, va_K.moved hW.alike hK, hD⟩, hS.F ht⟩) hS.2.2 dL_multiplier_14

def wsFL_write : List Cond := .codeWith yL_write cL_write 3 (some .int) [(0, 8, 11, 32)] :: (.classLink RL 32 "java/lang/IllegalStateException" :: wsV RL 29 RX11 yX11_write wsFX11_write)
theorem gFL_write : GoodIn wsFL_write (wsV RL 29 RX11 yX11_write wsFX11_write) := goodIn_sub (fun _ h => List.mem_cons_of_mem _ (List.mem_cons_of_mem _ h)) (by decide +kernel)
theorem dL_write_0 : decode cL_write 0 = .ok (.aload_n 1, 1) := by decide +kernel
theorem dL_write_1 : decode cL_write 1 = .ok (.iconst 0, 1) := by decide +kernel
theorem dL_write_2 : decode cL_write 2 = .ok (.aload_n 0, 1) := by decide +kernel
theorem dL_write_3 : decode cL_write 3 = .ok (.invokevirtual 29, 3) := by decide +kernel
theorem dL_write_11 : decode cL_write 11 = .ok (.astore_n 2, 1) := by decide +kernel
theorem dL_write_12 : decode cL_write 12 = .ok (.iconst 1, 1) := by decide +kernel
theorem dL_write_13 : decode cL_write 13 = .ok (.ireturn, 1) := by decide +kernel
set_option maxHeartbeats 4000000 in
set_option maxRecDepth 100000 in
/-- on a fresh object: caught -/
theorem x_L_write (l : Launch) (hst : l.stackTraces = false) (dC : Nat → ClassId) (dI : Nat → Nat → Nat) (h0 o : Nat) (a0 a1 a2 a3 : Nat) (sl : Int32) (f5 f6 f7 f8 f9 f10 : Value) (nv nr ng nd nc : Int32) (g6 g7 g8 g9 : Value) (pr : Int32) (g11 g12 g13 g14 g15 g16 : Value)  (sz : Nat) : vx_Met l yL_write wsFL_write ({ frames := 8, cells := 1, slots := 6, locals := 122 }) (va_Pc [.ref h0, .ref o] (fun U => U.heap.size = sz ∧ va_P (dC, dI) vwCl [(h0, .inr (11, [.ref a0, .ref a1, .ref a2, .ref a3, .int sl, f5, f6, f7, f8, f9, f10])), (a2, .inr (1, [.int 0, .int nv, .int nr, .int ng, .int nd, .int nc, g6, g7, g8, g9, .int pr, g11, g12, g13, g14, g15, g16]))] U.heap ∧ va_K (dC, dI) vwCl [] U ∧ va_D (fun _ => True) [(h0, .inr (11, [.ref a0, .ref a1, .ref a2, .ref a3, .int sl, f5, f6, f7, f8, f9, f10])), (a2, .inr (1, [.int 0, .int nv, .int nr, .int ng, .int nd, .int nc, g6, g7, g8, g9, .int pr, g11, g12, g13, g14, g15, g16]))] ∧ vx_Zq Bundle.tN "UNASSIGNED_STACK" Bundle.steD (va_A [(h0, .inr (11, [.ref a0, .ref a1, .ref a2, .ref a3, .int sl, f5, f6, f7, f8, f9, f10])), (a2, .inr (1, [.int 0, .int nv, .int nr, .int ng, .int nd, .int nc, g6, g7, g8, g9, .int pr, g11, g12, g13, g14, g15, g16]))] sz) U U.heap ∧ vx_Zq Bundle.tN "SUPPRESSED_SENTINEL" Bundle.listD (va_A [(h0, .inr (11, [.ref a0, .ref a1, .ref a2, .ref a3, .int sl, f5, f6, f7, f8, f9, f10])), (a2, .inr (1, [.int 0, .int nv, .int nr, .int ng, .int nd, .int nc, g6, g7, g8, g9, .int pr, g11, g12, g13, g14, g15, g16]))] sz) U U.heap ∧ (∀ w ∈ ngX11_161, va_Nw w U))) (va_Qi (fun (r : Int32) (_ : Unit) => r = 1) (fun _ t => va_P (dC, dI) vwCl [(h0, .inr (11, [.ref a0, .ref a1, .ref a2, .ref a3, .int sl, f5, f6, f7, f8, f9, f10])), (a2, .inr (1, [.int 0, .int nv, .int nr, .int ng, .int nd, .int nc, g6, g7, g8, g9, .int pr, g11, g12, g13, g14, g15, g16]))] t.heap ∧ va_K (dC, dI) vwCl [] t ∧ va_D (va_A [(h0, .inr (11, [.ref a0, .ref a1, .ref a2, .ref a3, .int sl, f5, f6, f7, f8, f9, f10])), (a2, .inr (1, [.int 0, .int nv, .int nr, .int ng, .int nd, .int nc, g6, g7, g8, g9, .int pr, g11, g12, g13, g14, g15, g16]))] sz) [(h0, .inr (11, [.ref a0, .ref a1, .ref a2, .ref a3, .int sl, f5, f6, f7, f8, f9, f10])), (a2, .inr (1, [.int 0, .int nv, .int nr, .int ng, .int nd, .int nc, g6, g7, g8, g9, .int pr, g11, g12, g13, g14, g15, g16]))]) (va_A [(h0, .inr (11, [.ref a0, .ref a1, .ref a2, .ref a3, .int sl, f5, f6, f7, f8, f9, f10])), (a2, .inr (1, [.int 0, .int nv, .int nr, .int ng, .int nd, .int nc, g6, g7, g8, g9, .int pr, g11, g12, g13, g14, g15, g16]))] sz)) (vx_X (fun n : String => (n = "java/lang/IllegalStateException" ∧ (False))) (fun E n t => E = n ∧ va_P (dC, dI) vwCl [(h0, .inr (11, [.ref a0, .ref a1, .ref a2, .ref a3, .int sl, f5, f6, f7, f8, f9, f10])), (a2, .inr (1, [.int 0, .int nv, .int nr, .int ng, .int nd, .int nc, g6, g7, g8, g9, .int pr, g11, g12, g13, g14, g15, g16]))] t.heap ∧ va_K (dC, dI) vwCl [] t ∧ va_D (va_A [(h0, .inr (11, [.ref a0, .ref a1, .ref a2, .ref a3, .int sl, f5, f6, f7, f8, f9, f10])), (a2, .inr (1, [.int 0, .int nv, .int nr, .int ng, .int nd, .int nc, g6, g7, g8, g9, .int pr, g11, g12, g13, g14, g15, g16]))] sz) [(h0, .inr (11, [.ref a0, .ref a1, .ref a2, .ref a3, .int sl, f5, f6, f7, f8, f9, f10])), (a2, .inr (1, [.int 0, .int nv, .int nr, .int ng, .int nd, .int nc, g6, g7, g8, g9, .int pr, g11, g12, g13, g14, g15, g16]))]) (va_A [(h0, .inr (11, [.ref a0, .ref a1, .ref a2, .ref a3, .int sl, f5, f6, f7, f8, f9, f10])), (a2, .inr (1, [.int 0, .int nv, .int nr, .int ng, .int nd, .int nc, g6, g7, g8, g9, .int pr, g11, g12, g13, g14, g15, g16]))] sz)) 1 6 (va_A [(h0, .inr (11, [.ref a0, .ref a1, .ref a2, .ref a3, .int sl, f5, f6, f7, f8, f9, f10])), (a2, .inr (1, [.int 0, .int nv, .int nr, .int ng, .int nd, .int nc, g6, g7, g8, g9, .int pr, g11, g12, g13, g14, g15, g16]))] sz) := by
  refine vx_ofWH (hh := [(0, 8, 11, 32)]) (cc := cL_write) (maxL := 3) (ret := (some .int)) (by decide) rfl ?_
  intro p e s m args below meth c s₁ B hml hv
  obtain ⟨rfl, hsz, hP, hK, hD0, hU, hN, hngX11_161⟩ := hv
  have hx := B.exec
  have hb := B.bytes
  have hr := B.returns
  have hts := atoms_spec (ws := wsFL_write) B.pre
  have hown : s.vm.findClass RL = some m.cls := findClass_of_methodNamed B.named
  have hlocks := B.notSynchronized
  have htb : c.exceptionTable.toList = tableOf [(0, 8, 11, 32)] := vx_table (x := yL_write) B (hts _ List.mem_cons_self)
  subst hsz
  have hD := hD0.self (sz := s.heap.size)
  generalize hAe : va_A [(h0, .inr (11, [.ref a0, .ref a1, .ref a2, .ref a3, .int sl, f5, f6, f7, f8, f9, f10])), (a2, .inr (1, [.int 0, .int nv, .int nr, .int ng, .int nd, .int nc, g6, g7, g8, g9, .int pr, g11, g12, g13, g14, g15, g16]))] s.heap.size = A at hD hU hN ⊢
  have hA : ∀ q : Nat, s.heap.size ≤ q → A q := fun q h => by rw [← hAe]; exact Or.inr h
  have hS : va_S A s.heap s.heap [] := va_S.rf
  have hP : va_P (dC, dI) vwCl [(h0, .inr (11, [.ref a0, .ref a1, .ref a2, .ref a3, .int sl, f5, f6, f7, f8, f9, f10])), (a2, .inr (1, [.int 0, .int nv, .int nr, .int ng, .int nd, .int nc, g6, g7, g8, g9, .int pr, g11, g12, g13, g14, g15, g16]))] s.heap := hP
  have hl := lv_entry ([.ref h0, .ref o]) (n := 3) (Nat.le_of_ble_eq_true rfl)
  rw [lg_entry_eq]
  generalize (lg_sl ([.ref h0, .ref o]) ++ List.replicate (3 - (lg_sl ([.ref h0, .ref o])).length) Slot.unset).toArray = ls at hl ⊢
  have hl : lv_has ls 3 [(0, .ref h0), (1, .ref o)] := hl
  refine lv_aload_n hx hb dL_write_0 rfl (lv_at hl 1 rfl) ?_
  refine lv_iconst (v := 0) hx hb dL_write_1 (by decide) ?_
  refine lv_aload_n hx hb dL_write_2 rfl (lv_at hl 0 rfl) ?_
  have hPc := hP.sub (ws' := [(h0, .inr (11, [.ref a0, .ref a1, .ref a2, .ref a3, .int sl, f5, f6, f7, f8, f9, f10])), (a2, .inr (1, [.int 0, .int nv, .int nr, .int ng, .int nd, .int nc, g6, g7, g8, g9, .int pr, g11, g12, g13, g14, g15, g16]))]) [0, 1] rfl
  have hDc := hD.sub (ws' := [(h0, .inr (11, [.ref a0, .ref a1, .ref a2, .ref a3, .int sl, f5, f6, f7, f8, f9, f10])), (a2, .inr (1, [.int 0, .int nv, .int nr, .int ng, .int nd, .int nc, g6, g7, g8, g9, .int pr, g11, g12, g13, g14, g15, g16]))]) [0, 1] (by decide) rfl
  have hKc := hK.sub (tys' := []) [] rfl
  have hFc := va_free (wc := [(h0, .inr (11, [.ref a0, .ref a1, .ref a2, .ref a3, .int sl, f5, f6, f7, f8, f9, f10])), (a2, .inr (1, [.int 0, .int nv, .int nr, .int ng, .int nd, .int nc, g6, g7, g8, g9, .int pr, g11, g12, g13, g14, g15, g16]))]) hD hS hA [0, 1] rfl
  refine vx_calli (vx_runV (As := []) (rest := [.int 0, .ref o]) ⟨hx, hb, hml, hown, hts⟩ (x_X11_write l hst dC dI h0 a0 a1 a2 a3 sl f5 f6 f7 f8 f9 f10 nv nr ng nd nc g6 g7 g8 g9 pr g11 g12 g13 g14 g15 g16 s.heap.size) (cwV 0 hts gFL_write rfl rfl rfl (by decide +kernel) ⟨by decide +kernel, by decide +kernel⟩) ⟨fun a U g mk q => by obtain ⟨q0, q1, qP, qK, qD, qU, qN, qngX11_161⟩ := q; exact ⟨q0, q1, qP, va_K.moved (u := U) (U := U.calling g mk a) (Vm.Alike.refl U.vm) qK, qD, vx_Zq.moved (u := U) (U := U.calling g mk a) (Vm.Alike.refl U.vm) qU, vx_Zq.moved (u := U) (U := U.calling g mk a) (Vm.Alike.refl U.vm) qN, fun w h => va_Nw.same (u := U) (U := U.calling g mk a) (ngX11_161_ot w h) rfl (qngX11_161 w h)⟩, va_recv hKc hPc (ci := 11) (q0 := 0) rfl rfl, fun U hU9 hW => ⟨rfl, by rw [hU9], by rw [hU9]; exact hPc, va_K.moved hW.alike hKc, hDc.weaken (fun _ _ _ _ => trivial), by rw [hU9]; exact ((hU.kept (fun a h1 h2 => hS.2.1 a h1 h2)).narrow hFc).moved hW.alike, by rw [hU9]; exact ((hN.kept (fun a h1 h2 => hS.2.1 a h1 h2)).narrow hFc).moved hW.alike, fun w h => cd_warm (ngX11_161_cd w h) hW (hngX11_161 w h)⟩⟩ rfl rfl hl.1 rfl (lv_room (Nat.le_of_ble_eq_true rfl)) dL_write_3 ⟨by decide +kernel, by decide +kernel⟩) hS (fun q _ h => hFc q h) hFc (fun q _ h => hFc q h) (fun E ce q9 u t H1 locs1 ht hvm hw hB hz1 hk1 hS hc1 hc2 hc3 => ?_) (fun r u t H1 locs1 ht hvm hw hB hz1 hk1 hS => hw.elim)
  obtain ⟨hE, hP1, hK1, hD1⟩ := hB
  subst hE
  rw [ht] at hP1
  have hK1 := va_K.moved hvm.symm hK1
  obtain ⟨hP, hD⟩ := va_join (wr := []) (w1 := [(h0, .inr (11, [.ref a0, .ref a1, .ref a2, .ref a3, .int sl, f5, f6, f7, f8, f9, f10])), (a2, .inr (1, [.int 0, .int nv, .int nr, .int ng, .int nd, .int nc, g6, g7, g8, g9, .int pr, g11, g12, g13, g14, g15, g16]))]) hP hD [0, 1] [] rfl rfl (by decide) (by decide) hk1 hFc hP1 hD1
  have hP := hP.sub (ws' := [(h0, .inr (11, [.ref a0, .ref a1, .ref a2, .ref a3, .int sl, f5, f6, f7, f8, f9, f10])), (a2, .inr (1, [.int 0, .int nv, .int nr, .int ng, .int nd, .int nc, g6, g7, g8, g9, .int pr, g11, g12, g13, g14, g15, g16]))]) [0, 1] rfl
  have hD := hD.sub (ws' := [(h0, .inr (11, [.ref a0, .ref a1, .ref a2, .ref a3, .int sl, f5, f6, f7, f8, f9, f10])), (a2, .inr (1, [.int 0, .int nv, .int nr, .int ng, .int nd, .int nc, g6, g7, g8, g9, .int pr, g11, g12, g13, g14, g15, g16]))]) [0, 1] (by decide) rfl
  refine vx_widen (k := 1) (n := 6) (by decide +kernel) (by decide +kernel) ?_
  obtain ⟨rfl, -⟩ := hw
  refine vx_catch (own := RL) (name := "java/lang/IllegalStateException") hown [] ⟨0, 8, 11, 32⟩ [] (by rw [htb]; rfl) (fun z hz => absurd hz List.not_mem_nil) (by decide) (by decide) (hts (.classLink RL 32 "java/lang/IllegalStateException") (by decide +kernel)) (va_Nw.use rfl (hngX11_161 (.castable "java/lang/IllegalStateException" "java/lang/IllegalStateException") (by decide +kernel))) hc1 hc2 hc3 ?_
  generalize H1 = H at hP hS hc1 ⊢
  refine lv_astore_n (lv' := [(2, .ref q9), (0, .ref h0), (1, .ref o)]) hx hb dL_write_11 rfl hl (by decide) rfl (fun ls hl => ?_)
  refine lv_iconst (v := 1) hx hb dL_write_12 (by decide) ?_
  refine vx_ret ?_
  refine W.widen (k := 1) (n := 6) (by decide +kernel) (by decide +kernel) ?_
  exact W.iret (v := 1) hx hb hr (fun t ht hW => ⟨⟨1, (), rfl, rfl, by rw [ht]; exact hP, va_K.moved hW.alike hK, hD⟩, hS.F ht⟩) hS.2.2 dL_write_13
def wsFL_solve : List Cond := .codeWith yL_solve cL_solve 4 (some .int) [(0, 16, 19, 32)] :: (.classLink RL 32 "java/lang/IllegalStateException" :: wsV RL 34 RX11 yX11_solve wsFX11_solve)
theorem gFL_solve : GoodIn wsFL_solve (wsV RL 34 RX11 yX11_solve wsFX11_solve) := goodIn_sub (fun _ h => List.mem_cons_of_mem _ (List.mem_cons_of_mem _ h)) (by decide +kernel)
theorem dL_solve_0 : decode cL_solve 0 = .ok (.aload_n 2, 1) := by decide +kernel
theorem dL_solve_1 : decode cL_solve 1 = .ok (.iconst 0, 1) := by decide +kernel
theorem dL_solve_2 : decode cL_solve 2 = .ok (.aload_n 0, 1) := by decide +kernel
theorem dL_solve_3 : decode cL_solve 3 = .ok (.iload_n 1, 1) := by decide +kernel
theorem dL_solve_4 : decode cL_solve 4 = .ok (.invokevirtual 34, 3) := by decide +kernel
theorem dL_solve_19 : decode cL_solve 19 = .ok (.astore_n 3, 1) := by decide +kernel
theorem dL_solve_20 : decode cL_solve 20 = .ok (.iconst 1, 1) := by decide +kernel
theorem dL_solve_21 : decode cL_solve 21 = .ok (.ireturn, 1) := by decide +kernel
set_option maxHeartbeats 4000000 in
set_option maxRecDepth 100000 in
/-- on a fresh object: caught -/
theorem x_L_solve (l : Launch) (hst : l.stackTraces = false) (dC : Nat → ClassId) (dI : Nat → Nat → Nat) (h0 o : Nat) (a0 a1 a2 a3 : Nat) (sl : Int32) (f5 f6 f7 f8 f9 f10 : Value) (nv nr ng nd nc : Int32) (g6 g7 g8 g9 : Value) (pr : Int32) (g11 g12 g13 g14 g15 g16 : Value) (rx : Int32) (sz : Nat) : vx_Met l yL_solve wsFL_solve ({ frames := 8, cells := 1, slots := 6, locals := 122 }) (va_Pc [.ref h0, .int rx, .ref o] (fun U => U.heap.size = sz ∧ va_P (dC, dI) vwCl [(h0, .inr (11, [.ref a0, .ref a1, .ref a2, .ref a3, .int sl, f5, f6, f7, f8, f9, f10])), (a2, .inr (1, [.int 0, .int nv, .int nr, .int ng, .int nd, .int nc, g6, g7, g8, g9, .int pr, g11, g12, g13, g14, g15, g16]))] U.heap ∧ va_K (dC, dI) vwCl [] U ∧ va_D (fun _ => True) [(h0, .inr (11, [.ref a0, .ref a1, .ref a2, .ref a3, .int sl, f5, f6, f7, f8, f9, f10])), (a2, .inr (1, [.int 0, .int nv, .int nr, .int ng, .int nd, .int nc, g6, g7, g8, g9, .int pr, g11, g12, g13, g14, g15, g16]))] ∧ vx_Zq Bundle.tN "UNASSIGNED_STACK" Bundle.steD (va_A [(h0, .inr (11, [.ref a0, .ref a1, .ref a2, .ref a3, .int sl, f5, f6, f7, f8, f9, f10])), (a2, .inr (1, [.int 0, .int nv, .int nr, .int ng, .int nd, .int nc, g6, g7, g8, g9, .int pr, g11, g12, g13, g14, g15, g16]))] sz) U U.heap ∧ vx_Zq Bundle.tN "SUPPRESSED_SENTINEL" Bundle.listD (va_A [(h0, .inr (11, [.ref a0, .ref a1, .ref a2, .ref a3, .int sl, f5, f6, f7, f8, f9, f10])), (a2, .inr (1, [.int 0, .int nv, .int nr, .int ng, .int nd, .int nc, g6, g7, g8, g9, .int pr, g11, g12, g13, g14, g15, g16]))] sz) U U.heap ∧ (∀ w ∈ ngX11_161, va_Nw w U))) (va_Qi (fun (r : Int32) (_ : Unit) => r = 1) (fun _ t => va_P (dC, dI) vwCl [(h0, .inr (11, [.ref a0, .ref a1, .ref a2, .ref a3, .int sl, f5, f6, f7, f8, f9, f10])), (a2, .inr (1, [.int 0, .int nv, .int nr, .int ng, .int nd, .int nc, g6, g7, g8, g9, .int pr, g11, g12, g13, g14, g15, g16]))] t.heap ∧ va_K (dC, dI) vwCl [] t ∧ va_D (va_A [(h0, .inr (11, [.ref a0, .ref a1, .ref a2, .ref a3, .int sl, f5, f6, f7, f8, f9, f10])), (a2, .inr (1, [.int 0, .int nv, .int nr, .int ng, .int nd, .int nc, g6, g7, g8, g9, .int pr, g11, g12, g13, g14, g15, g16]))] sz) [(h0, .inr (11, [.ref a0, .ref a1, .ref a2, .ref a3, .int sl, f5, f6, f7, f8, f9, f10])), (a2, .inr (1, [.int 0, .int nv, .int nr, .int ng, .int nd, .int nc, g6, g7, g8, g9, .int pr, g11, g12, g13, g14, g15, g16]))]) (va_A [(h0, .inr (11, [.ref a0, .ref a1, .ref a2, .ref a3, .int sl, f5, f6, f7, f8, f9, f10])), (a2, .inr (1, [.int 0, .int nv, .int nr, .int ng, .int nd, .int nc, g6, g7, g8, g9, .int pr, g11, g12, g13, g14, g15, g16]))] sz)) (vx_X (fun n : String => (n = "java/lang/IllegalStateException" ∧ (False))) (fun E n t => E = n ∧ va_P (dC, dI) vwCl [(h0, .inr (11, [.ref a0, .ref a1, .ref a2, .ref a3, .int sl, f5, f6, f7, f8, f9, f10])), (a2, .inr (1, [.int 0, .int nv, .int nr, .int ng, .int nd, .int nc, g6, g7, g8, g9, .int pr, g11, g12, g13, g14, g15, g16]))] t.heap ∧ va_K (dC, dI) vwCl [] t ∧ va_D (va_A [(h0, .inr (11, [.ref a0, .ref a1, .ref a2, .ref a3, .int sl, f5, f6, f7, f8, f9, f10])), (a2, .inr (1, [.int 0, .int nv, .int nr, .int ng, .int nd, .int nc, g6, g7, g8, g9, .int pr, g11, g12, g13, g14, g15, g16]))] sz) [(h0, .inr (11, [.ref a0, .ref a1, .ref a2, .ref a3, .int sl, f5, f6, f7, f8, f9, f10])), (a2, .inr (1, [.int 0, .int nv, .int nr, .int ng, .int nd, .int nc, g6, g7, g8, g9, .int pr, g11, g12, g13, g14, g15, g16]))]) (va_A [(h0, .inr (11, [.ref a0, .ref a1, .ref a2, .ref a3, .int sl, f5, f6, f7, f8, f9, f10])), (a2, .inr (1, [.int 0, .int nv, .int nr, .int ng, .int nd, .int nc, g6, g7, g8, g9, .int pr, g11, g12, g13, g14, g15, g16]))] sz)) 1 6 (va_A [(h0, .inr (11, [.ref a0, .ref a1, .ref a2, .ref a3, .int sl, f5, f6, f7, f8, f9, f10])), (a2, .inr (1, [.int 0, .int nv, .int nr, .int ng, .int nd, .int nc, g6, g7, g8, g9, .int pr, g11, g12, g13, g14, g15, g16]))] sz) := by
  refine vx_ofWH (hh := [(0, 16, 19, 32)]) (cc := cL_solve) (maxL := 4) (ret := (some .int)) (by decide) rfl ?_
  intro p e s m args below meth c s₁ B hml hv
  obtain ⟨rfl, hsz, hP, hK, hD0, hU, hN, hngX11_161⟩ := hv
  have hx := B.exec
  have hb := B.bytes
  have hr := B.returns
  have hts := atoms_spec (ws := wsFL_solve) B.pre
  have hown : s.vm.findClass RL = some m.cls := findClass_of_methodNamed B.named
  have hlocks := B.notSynchronized
  have htb : c.exceptionTable.toList = tableOf [(0, 16, 19, 32)] := vx_table (x := yL_solve) B (hts _ List.mem_cons_self)
  subst hsz
  have hD := hD0.self (sz := s.heap.size)
  generalize hAe : va_A [(h0, .inr (11, [.ref a0, .ref a1, .ref a2, .ref a3, .int sl, f5, f6, f7, f8, f9, f10])), (a2, .inr (1, [.int 0, .int nv, .int nr, .int ng, .int nd, .int nc, g6, g7, g8, g9, .int pr, g11, g12, g13, g14, g15, g16]))] s.heap.size = A at hD hU hN ⊢
  have hA : ∀ q : Nat, s.heap.size ≤ q → A q := fun q h => by rw [← hAe]; exact Or.inr h
  have hS : va_S A s.heap s.heap [] := va_S.rf
  have hP : va_P (dC, dI) vwCl [(h0, .inr (11, [.ref a0, .ref a1, .ref a2, .ref a3, .int sl, f5, f6, f7, f8, f9, f10])), (a2, .inr (1, [.int 0, .int nv, .int nr, .int ng, .int nd, .int nc, g6, g7, g8, g9, .int pr, g11, g12, g13, g14, g15, g16]))] s.heap := hP
  have hl := lv_entry ([.ref h0, .int rx, .ref o]) (n := 4) (Nat.le_of_ble_eq_true rfl)
  rw [lg_entry_eq]
  generalize (lg_sl ([.ref h0, .int rx, .ref o]) ++ List.replicate (4 - (lg_sl ([.ref h0, .int rx, .ref o])).length) Slot.unset).toArray = ls at hl ⊢
  have hl : lv_has ls 4 [(0, .ref h0), (1, .int rx), (2, .ref o)] := hl
  refine lv_aload_n hx hb dL_solve_0 rfl (lv_at hl 2 rfl) ?_
  refine lv_iconst (v := 0) hx hb dL_solve_1 (by decide) ?_
  refine lv_aload_n hx hb dL_solve_2 rfl (lv_at hl 0 rfl) ?_
  refine lv_iload_n hx hb dL_solve_3 rfl (lv_at hl 1 rfl) ?_
  have hPc := hP.sub (ws' := [(h0, .inr (11, [.ref a0, .ref a1, .ref a2, .ref a3, .int sl, f5, f6, f7, f8, f9, f10])), (a2, .inr (1, [.int 0, .int nv, .int nr, .int ng, .int nd, .int nc, g6, g7, g8, g9, .int pr, g11, g12, g13, g14, g15, g16]))]) [0, 1] rfl
  have hDc := hD.sub (ws' := [(h0, .inr (11, [.ref a0, .ref a1, .ref a2, .ref a3, .int sl, f5, f6, f7, f8, f9, f10])), (a2, .inr (1, [.int 0, .int nv, .int nr, .int ng, .int nd, .int nc, g6, g7, g8, g9, .int pr, g11, g12, g13, g14, g15, g16]))]) [0, 1] (by decide) rfl
  have hKc := hK.sub (tys' := []) [] rfl
  have hFc := va_free (wc := [(h0, .inr (11, [.ref a0, .ref a1, .ref a2, .ref a3, .int sl, f5, f6, f7, f8, f9, f10])), (a2, .inr (1, [.int 0, .int nv, .int nr, .int ng, .int nd, .int nc, g6, g7, g8, g9, .int pr, g11, g12, g13, g14, g15, g16]))]) hD hS hA [0, 1] rfl
  refine vx_calli (vx_runV (As := [.int rx]) (rest := [.int 0, .ref o]) ⟨hx, hb, hml, hown, hts⟩ (x_X11_solve l hst dC dI h0 a0 a1 a2 a3 sl f5 f6 f7 f8 f9 f10 nv nr ng nd nc g6 g7 g8 g9 pr g11 g12 g13 g14 g15 g16 rx s.heap.size) (cwV 1 hts gFL_solve rfl rfl rfl (by decide +kernel) ⟨by decide +kernel, by decide +kernel⟩) ⟨fun a U g mk q => by obtain ⟨q0, q1, qP, qK, qD, qU, qN, qngX11_161⟩ := q; exact ⟨q0, q1, qP, va_K.moved (u := U) (U := U.calling g mk a) (Vm.Alike.refl U.vm) qK, qD, vx_Zq.moved (u := U) (U := U.calling g mk a) (Vm.Alike.refl U.vm) qU, vx_Zq.moved (u := U) (U := U.calling g mk a) (Vm.Alike.refl U.vm) qN, fun w h => va_Nw.same (u := U) (U := U.calling g mk a) (ngX11_161_ot w h) rfl (qngX11_161 w h)⟩, va_recv hKc hPc (ci := 11) (q0 := 0) rfl rfl, fun U hU9 hW => ⟨rfl, by rw [hU9], by rw [hU9]; exact hPc, va_K.moved hW.alike hKc, hDc.weaken (fun _ _ _ _ => trivial), by rw [hU9]; exact ((hU.kept (fun a h1 h2 => hS.2.1 a h1 h2)).narrow hFc).moved hW.alike, by rw [hU9]; exact ((hN.kept (fun a h1 h2 => hS.2.1 a h1 h2)).narrow hFc).moved hW.alike, fun w h => cd_warm (ngX11_161_cd w h) hW (hngX11_161 w h)⟩⟩ rfl rfl hl.1 rfl (lv_room (Nat.le_of_ble_eq_true rfl)) dL_solve_4 ⟨by decide +kernel, by decide +kernel⟩) hS (fun q _ h => hFc q h) hFc (fun q _ h => hFc q h) (fun E ce q9 u t H1 locs1 ht hvm hw hB hz1 hk1 hS hc1 hc2 hc3 => ?_) (fun r u t H1 locs1 ht hvm hw hB hz1 hk1 hS => hw.elim)
  obtain ⟨hE, hP1, hK1, hD1⟩ := hB
  subst hE
  rw [ht] at hP1
  have hK1 := va_K.moved hvm.symm hK1
  obtain ⟨hP, hD⟩ := va_join (wr := []) (w1 := [(h0, .inr (11, [.ref a0, .ref a1, .ref a2, .ref a3, .int sl, f5, f6, f7, f8, f9, f10])), (a2, .inr (1, [.int 0, .int nv, .int nr, .int ng, .int nd, .int nc, g6, g7, g8, g9, .int pr, g11, g12, g13, g14, g15, g16]))]) hP hD [0, 1] [] rfl rfl (by decide) (by decide) hk1 hFc hP1 hD1
  have hP := hP.sub (ws' := [(h0, .inr (11, [.ref a0, .ref a1, .ref a2, .ref a3, .int sl, f5, f6, f7, f8, f9, f10])), (a2, .inr (1, [.int 0, .int nv, .int nr, .int ng, .int nd, .int nc, g6, g7, g8, g9, .int pr, g11, g12, g13, g14, g15, g16]))]) [0, 1] rfl
  have hD := hD.sub (ws' := [(h0, .inr (11, [.ref a0, .ref a1, .ref a2, .ref a3, .int sl, f5, f6, f7, f8, f9, f10])), (a2, .inr (1, [.int 0, .int nv, .int nr, .int ng, .int nd, .int nc, g6, g7, g8, g9, .int pr, g11, g12, g13, g14, g15, g16]))]) [0, 1] (by decide) rfl
  refine vx_widen (k := 1) (n := 6) (by decide +kernel) (by decide +kernel) ?_
  obtain ⟨rfl, -⟩ := hw
  refine vx_catch (own := RL) (name := "java/lang/IllegalStateException") hown [] ⟨0, 16, 19, 32⟩ [] (by rw [htb]; rfl) (fun z hz => absurd hz List.not_mem_nil) (by decide) (by decide) (hts (.classLink RL 32 "java/lang/IllegalStateException") (by decide +kernel)) (va_Nw.use rfl (hngX11_161 (.castable "java/lang/IllegalStateException" "java/lang/IllegalStateException") (by decide +kernel))) hc1 hc2 hc3 ?_
  generalize H1 = H at hP hS hc1 ⊢
  refine lv_astore_n (lv' := [(3, .ref q9), (0, .ref h0), (1, .int rx), (2, .ref o)]) hx hb dL_solve_19 rfl hl (by decide) rfl (fun ls hl => ?_)
  refine lv_iconst (v := 1) hx hb dL_solve_20 (by decide) ?_
  refine vx_ret ?_
  refine W.widen (k := 1) (n := 6) (by decide +kernel) (by decide +kernel) ?_
  exact W.iret (v := 1) hx hb hr (fun t ht hW => ⟨⟨1, (), rfl, rfl, by rw [ht]; exact hP, va_K.moved hW.alike hK, hD⟩, hS.F ht⟩) hS.2.2 dL_solve_21
def wsFL_count : List Cond := .codeWith yL_count cL_count 3 (some .int) [(0, 8, 11, 32)] :: (.classLink RL 32 "java/lang/IllegalStateException" :: wsV RL 48 RX11 yX11_count wsFX11_count)
theorem gFL_count : GoodIn wsFL_count (wsV RL 48 RX11 yX11_count wsFX11_count) := goodIn_sub (fun _ h => List.mem_cons_of_mem _ (List.mem_cons_of_mem _ h)) (by decide +kernel)
theorem dL_count_0 : decode cL_count 0 = .ok (.aload_n 1, 1) := by decide +kernel
theorem dL_count_1 : decode cL_count 1 = .ok (.iconst 0, 1) := by decide +kernel
theorem dL_count_2 : decode cL_count 2 = .ok (.aload_n 0, 1) := by decide +kernel
theorem dL_count_3 : decode cL_count 3 = .ok (.invokevirtual 48, 3) := by decide +kernel
theorem dL_count_11 : decode cL_count 11 = .ok (.astore_n 2, 1) := by decide +kernel
theorem dL_count_12 : decode cL_count 12 = .ok (.iconst 1, 1) := by decide +kernel
theorem dL_count_13 : decode cL_count 13 = .ok (.ireturn, 1) := by decide +kernel
set_option maxHeartbeats 4000000 in
set_option maxRecDepth 100000 in
/-- on a fresh object: caught -/
theorem x_L_count (l : Launch) (hst : l.stackTraces = false) (dC : Nat → ClassId) (dI : Nat → Nat → Nat) (h0 o : Nat) (a0 a1 a2 a3 : Nat) (sl : Int32) (f5 f6 f7 f8 f9 f10 : Value) (nv nr ng nd nc : Int32) (g6 g7 g8 g9 : Value) (pr : Int32) (g11 g12 g13 g14 g15 g16 : Value)  (sz : Nat) : vx_Met l yL_count wsFL_count ({ frames := 8, cells := 1, slots := 6, locals := 121 }) (va_Pc [.ref h0, .ref o] (fun U => U.heap.size = sz ∧ va_P (dC, dI) vwCl [(h0, .inr (11, [.ref a0, .ref a1, .ref a2, .ref a3, .int sl, f5, f6, f7, f8, f9, f10])), (a2, .inr (1, [.int 0, .int nv, .int nr, .int ng, .int nd, .int nc, g6, g7, g8, g9, .int pr, g11, g12, g13, g14, g15, g16]))] U.heap ∧ va_K (dC, dI) vwCl [] U ∧ va_D (fun _ => True) [(h0, .inr (11, [.ref a0, .ref a1, .ref a2, .ref a3, .int sl, f5, f6, f7, f8, f9, f10])), (a2, .inr (1, [.int 0, .int nv, .int nr, .int ng, .int nd, .int nc, g6, g7, g8, g9, .int pr, g11, g12, g13, g14, g15, g16]))] ∧ vx_Zq Bundle.tN "UNASSIGNED_STACK" Bundle.steD (va_A [(h0, .inr (11, [.ref a0, .ref a1, .ref a2, .ref a3, .int sl, f5, f6, f7, f8, f9, f10])), (a2, .inr (1, [.int 0, .int nv, .int nr, .int ng, .int nd, .int nc, g6, g7, g8, g9, .int pr, g11, g12, g13, g14, g15, g16]))] sz) U U.heap ∧ vx_Zq Bundle.tN "SUPPRESSED_SENTINEL" Bundle.listD (va_A [(h0, .inr (11, [.ref a0, .ref a1, .ref a2, .ref a3, .int sl, f5, f6, f7, f8, f9, f10])), (a2, .inr (1, [.int 0, .int nv, .int nr, .int ng, .int nd, .int nc, g6, g7, g8, g9, .int pr, g11, g12, g13, g14, g15, g16]))] sz) U U.heap ∧ (∀ w ∈ ngX11_161, va_Nw w U))) (va_Qi (fun (r : Int32) (_ : Unit) => r = 1) (fun _ t => va_P (dC, dI) vwCl [(h0, .inr (11, [.ref a0, .ref a1, .ref a2, .ref a3, .int sl, f5, f6, f7, f8, f9, f10])), (a2, .inr (1, [.int 0, .int nv, .int nr, .int ng, .int nd, .int nc, g6, g7, g8, g9, .int pr, g11, g12, g13, g14, g15, g16]))] t.heap ∧ va_K (dC, dI) vwCl [] t ∧ va_D (va_A [(h0, .inr (11, [.ref a0, .ref a1, .ref a2, .ref a3, .int sl, f5, f6, f7, f8, f9, f10])), (a2, .inr (1, [.int 0, .int nv, .int nr, .int ng, .int nd, .int nc, g6, g7, g8, g9, .int pr, g11, g12, g13, g14, g15, g16]))] sz) [(h0, .inr (11, [.ref a0, .ref a1, .ref a2, .ref a3, .int sl, f5, f6, f7, f8, f9, f10])), (a2, .inr (1, [.int 0, .int nv, .int nr, .int ng, .int nd, .int nc, g6, g7, g8, g9, .int pr, g11, g12, g13, g14, g15, g16]))]) (va_A [(h0, .inr (11, [.ref a0, .ref a1, .ref a2, .ref a3, .int sl, f5, f6, f7, f8, f9, f10])), (a2, .inr (1, [.int 0, .int nv, .int nr, .int ng, .int nd, .int nc, g6, g7, g8, g9, .int pr, g11, g12, g13, g14, g15, g16]))] sz)) (vx_X (fun n : String => (n = "java/lang/IllegalStateException" ∧ (False))) (fun E n t => E = n ∧ va_P (dC, dI) vwCl [(h0, .inr (11, [.ref a0, .ref a1, .ref a2, .ref a3, .int sl, f5, f6, f7, f8, f9, f10])), (a2, .inr (1, [.int 0, .int nv, .int nr, .int ng, .int nd, .int nc, g6, g7, g8, g9, .int pr, g11, g12, g13, g14, g15, g16]))] t.heap ∧ va_K (dC, dI) vwCl [] t ∧ va_D (va_A [(h0, .inr (11, [.ref a0, .ref a1, .ref a2, .ref a3, .int sl, f5, f6, f7, f8, f9, f10])), (a2, .inr (1, [.int 0, .int nv, .int nr, .int ng, .int nd, .int nc, g6, g7, g8, g9, .int pr, g11, g12, g13, g14, g15, g16]))] sz) [(h0, .inr (11, [.ref a0, .ref a1, .ref a2, .ref a3, .int sl, f5, f6, f7, f8, f9, f10])), (a2, .inr (1, [.int 0, .int nv, .int nr, .int ng, .int nd, .int nc, g6, g7, g8, g9, .int pr, g11, g12, g13, g14, g15, g16]))]) (va_A [(h0, .inr (11, [.ref a0, .ref a1, .ref a2, .ref a3, .int sl, f5, f6, f7, f8, f9, f10])), (a2, .inr (1, [.int 0, .int nv, .int nr, .int ng, .int nd, .int nc, g6, g7, g8, g9, .int pr, g11, g12, g13, g14, g15, g16]))] sz)) 1 6 (va_A [(h0, .inr (11, [.ref a0, .ref a1, .ref a2, .ref a3, .int sl, f5, f6, f7, f8, f9, f10])), (a2, .inr (1, [.int 0, .int nv, .int nr, .int ng, .int nd, .int nc, g6, g7, g8, g9, .int pr, g11, g12, g13, g14, g15, g16]))] sz) := by
  refine vx_ofWH (hh := [(0, 8, 11, 32)]) (cc := cL_count) (maxL := 3) (ret := (some .int)) (by decide) rfl ?_
  intro p e s m args below meth c s₁ B hml hv
  obtain ⟨rfl, hsz, hP, hK, hD0, hU, hN, hngX11_161⟩ := hv
  have hx := B.exec
  have hb := B.bytes
  have hr := B.returns
  have hts := atoms_spec (ws := wsFL_count) B.pre
  have hown : s.vm.findClass RL = some m.cls := findClass_of_methodNamed B.named
  have hlocks := B.notSynchronized
  have htb : c.exceptionTable.toList = tableOf [(0, 8, 11, 32)] := vx_table (x := yL_count) B (hts _ List.mem_cons_self)
  subst hsz
  have hD := hD0.self (sz := s.heap.size)
  generalize hAe : va_A [(h0, .inr (11, [.ref a0, .ref a1, .ref a2, .ref a3, .int sl, f5, f6, f7, f8, f9, f10])), (a2, .inr (1, [.int 0, .int nv, .int nr, .int ng, .int nd, .int nc, g6, g7, g8, g9, .int pr, g11, g12, g13, g14, g15, g16]))] s.heap.size = A at hD hU hN ⊢
  have hA : ∀ q : Nat, s.heap.size ≤ q → A q := fun q h => by rw [← hAe]; exact Or.inr h
  have hS : va_S A s.heap s.heap [] := va_S.rf
  have hP : va_P (dC, dI) vwCl [(h0, .inr (11, [.ref a0, .ref a1, .ref a2, .ref a3, .int sl, f5, f6, f7, f8, f9, f10])), (a2, .inr (1, [.int 0, .int nv, .int nr, .int ng, .int nd, .int nc, g6, g7, g8, g9, .int pr, g11, g12, g13, g14, g15, g16]))] s.heap := hP
  have hl := lv_entry ([.ref h0, .ref o]) (n := 3) (Nat.le_of_ble_eq_true rfl)
  rw [lg_entry_eq]
  generalize (lg_sl ([.ref h0, .ref o]) ++ List.replicate (3 - (lg_sl ([.ref h0, .ref o])).length) Slot.unset).toArray = ls at hl ⊢
  have hl : lv_has ls 3 [(0, .ref h0), (1, .ref o)] := hl
  refine lv_aload_n hx hb dL_count_0 rfl (lv_at hl 1 rfl) ?_
  refine lv_iconst (v := 0) hx hb dL_count_1 (by decide) ?_
  refine lv_aload_n hx hb dL_count_2 rfl (lv_at hl 0 rfl) ?_
  have hPc := hP.sub (ws' := [(h0, .inr (11, [.ref a0, .ref a1, .ref a2, .ref a3, .int sl, f5, f6, f7, f8, f9, f10])), (a2, .inr (1, [.int 0, .int nv, .int nr, .int ng, .int nd, .int nc, g6, g7, g8, g9, .int pr, g11, g12, g13, g14, g15, g16]))]) [0, 1] rfl
  have hDc := hD.sub (ws' := [(h0, .inr (11, [.ref a0, .ref a1, .ref a2, .ref a3, .int sl, f5, f6, f7, f8, f9, f10])), (a2, .inr (1, [.int 0, .int nv, .int nr, .int ng, .int nd, .int nc, g6, g7, g8, g9, .int pr, g11, g12, g13, g14, g15, g16]))]) [0, 1] (by decide) rfl
  have hKc := hK.sub (tys' := []) [] rfl
  have hFc := va_free (wc := [(h0, .inr (11, [.ref a0, .ref a1, .ref a2, .ref a3, .int sl, f5, f6, f7, f8, f9, f10])), (a2, .inr (1, [.int 0, .int nv, .int nr, .int ng, .int nd, .int nc, g6, g7, g8, g9, .int pr, g11, g12, g13, g14, g15, g16]))]) hD hS hA [0, 1] rfl
  refine vx_calli (vx_runV (As := []) (rest := [.int 0, .ref o]) ⟨hx, hb, hml, hown, hts⟩ (x_X11_count l hst dC dI h0 a0 a1 a2 a3 sl f5 f6 f7 f8 f9 f10 nv nr ng nd nc g6 g7 g8 g9 pr g11 g12 g13 g14 g15 g16 s.heap.size) (cwV 0 hts gFL_count rfl rfl rfl (by decide +kernel) ⟨by decide +kernel, by decide +kernel⟩) ⟨fun a U g mk q => by obtain ⟨q0, q1, qP, qK, qD, qU, qN, qngX11_161⟩ := q; exact ⟨q0, q1, qP, va_K.moved (u := U) (U := U.calling g mk a) (Vm.Alike.refl U.vm) qK, qD, vx_Zq.moved (u := U) (U := U.calling g mk a) (Vm.Alike.refl U.vm) qU, vx_Zq.moved (u := U) (U := U.calling g mk a) (Vm.Alike.refl U.vm) qN, fun w h => va_Nw.same (u := U) (U := U.calling g mk a) (ngX11_161_ot w h) rfl (qngX11_161 w h)⟩, va_recv hKc hPc (ci := 11) (q0 := 0) rfl rfl, fun U hU9 hW => ⟨rfl, by rw [hU9], by rw [hU9]; exact hPc, va_K.moved hW.alike hKc, hDc.weaken (fun _ _ _ _ => trivial), by rw [hU9]; exact ((hU.kept (fun a h1 h2 => hS.2.1 a h1 h2)).narrow hFc).moved hW.alike, by rw [hU9]; exact ((hN.kept (fun a h1 h2 => hS.2.1 a h1 h2)).narrow hFc).moved hW.alike, fun w h => cd_warm (ngX11_161_cd w h) hW (hngX11_161 w h)⟩⟩ rfl rfl hl.1 rfl (lv_room (Nat.le_of_ble_eq_true rfl)) dL_count_3 ⟨by decide +kernel, by decide +kernel⟩) hS (fun q _ h => hFc q h) hFc (fun q _ h => hFc q h) (fun E ce q9 u t H1 locs1 ht hvm hw hB hz1 hk1 hS hc1 hc2 hc3 => ?_) (fun r u t H1 locs1 ht hvm hw hB hz1 hk1 hS => hw.elim)
  obtain ⟨hE, hP1, hK1, hD1⟩ := hB
  subst hE
  rw [ht] at hP1
  have hK1 := va_K.moved hvm.symm hK1
  obtain ⟨hP, hD⟩ := va_join (wr := []) (w1 := [(h0, .inr (11, [.ref a0, .ref a1, .ref a2, .ref a3, .int sl, f5, f6, f7, f8, f9, f10])), (a2, .inr (1, [.int 0, .int nv, .int nr, .int ng, .int nd, .int nc, g6, g7, g8, g9, .int pr, g11, g12, g13, g14, g15, g16]))]) hP hD [0, 1] [] rfl rfl (by decide) (by decide) hk1 hFc hP1 hD1
  have hP := hP.sub (ws' := [(h0, .inr (11, [.ref a0, .ref a1, .ref a2, .ref a3, .int sl, f5, f6, f7, f8, f9, f10])), (a2, .inr (1, [.int 0, .int nv, .int nr, .int ng, .int nd, .int nc, g6, g7, g8, g9, .int pr, g11, g12, g13, g14, g15, g16]))]) [0, 1] rfl
  have hD := hD.sub (ws' := [(h0, .inr (11, [.ref a0, .ref a1, .ref a2, .ref a3, .int sl, f5, f6, f7, f8, f9, f10])), (a2, .inr (1, [.int 0, .int nv, .int nr, .int ng, .int nd, .int nc, g6, g7, g8, g9, .int pr, g11, g12, g13, g14, g15, g16]))]) [0, 1] (by decide) rfl
  refine vx_widen (k := 1) (n := 6) (by decide +kernel) (by decide +kernel) ?_
  obtain ⟨rfl, -⟩ := hw
  refine vx_catch (own := RL) (name := "java/lang/IllegalStateException") hown [] ⟨0, 8, 11, 32⟩ [] (by rw [htb]; rfl) (fun z hz => absurd hz List.not_mem_nil) (by decide) (by decide) (hts (.classLink RL 32 "java/lang/IllegalStateException") (by decide +kernel)) (va_Nw.use rfl (hngX11_161 (.castable "java/lang/IllegalStateException" "java/lang/IllegalStateException") (by decide +kernel))) hc1 hc2 hc3 ?_
  generalize H1 = H at hP hS hc1 ⊢
  refine lv_astore_n (lv' := [(2, .ref q9), (0, .ref h0), (1, .ref o)]) hx hb dL_count_11 rfl hl (by decide) rfl (fun ls hl => ?_)
  refine lv_iconst (v := 1) hx hb dL_count_12 (by decide) ?_
  refine vx_ret ?_
  refine W.widen (k := 1) (n := 6) (by decide +kernel) (by decide +kernel) ?_
  exact W.iret (v := 1) hx hb hr (fun t ht hW => ⟨⟨1, (), rfl, rfl, by rw [ht]; exact hP, va_K.moved hW.alike hK, hD⟩, hS.F ht⟩) hS.2.2 dL_count_13
def wsFL_counted : List Cond := .codeWith yL_counted cL_counted 5 (some .int) [(0, 10, 13, 32)] :: (.classLink RL 32 "java/lang/IllegalStateException" :: wsV RL 51 RX11 yX11_counted wsFX11_counted)
theorem gFL_counted : GoodIn wsFL_counted (wsV RL 51 RX11 yX11_counted wsFX11_counted) := goodIn_sub (fun _ h => List.mem_cons_of_mem _ (List.mem_cons_of_mem _ h)) (by decide +kernel)
theorem dL_counted_0 : decode cL_counted 0 = .ok (.aload_n 3, 1) := by decide +kernel
theorem dL_counted_1 : decode cL_counted 1 = .ok (.iconst 0, 1) := by decide +kernel
theorem dL_counted_2 : decode cL_counted 2 = .ok (.aload_n 0, 1) := by decide +kernel
theorem dL_counted_3 : decode cL_counted 3 = .ok (.iload_n 1, 1) := by decide +kernel
theorem dL_counted_4 : decode cL_counted 4 = .ok (.iload_n 2, 1) := by decide +kernel
theorem dL_counted_5 : decode cL_counted 5 = .ok (.invokevirtual 51, 3) := by decide +kernel
theorem dL_counted_13 : decode cL_counted 13 = .ok (.astore 4, 2) := by decide +kernel
theorem dL_counted_15 : decode cL_counted 15 = .ok (.iconst 1, 1) := by decide +kernel
theorem dL_counted_16 : decode cL_counted 16 = .ok (.ireturn, 1) := by decide +kernel
set_option maxHeartbeats 4000000 in
set_option maxRecDepth 100000 in
/-- on a fresh object: caught -/
theorem x_L_counted (l : Launch) (hst : l.stackTraces = false) (dC : Nat → ClassId) (dI : Nat → Nat → Nat) (h0 o : Nat) (a0 a1 a2 a3 : Nat) (sl : Int32) (f5 f6 f7 f8 f9 f10 : Value) (nv nr ng nd nc : Int32) (g6 g7 g8 g9 : Value) (pr : Int32) (g11 g12 g13 g14 g15 g16 : Value) (ck : Int32) (cv : Int32) (sz : Nat) : vx_Met l yL_counted wsFL_counted ({ frames := 8, cells := 1, slots := 6, locals := 123 }) (va_Pc [.ref h0, .int ck, .int cv, .ref o] (fun U => U.heap.size = sz ∧ va_P (dC, dI) vwCl [(h0, .inr (11, [.ref a0, .ref a1, .ref a2, .ref a3, .int sl, f5, f6, f7, f8, f9, f10])), (a2, .inr (1, [.int 0, .int nv, .int nr, .int ng, .int nd, .int nc, g6, g7, g8, g9, .int pr, g11, g12, g13, g14, g15, g16]))] U.heap ∧ va_K (dC, dI) vwCl [] U ∧ va_D (fun _ => True) [(h0, .inr (11, [.ref a0, .ref a1, .ref a2, .ref a3, .int sl, f5, f6, f7, f8, f9, f10])), (a2, .inr (1, [.int 0, .int nv, .int nr, .int ng, .int nd, .int nc, g6, g7, g8, g9, .int pr, g11, g12, g13, g14, g15, g16]))] ∧ vx_Zq Bundle.tN "UNASSIGNED_STACK" Bundle.steD (va_A [(h0, .inr (11, [.ref a0, .ref a1, .ref a2, .ref a3, .int sl, f5, f6, f7, f8, f9, f10])), (a2, .inr (1, [.int 0, .int nv, .int nr, .int ng, .int nd, .int nc, g6, g7, g8, g9, .int pr, g11, g12, g13, g14, g15, g16]))] sz) U U.heap ∧ vx_Zq Bundle.tN "SUPPRESSED_SENTINEL" Bundle.listD (va_A [(h0, .inr (11, [.ref a0, .ref a1, .ref a2, .ref a3, .int sl, f5, f6, f7, f8, f9, f10])), (a2, .inr (1, [.int 0, .int nv, .int nr, .int ng, .int nd, .int nc, g6, g7, g8, g9, .int pr, g11, g12, g13, g14, g15, g16]))] sz) U U.heap ∧ (∀ w ∈ ngX11_161, va_Nw w U))) (va_Qi (fun (r : Int32) (_ : Unit) => r = 1) (fun _ t => va_P (dC, dI) vwCl [(h0, .inr (11, [.ref a0, .ref a1, .ref a2, .ref a3, .int sl, f5, f6, f7, f8, f9, f10])), (a2, .inr (1, [.int 0, .int nv, .int nr, .int ng, .int nd, .int nc, g6, g7, g8, g9, .int pr, g11, g12, g13, g14, g15, g16]))] t.heap ∧ va_K (dC, dI) vwCl [] t ∧ va_D (va_A [(h0, .inr (11, [.ref a0, .ref a1, .ref a2, .ref a3, .int sl, f5, f6, f7, f8, f9, f10])), (a2, .inr (1, [.int 0, .int nv, .int nr, .int ng, .int nd, .int nc, g6, g7, g8, g9, .int pr, g11, g12, g13, g14, g15, g16]))] sz) [(h0, .inr (11, [.ref a0, .ref a1, .ref a2, .ref a3, .int sl, f5, f6, f7, f8, f9, f10])), (a2, .inr (1, [.int 0, .int nv, .int nr, .int ng, .int nd, .int nc, g6, g7, g8, g9, .int pr, g11, g12, g13, g14, g15, g16]))]) (va_A [(h0, .inr (11, [.ref a0, .ref a1, .ref a2, .ref a3, .int sl, f5, f6, f7, f8, f9, f10])), (a2, .inr (1, [.int 0, .int nv, .int nr, .int ng, .int nd, .int nc, g6, g7, g8, g9, .int pr, g11, g12, g13, g14, g15, g16]))] sz)) (vx_X (fun n : String => (n = "java/lang/IllegalStateException" ∧ (False))) (fun E n t => E = n ∧ va_P (dC, dI) vwCl [(h0, .inr (11, [.ref a0, .ref a1, .ref a2, .ref a3, .int sl, f5, f6, f7, f8, f9, f10])), (a2, .inr (1, [.int 0, .int nv, .int nr, .int ng, .int nd, .int nc, g6, g7, g8, g9, .int pr, g11, g12, g13, g14, g15, g16]))] t.heap ∧ va_K (dC, dI) vwCl [] t ∧ va_D (va_A [(h0, .inr (11, [.ref a0, .ref a1, .ref a2, .ref a3, .int sl, f5, f6, f7, f8, f9, f10])), (a2, .inr (1, [.int 0, .int nv, .int nr, .int ng, .int nd, .int nc, g6, g7, g8, g9, .int pr, g11, g12, g13, g14, g15, g16]))] sz) [(h0, .inr (11, [.ref a0, .ref a1, .ref a2, .ref a3, .int sl, f5, f6, f7, f8, f9, f10])), (a2, .inr (1, [.int 0, .int nv, .int nr, .int ng, .int nd, .int nc, g6, g7, g8, g9, .int pr, g11, g12, g13, g14, g15, g16]))]) (va_A [(h0, .inr (11, [.ref a0, .ref a1, .ref a2, .ref a3, .int sl, f5, f6, f7, f8, f9, f10])), (a2, .inr (1, [.int 0, .int nv, .int nr, .int ng, .int nd, .int nc, g6, g7, g8, g9, .int pr, g11, g12, g13, g14, g15, g16]))] sz)) 1 6 (va_A [(h0, .inr (11, [.ref a0, .ref a1, .ref a2, .ref a3, .int sl, f5, f6, f7, f8, f9, f10])), (a2, .inr (1, [.int 0, .int nv, .int nr, .int ng, .int nd, .int nc, g6, g7, g8, g9, .int pr, g11, g12, g13, g14, g15, g16]))] sz) := by
  refine vx_ofWH (hh := [(0, 10, 13, 32)]) (cc := cL_counted) (maxL := 5) (ret := (some .int)) (by decide) rfl ?_
  intro p e s m args below meth c s₁ B hml hv
  obtain ⟨rfl, hsz, hP, hK, hD0, hU, hN, hngX11_161⟩ := hv
  have hx := B.exec
  have hb := B.bytes
  have hr := B.returns
  have hts := atoms_spec (ws := wsFL_counted) B.pre
  have hown : s.vm.findClass RL = some m.cls := findClass_of_methodNamed B.named
  have hlocks := B.notSynchronized
  have htb : c.exceptionTable.toList = tableOf [(0, 10, 13, 32)] := vx_table (x := yL_counted) B (hts _ List.mem_cons_self)
  subst hsz
  have hD := hD0.self (sz := s.heap.size)
  generalize hAe : va_A [(h0, .inr (11, [.ref a0, .ref a1, .ref a2, .ref a3, .int sl, f5, f6, f7, f8, f9, f10])), (a2, .inr (1, [.int 0, .int nv, .int nr, .int ng, .int nd, .int nc, g6, g7, g8, g9, .int pr, g11, g12, g13, g14, g15, g16]))] s.heap.size = A at hD hU hN ⊢
  have hA : ∀ q : Nat, s.heap.size ≤ q → A q := fun q h => by rw [← hAe]; exact Or.inr h
  have hS : va_S A s.heap s.heap [] := va_S.rf
  have hP : va_P (dC, dI) vwCl [(h0, .inr (11, [.ref a0, .ref a1, .ref a2, .ref a3, .int sl, f5, f6, f7, f8, f9, f10])), (a2, .inr (1, [.int 0, .int nv, .int nr, .int ng, .int nd, .int nc, g6, g7, g8, g9, .int pr, g11, g12, g13, g14, g15, g16]))] s.heap := hP
  have hl := lv_entry ([.ref h0, .int ck, .int cv, .ref o]) (n := 5) (Nat.le_of_ble_eq_true rfl)
  rw [lg_entry_eq]
  generalize (lg_sl ([.ref h0, .int ck, .int cv, .ref o]) ++ List.replicate (5 - (lg_sl ([.ref h0, .int ck, .int cv, .ref o])).length) Slot.unset).toArray = ls at hl ⊢
  have hl : lv_has ls 5 [(0, .ref h0), (1, .int ck), (2, .int cv), (3, .ref o)] := hl
  refine lv_aload_n hx hb dL_counted_0 rfl (lv_at hl 3 rfl) ?_
  refine lv_iconst (v := 0) hx hb dL_counted_1 (by decide) ?_
  refine lv_aload_n hx hb dL_counted_2 rfl (lv_at hl 0 rfl) ?_
  refine lv_iload_n hx hb dL_counted_3 rfl (lv_at hl 1 rfl) ?_
  refine lv_iload_n hx hb dL_counted_4 rfl (lv_at hl 2 rfl) ?_
  have hPc := hP.sub (ws' := [(h0, .inr (11, [.ref a0, .ref a1, .ref a2, .ref a3, .int sl, f5, f6, f7, f8, f9, f10])), (a2, .inr (1, [.int 0, .int nv, .int nr, .int ng, .int nd, .int nc, g6, g7, g8, g9, .int pr, g11, g12, g13, g14, g15, g16]))]) [0, 1] rfl
  have hDc := hD.sub (ws' := [(h0, .inr (11, [.ref a0, .ref a1, .ref a2, .ref a3, .int sl, f5, f6, f7, f8, f9, f10])), (a2, .inr (1, [.int 0, .int nv, .int nr, .int ng, .int nd, .int nc, g6, g7, g8, g9, .int pr, g11, g12, g13, g14, g15, g16]))]) [0, 1] (by decide) rfl
  have hKc := hK.sub (tys' := []) [] rfl
  have hFc := va_free (wc := [(h0, .inr (11, [.ref a0, .ref a1, .ref a2, .ref a3, .int sl, f5, f6, f7, f8, f9, f10])), (a2, .inr (1, [.int 0, .int nv, .int nr, .int ng, .int nd, .int nc, g6, g7, g8, g9, .int pr, g11, g12, g13, g14, g15, g16]))]) hD hS hA [0, 1] rfl
  refine vx_calli (vx_runV (As := [.int ck, .int cv]) (rest := [.int 0, .ref o]) ⟨hx, hb, hml, hown, hts⟩ (x_X11_counted l hst dC dI h0 a0 a1 a2 a3 sl f5 f6 f7 f8 f9 f10 nv nr ng nd nc g6 g7 g8 g9 pr g11 g12 g13 g14 g15 g16 ck cv s.heap.size) (cwV 2 hts gFL_counted rfl rfl rfl (by decide +kernel) ⟨by decide +kernel, by decide +kernel⟩) ⟨fun a U g mk q => by obtain ⟨q0, q1, qP, qK, qD, qU, qN, qngX11_161⟩ := q; exact ⟨q0, q1, qP, va_K.moved (u := U) (U := U.calling g mk a) (Vm.Alike.refl U.vm) qK, qD, vx_Zq.moved (u := U) (U := U.calling g mk a) (Vm.Alike.refl U.vm) qU, vx_Zq.moved (u := U) (U := U.calling g mk a) (Vm.Alike.refl U.vm) qN, fun w h => va_Nw.same (u := U) (U := U.calling g mk a) (ngX11_161_ot w h) rfl (qngX11_161 w h)⟩, va_recv hKc hPc (ci := 11) (q0 := 0) rfl rfl, fun U hU9 hW => ⟨rfl, by rw [hU9], by rw [hU9]; exact hPc, va_K.moved hW.alike hKc, hDc.weaken (fun _ _ _ _ => trivial), by rw [hU9]; exact ((hU.kept (fun a h1 h2 => hS.2.1 a h1 h2)).narrow hFc).moved hW.alike, by rw [hU9]; exact ((hN.kept (fun a h1 h2 => hS.2.1 a h1 h2)).narrow hFc).moved hW.alike, fun w h => cd_warm (ngX11_161_cd w h) hW (hngX11_161 w h)⟩⟩ rfl rfl hl.1 rfl (lv_room (Nat.le_of_ble_eq_true rfl)) dL_counted_5 ⟨by decide +kernel, by decide +kernel⟩) hS (fun q _ h => hFc q h) hFc (fun q _ h => hFc q h) (fun E ce q9 u t H1 locs1 ht hvm hw hB hz1 hk1 hS hc1 hc2 hc3 => ?_) (fun r u t H1 locs1 ht hvm hw hB hz1 hk1 hS => hw.elim)
  obtain ⟨hE, hP1, hK1, hD1⟩ := hB
  subst hE
  rw [ht] at hP1
  have hK1 := va_K.moved hvm.symm hK1
  obtain ⟨hP, hD⟩ := va_join (wr := []) (w1 := [(h0, .inr (11, [.ref a0, .ref a1, .ref a2, .ref a3, .int sl, f5, f6, f7, f8, f9, f10])), (a2, .inr (1, [.int 0, .int nv, .int nr, .int ng, .int nd, .int nc, g6, g7, g8, g9, .int pr, g11, g12, g13, g14, g15, g16]))]) hP hD [0, 1] [] rfl rfl (by decide) (by decide) hk1 hFc hP1 hD1
  have hP := hP.sub (ws' := [(h0, .inr (11, [.ref a0, .ref a1, .ref a2, .ref a3, .int sl, f5, f6, f7, f8, f9, f10])), (a2, .inr (1, [.int 0, .int nv, .int nr, .int ng, .int nd, .int nc, g6, g7, g8, g9, .int pr, g11, g12, g13, g14, g15, g16]))]) [0, 1] rfl
  have hD := hD.sub (ws' := [(h0, .inr (11, [.ref a0, .ref a1, .ref a2, .ref a3, .int sl, f5, f6, f7, f8, f9, f10])), (a2, .inr (1, [.int 0, .int nv, .int nr, .int ng, .int nd, .int nc, g6, g7, g8, g9, .int pr, g11, g12, g13, g14, g15, g16]))]) [0, 1] (by decide) rfl
  refine vx_widen (k := 1) (n := 6) (by decide +kernel) (by decide +kernel) ?_
  obtain ⟨rfl, -⟩ := hw
  refine vx_catch (own := RL) (name := "java/lang/IllegalStateException") hown [] ⟨0, 10, 13, 32⟩ [] (by rw [htb]; rfl) (fun z hz => absurd hz List.not_mem_nil) (by decide) (by decide) (hts (.classLink RL 32 "java/lang/IllegalStateException") (by decide +kernel)) (va_Nw.use rfl (hngX11_161 (.castable "java/lang/IllegalStateException" "java/lang/IllegalStateException") (by decide +kernel))) hc1 hc2 hc3 ?_
  generalize H1 = H at hP hS hc1 ⊢
  refine lv_astore (lv' := [(4, .ref q9), (0, .ref h0), (1, .int ck), (2, .int cv), (3, .ref o)]) hx hb dL_counted_13 hl (by decide) rfl (fun ls hl => ?_)
  refine lv_iconst (v := 1) hx hb dL_counted_15 (by decide) ?_
  refine vx_ret ?_
  refine W.widen (k := 1) (n := 6) (by decide +kernel) (by decide +kernel) ?_
  exact W.iret (v := 1) hx hb hr (fun t ht hW => ⟨⟨1, (), rfl, rfl, by rw [ht]; exact hP, va_K.moved hW.alike hK, hD⟩, hS.F ht⟩) hS.2.2 dL_counted_16
def wsFL_prove : List Cond := .codeWith yL_prove cL_prove 3 (some .int) [(0, 8, 11, 32)] :: (.classLink RL 32 "java/lang/IllegalStateException" :: wsV RL 54 RX11 yX11_prove wsFX11_prove)
theorem gFL_prove : GoodIn wsFL_prove (wsV RL 54 RX11 yX11_prove wsFX11_prove) := goodIn_sub (fun _ h => List.mem_cons_of_mem _ (List.mem_cons_of_mem _ h)) (by decide +kernel)
theorem dL_prove_0 : decode cL_prove 0 = .ok (.aload_n 1, 1) := by decide +kernel
theorem dL_prove_1 : decode cL_prove 1 = .ok (.iconst 0, 1) := by decide +kernel
theorem dL_prove_2 : decode cL_prove 2 = .ok (.aload_n 0, 1) := by decide +kernel
theorem dL_prove_3 : decode cL_prove 3 = .ok (.invokevirtual 54, 3) := by decide +kernel
theorem dL_prove_11 : decode cL_prove 11 = .ok (.astore_n 2, 1) := by decide +kernel
theorem dL_prove_12 : decode cL_prove 12 = .ok (.iconst 1, 1) := by decide +kernel
theorem dL_prove_13 : decode cL_prove 13 = .ok (.ireturn, 1) := by decide +kernel
set_option maxHeartbeats 4000000 in
set_option maxRecDepth 100000 in
/-- on a fresh object: caught -/
theorem x_L_prove (l : Launch) (hst : l.stackTraces = false) (dC : Nat → ClassId) (dI : Nat → Nat → Nat) (h0 o : Nat) (a0 a1 a2 a3 : Nat) (sl : Int32) (f5 f6 f7 f8 f9 f10 : Value) (nv nr ng nd nc : Int32) (g6 g7 g8 g9 : Value) (pr : Int32) (g11 g12 g13 g14 g15 g16 : Value)  (sz : Nat) : vx_Met l yL_prove wsFL_prove ({ frames := 8, cells := 1, slots := 6, locals := 121 }) (va_Pc [.ref h0, .ref o] (fun U => U.heap.size = sz ∧ va_P (dC, dI) vwCl [(h0, .inr (11, [.ref a0, .ref a1, .ref a2, .ref a3, .int sl, f5, f6, f7, f8, f9, f10])), (a2, .inr (1, [.int 0, .int nv, .int nr, .int ng, .int nd, .int nc, g6, g7, g8, g9, .int pr, g11, g12, g13, g14, g15, g16]))] U.heap ∧ va_K (dC, dI) vwCl [] U ∧ va_D (fun _ => True) [(h0, .inr (11, [.ref a0, .ref a1, .ref a2, .ref a3, .int sl, f5, f6, f7, f8, f9, f10])), (a2, .inr (1, [.int 0, .int nv, .int nr, .int ng, .int nd, .int nc, g6, g7, g8, g9, .int pr, g11, g12, g13, g14, g15, g16]))] ∧ vx_Zq Bundle.tN "UNASSIGNED_STACK" Bundle.steD (va_A [(h0, .inr (11, [.ref a0, .ref a1, .ref a2, .ref a3, .int sl, f5, f6, f7, f8, f9, f10])), (a2, .inr (1, [.int 0, .int nv, .int nr, .int ng, .int nd, .int nc, g6, g7, g8, g9, .int pr, g11, g12, g13, g14, g15, g16]))] sz) U U.heap ∧ vx_Zq Bundle.tN "SUPPRESSED_SENTINEL" Bundle.listD (va_A [(h0, .inr (11, [.ref a0, .ref a1, .ref a2, .ref a3, .int sl, f5, f6, f7, f8, f9, f10])), (a2, .inr (1, [.int 0, .int nv, .int nr, .int ng, .int nd, .int nc, g6, g7, g8, g9, .int pr, g11, g12, g13, g14, g15, g16]))] sz) U U.heap ∧ (∀ w ∈ ngX11_161, va_Nw w U))) (va_Qi (fun (r : Int32) (_ : Unit) => r = 1) (fun _ t => va_P (dC, dI) vwCl [(h0, .inr (11, [.ref a0, .ref a1, .ref a2, .ref a3, .int sl, f5, f6, f7, f8, f9, f10])), (a2, .inr (1, [.int 0, .int nv, .int nr, .int ng, .int nd, .int nc, g6, g7, g8, g9, .int pr, g11, g12, g13, g14, g15, g16]))] t.heap ∧ va_K (dC, dI) vwCl [] t ∧ va_D (va_A [(h0, .inr (11, [.ref a0, .ref a1, .ref a2, .ref a3, .int sl, f5, f6, f7, f8, f9, f10])), (a2, .inr (1, [.int 0, .int nv, .int nr, .int ng, .int nd, .int nc, g6, g7, g8, g9, .int pr, g11, g12, g13, g14, g15, g16]))] sz) [(h0, .inr (11, [.ref a0, .ref a1, .ref a2, .ref a3, .int sl, f5, f6, f7, f8, f9, f10])), (a2, .inr (1, [.int 0, .int nv, .int nr, .int ng, .int nd, .int nc, g6, g7, g8, g9, .int pr, g11, g12, g13, g14, g15, g16]))]) (va_A [(h0, .inr (11, [.ref a0, .ref a1, .ref a2, .ref a3, .int sl, f5, f6, f7, f8, f9, f10])), (a2, .inr (1, [.int 0, .int nv, .int nr, .int ng, .int nd, .int nc, g6, g7, g8, g9, .int pr, g11, g12, g13, g14, g15, g16]))] sz)) (vx_X (fun n : String => (n = "java/lang/IllegalStateException" ∧ (False))) (fun E n t => E = n ∧ va_P (dC, dI) vwCl [(h0, .inr (11, [.ref a0, .ref a1, .ref a2, .ref a3, .int sl, f5, f6, f7, f8, f9, f10])), (a2, .inr (1, [.int 0, .int nv, .int nr, .int ng, .int nd, .int nc, g6, g7, g8, g9, .int pr, g11, g12, g13, g14, g15, g16]))] t.heap ∧ va_K (dC, dI) vwCl [] t ∧ va_D (va_A [(h0, .inr (11, [.ref a0, .ref a1, .ref a2, .ref a3, .int sl, f5, f6, f7, f8, f9, f10])), (a2, .inr (1, [.int 0, .int nv, .int nr, .int ng, .int nd, .int nc, g6, g7, g8, g9, .int pr, g11, g12, g13, g14, g15, g16]))] sz) [(h0, .inr (11, [.ref a0, .ref a1, .ref a2, .ref a3, .int sl, f5, f6, f7, f8, f9, f10])), (a2, .inr (1, [.int 0, .int nv, .int nr, .int ng, .int nd, .int nc, g6, g7, g8, g9, .int pr, g11, g12, g13, g14, g15, g16]))]) (va_A [(h0, .inr (11, [.ref a0, .ref a1, .ref a2, .ref a3, .int sl, f5, f6, f7, f8, f9, f10])), (a2, .inr (1, [.int 0, .int nv, .int nr, .int ng, .int nd, .int nc, g6, g7, g8, g9, .int pr, g11, g12, g13, g14, g15, g16]))] sz)) 1 6 (va_A [(h0, .inr (11, [.ref a0, .ref a1, .ref a2, .ref a3, .int sl, f5, f6, f7, f8, f9, f10])), (a2, .inr (1, [.int 0, .int nv, .int nr, .int ng, .int nd, .int nc, g6, g7, g8, g9, .int pr, g11, g12, g13, g14, g15, g16]))] sz) := by
  refine vx_ofWH (hh := [(0, 8, 11, 32)]) (cc := cL_prove) (maxL := 3) (ret := (some .int)) (by decide) rfl ?_
  intro p e s m args below meth c s₁ B hml hv
  obtain ⟨rfl, hsz, hP, hK, hD0, hU, hN, hngX11_161⟩ := hv
  have hx := B.exec
  have hb := B.bytes
  have hr := B.returns
  have hts := atoms_spec (ws := wsFL_prove) B.pre
  have hown : s.vm.findClass RL = some m.cls := findClass_of_methodNamed B.named
  have hlocks := B.notSynchronized
  have htb : c.exceptionTable.toList = tableOf [(0, 8, 11, 32)] := vx_table (x := yL_prove) B (hts _ List.mem_cons_self)
  subst hsz
  have hD := hD0.self (sz := s.heap.size)
  generalize hAe : va_A [(h0, .inr (11, [.ref a0, .ref a1, .ref a2, .ref a3, .int sl, f5, f6, f7, f8, f9, f10])), (a2, .inr (1, [.int 0, .int nv, .int nr, .int ng, .int nd, .int nc, g6, g7, g8, g9, .int pr, g11, g12, g13, g14, g15, g16]))] s.heap.size = A at hD hU hN ⊢
  have hA : ∀ q : Nat, s.heap.size ≤ q → A q := fun q h => by rw [← hAe]; exact Or.inr h
  have hS : va_S A s.heap s.heap [] := va_S.rf
  have hP : va_P (dC, dI) vwCl [(h0, .inr (11, [.ref a0, .ref a1, .ref a2, .ref a3, .int sl, f5, f6, f7, f8, f9, f10])), (a2, .inr (1, [.int 0, .int nv, .int nr, .int ng, .int nd, .int nc, g6, g7, g8, g9, .int pr, g11, g12, g13, g14, g15, g16]))] s.heap := hP
  have hl := lv_entry ([.ref h0, .ref o]) (n := 3) (Nat.le_of_ble_eq_true rfl)
  rw [lg_entry_eq]
  generalize (lg_sl ([.ref h0, .ref o]) ++ List.replicate (3 - (lg_sl ([.ref h0, .ref o])).length) Slot.unset).toArray = ls at hl ⊢
  have hl : lv_has ls 3 [(0, .ref h0), (1, .ref o)] := hl
  refine lv_aload_n hx hb dL_prove_0 rfl (lv_at hl 1 rfl) ?_
  refine lv_iconst (v := 0) hx hb dL_prove_1 (by decide) ?_
  refine lv_aload_n hx hb dL_prove_2 rfl (lv_at hl 0 rfl) ?_
  have hPc := hP.sub (ws' := [(h0, .inr (11, [.ref a0, .ref a1, .ref a2, .ref a3, .int sl, f5, f6, f7, f8, f9, f10])), (a2, .inr (1, [.int 0, .int nv, .int nr, .int ng, .int nd, .int nc, g6, g7, g8, g9, .int pr, g11, g12, g13, g14, g15, g16]))]) [0, 1] rfl
  have hDc := hD.sub (ws' := [(h0, .inr (11, [.ref a0, .ref a1, .ref a2, .ref a3, .int sl, f5, f6, f7, f8, f9, f10])), (a2, .inr (1, [.int 0, .int nv, .int nr, .int ng, .int nd, .int nc, g6, g7, g8, g9, .int pr, g11, g12, g13, g14, g15, g16]))]) [0, 1] (by decide) rfl
  have hKc := hK.sub (tys' := []) [] rfl
  have hFc := va_free (wc := [(h0, .inr (11, [.ref a0, .ref a1, .ref a2, .ref a3, .int sl, f5, f6, f7, f8, f9, f10])), (a2, .inr (1, [.int 0, .int nv, .int nr, .int ng, .int nd, .int nc, g6, g7, g8, g9, .int pr, g11, g12, g13, g14, g15, g16]))]) hD hS hA [0, 1] rfl
  refine vx_calli (vx_runV (As := []) (rest := [.int 0, .ref o]) ⟨hx, hb, hml, hown, hts⟩ (x_X11_prove l hst dC dI h0 a0 a1 a2 a3 sl f5 f6 f7 f8 f9 f10 nv nr ng nd nc g6 g7 g8 g9 pr g11 g12 g13 g14 g15 g16 s.heap.size) (cwV 0 hts gFL_prove rfl rfl rfl (by decide +kernel) ⟨by decide +kernel, by decide +kernel⟩) ⟨fun a U g mk q => by obtain ⟨q0, q1, qP, qK, qD, qU, qN, qngX11_161⟩ := q; exact ⟨q0, q1, qP, va_K.moved (u := U) (U := U.calling g mk a) (Vm.Alike.refl U.vm) qK, qD, vx_Zq.moved (u := U) (U := U.calling g mk a) (Vm.Alike.refl U.vm) qU, vx_Zq.moved (u := U) (U := U.calling g mk a) (Vm.Alike.refl U.vm) qN, fun w h => va_Nw.same (u := U) (U := U.calling g mk a) (ngX11_161_ot w h) rfl (qngX11_161 w h)⟩, va_recv hKc hPc (ci := 11) (q0 := 0) rfl rfl, fun U hU9 hW => ⟨rfl, by rw [hU9], by rw [hU9]; exact hPc, va_K.moved hW.alike hKc, hDc.weaken (fun _ _ _ _ => trivial), by rw [hU9]; exact ((hU.kept (fun a h1 h2 => hS.2.1 a h1 h2)).narrow hFc).moved hW.alike, by rw [hU9]; exact ((hN.kept (fun a h1 h2 => hS.2.1 a h1 h2)).narrow hFc).moved hW.alike, fun w h => cd_warm (ngX11_161_cd w h) hW (hngX11_161 w h)⟩⟩ rfl rfl hl.1 rfl (lv_room (Nat.le_of_ble_eq_true rfl)) dL_prove_3 ⟨by decide +kernel, by decide +kernel⟩) hS (fun q _ h => hFc q h) hFc (fun q _ h => hFc q h) (fun E ce q9 u t H1 locs1 ht hvm hw hB hz1 hk1 hS hc1 hc2 hc3 => ?_) (fun r u t H1 locs1 ht hvm hw hB hz1 hk1 hS => hw.elim)
  obtain ⟨hE, hP1, hK1, hD1⟩ := hB
  subst hE
  rw [ht] at hP1
  have hK1 := va_K.moved hvm.symm hK1
  obtain ⟨hP, hD⟩ := va_join (wr := []) (w1 := [(h0, .inr (11, [.ref a0, .ref a1, .ref a2, .ref a3, .int sl, f5, f6, f7, f8, f9, f10])), (a2, .inr (1, [.int 0, .int nv, .int nr, .int ng, .int nd, .int nc, g6, g7, g8, g9, .int pr, g11, g12, g13, g14, g15, g16]))]) hP hD [0, 1] [] rfl rfl (by decide) (by decide) hk1 hFc hP1 hD1
  have hP := hP.sub (ws' := [(h0, .inr (11, [.ref a0, .ref a1, .ref a2, .ref a3, .int sl, f5, f6, f7, f8, f9, f10])), (a2, .inr (1, [.int 0, .int nv, .int nr, .int ng, .int nd, .int nc, g6, g7, g8, g9, .int pr, g11, g12, g13, g14, g15, g16]))]) [0, 1] rfl
  have hD := hD.sub (ws' := [(h0, .inr (11, [.ref a0, .ref a1, .ref a2, .ref a3, .int sl, f5, f6, f7, f8, f9, f10])), (a2, .inr (1, [.int 0, .int nv, .int nr, .int ng, .int nd, .int nc, g6, g7, g8, g9, .int pr, g11, g12, g13, g14, g15, g16]))]) [0, 1] (by decide) rfl
  refine vx_widen (k := 1) (n := 6) (by decide +kernel) (by decide +kernel) ?_
  obtain ⟨rfl, -⟩ := hw
  refine vx_catch (own := RL) (name := "java/lang/IllegalStateException") hown [] ⟨0, 8, 11, 32⟩ [] (by rw [htb]; rfl) (fun z hz => absurd hz List.not_mem_nil) (by decide) (by decide) (hts (.classLink RL 32 "java/lang/IllegalStateException") (by decide +kernel)) (va_Nw.use rfl (hngX11_161 (.castable "java/lang/IllegalStateException" "java/lang/IllegalStateException") (by decide +kernel))) hc1 hc2 hc3 ?_
  generalize H1 = H at hP hS hc1 ⊢
  refine lv_astore_n (lv' := [(2, .ref q9), (0, .ref h0), (1, .ref o)]) hx hb dL_prove_11 rfl hl (by decide) rfl (fun ls hl => ?_)
  refine lv_iconst (v := 1) hx hb dL_prove_12 (by decide) ?_
  refine vx_ret ?_
  refine W.widen (k := 1) (n := 6) (by decide +kernel) (by decide +kernel) ?_
  exact W.iret (v := 1) hx hb hr (fun t ht hW => ⟨⟨1, (), rfl, rfl, by rw [ht]; exact hP, va_K.moved hW.alike hK, hD⟩, hS.F ht⟩) hS.2.2 dL_prove_13

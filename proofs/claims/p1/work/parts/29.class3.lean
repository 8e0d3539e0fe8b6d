theorem dX11_theClauses_0 : decode cX11_theClauses 0 = .ok (.aload_n 0, 1) := by decide +kernel
theorem dX11_theClauses_1 : decode cX11_theClauses 1 = .ok (.getfield 386, 3) := by decide +kernel
theorem dX11_theClauses_4 : decode cX11_theClauses 4 = .ok (.ifnonnull 14, 3) := by decide +kernel
theorem dX11_theClauses_7 : decode cX11_theClauses 7 = .ok (.aload_n 0, 1) := by decide +kernel
theorem dX11_theClauses_8 : decode cX11_theClauses 8 = .ok (.new 390, 3) := by decide +kernel
theorem dX11_theClauses_11 : decode cX11_theClauses 11 = .ok (.dup, 1) := by decide +kernel
theorem dX11_theClauses_12 : decode cX11_theClauses 12 = .ok (.invokespecial 392, 3) := by decide +kernel
theorem dX11_theClauses_15 : decode cX11_theClauses 15 = .ok (.putfield 386, 3) := by decide +kernel
theorem dX11_theClauses_18 : decode cX11_theClauses 18 = .ok (.aload_n 0, 1) := by decide +kernel
theorem dX11_theClauses_19 : decode cX11_theClauses 19 = .ok (.getfield 386, 3) := by decide +kernel
theorem dX11_theClauses_22 : decode cX11_theClauses 22 = .ok (.areturn, 1) := by decide +kernel
def wsPX11_theClauses : List Cond := .code yX11_theClauses cX11_theClauses 1 (some (.object "OptimaWorks$ClauseDesk")) :: ([.fieldLink RX11 386 "OptimaWorks" "clauses" "LOptimaWorks$ClauseDesk;", .classLink RX11 390 RX0, .instantiable RX0 7, .initialized RX0, .instanceMethod yX0_init] ++ wsX00 ++ wsX110 ++ (wsX0_init))
theorem iwsPX11_theClauses_in0 : ∀ w ∈ wsX00, w ∈ wsPX11_theClauses := fun _ h => List.mem_cons_of_mem _ (List.mem_append_left _ (List.mem_append_left _ (List.mem_append_right _ h)))
theorem iwsPX11_theClauses_in11 : ∀ w ∈ wsX110, w ∈ wsPX11_theClauses := fun _ h => List.mem_cons_of_mem _ (List.mem_append_left _ (List.mem_append_right _ h))
theorem gwsPX11_theClauses_0 : GoodIn wsPX11_theClauses (wsX0_init) := goodIn_sub (fun _ h => List.mem_cons_of_mem _ (List.mem_append_right _ h)) (by decide +kernel)
set_option maxHeartbeats 4000000 in
set_option maxRecDepth 100000 in
/-- theClauses() on a fresh object: a desk comes -/
theorem p_X11_theClauses (l : Launch) (dC : Nat → ClassId) (dI : Nat → Nat → Nat) (h0 : Nat) (a : Nat → Nat) (sz : Nat) : Met l yX11_theClauses wsPX11_theClauses ({ frames := 2, cells := 6, slots := 8271, locals := 32 }) (va_Pc [.ref h0] (fun U => U.heap.size = sz ∧ va_P (dC, dI) vwCl [(h0, .inr (11, [.ref (a 0), .ref (a 1), .ref (a 3), .ref (a 14), .int 0, .null, .null, .null, .null, .null, .null]))] U.heap ∧ va_K (dC, dI) vwCl [] U ∧ va_D (fun _ => True) [(h0, .inr (11, [.ref (a 0), .ref (a 1), .ref (a 3), .ref (a 14), .int 0, .null, .null, .null, .null, .null, .null]))] ∧ va_Nw (.methodLinkNest RX11 392 yX0_init RX11) U)) (va_Qr (fun (u : (Nat → Nat) × (Nat → ClassId)) => True) (fun (u : (Nat → Nat) × (Nat → ClassId)) ra t => va_P (dC, dI) vwCl [(h0, .inr (11, [.ref (a 0), .ref (a 1), .ref (a 3), .ref (a 14), .int 0, .null, .null, .null, .null, .ref ra, .null])), (ra, .inr (0, [.int 0, .ref ((u.1) 0), .ref ((u.1) 1), .ref ((u.1) 2), .ref ((u.1) 3), .ref ((u.1) 4), .int 0])), (((u.1) 0), .inl (((u.2) 0), 24, .inl (fun _ => 0))), (((u.1) 1), .inl (((u.2) 1), 24, .inl (fun _ => 0))), (((u.1) 2), .inl (((u.2) 2), 24, .inl (fun _ => 0))), (((u.1) 3), .inl (((u.2) 3), 4096, .inl (fun _ => 0))), (((u.1) 4), .inl (((u.2) 4), 4096, .inl (fun _ => 0)))] t.heap ∧ va_K (dC, dI) vwCl [(((u.2) 0), .int), (((u.2) 1), .int), (((u.2) 2), .int), (((u.2) 3), .int), (((u.2) 4), .int)] t ∧ va_D (va_A [(h0, .inr (11, [.ref (a 0), .ref (a 1), .ref (a 3), .ref (a 14), .int 0, .null, .null, .null, .null, .null, .null]))] sz) [(h0, .inr (11, [.ref (a 0), .ref (a 1), .ref (a 3), .ref (a 14), .int 0, .null, .null, .null, .null, .ref ra, .null])), (ra, .inr (0, [.int 0, .ref ((u.1) 0), .ref ((u.1) 1), .ref ((u.1) 2), .ref ((u.1) 3), .ref ((u.1) 4), .int 0])), (((u.1) 0), .inl (((u.2) 0), 24, .inl (fun _ => 0))), (((u.1) 1), .inl (((u.2) 1), 24, .inl (fun _ => 0))), (((u.1) 2), .inl (((u.2) 2), 24, .inl (fun _ => 0))), (((u.1) 3), .inl (((u.2) 3), 4096, .inl (fun _ => 0))), (((u.1) 4), .inl (((u.2) 4), 4096, .inl (fun _ => 0)))]) (va_A [(h0, .inr (11, [.ref (a 0), .ref (a 1), .ref (a 3), .ref (a 14), .int 0, .null, .null, .null, .null, .null, .null]))] sz)) 6 8271 (va_A [(h0, .inr (11, [.ref (a 0), .ref (a 1), .ref (a 3), .ref (a 14), .int 0, .null, .null, .null, .null, .null, .null]))] sz) := by
  refine Met.ofW (cc := cX11_theClauses) (maxL := 1) (ret := (some (.object "OptimaWorks$ClauseDesk"))) (by decide) rfl ?_
  intro p e s m args below meth c s₁ B hml hv
  obtain ⟨rfl, hsz, hP, hK, hD0, hnX11_392⟩ := hv
  have hx := B.exec
  have hb := B.bytes
  have hr := B.returns
  have hts := atoms_spec (ws := wsPX11_theClauses) B.pre
  have hown : s.vm.findClass RX11 = some m.cls := findClass_of_methodNamed B.named
  have hlocks := B.notSynchronized
  subst hsz
  have hD := hD0.self (sz := s.heap.size)
  generalize hAe : va_A [(h0, .inr (11, [.ref (a 0), .ref (a 1), .ref (a 3), .ref (a 14), .int 0, .null, .null, .null, .null, .null, .null]))] s.heap.size = A at hD ⊢
  have hA : ∀ q : Nat, s.heap.size ≤ q → A q := fun q h => by rw [← hAe]; exact Or.inr h
  have hS : va_S A s.heap s.heap [] := va_S.rf
  have hP : va_P (dC, dI) vwCl [(h0, .inr (11, [.ref (a 0), .ref (a 1), .ref (a 3), .ref (a 14), .int 0, .null, .null, .null, .null, .null, .null]))] s.heap := hP
  have hl := lv_entry ([.ref h0]) (n := 1) (Nat.le_of_ble_eq_true rfl)
  rw [lg_entry_eq]
  generalize (lg_sl ([.ref h0]) ++ List.replicate (1 - (lg_sl ([.ref h0])).length) Slot.unset).toArray = ls at hl ⊢
  have hl : lv_has ls 1 [(0, .ref h0)] := hl
  refine lv_aload_n hx hb dX11_theClauses_0 rfl (lv_at hl 0 rfl) ?_
  refine va_get (D := (dC, dI)) (ci := 11) (v := .null) (C := RX11) (T := TX11) (N := 11) hx hb hts iwsPX11_theClauses_in11 hown hK hP 0 rfl rfl 9 (by decide) (hts (.fieldLink RX11 386 "OptimaWorks" "clauses" "LOptimaWorks$ClauseDesk;") (by decide +kernel)) (fun _ h9 => h9) rfl dX11_theClauses_1 ?_
  refine lv_ifnonnullN hx hb dX11_theClauses_4 ?_
  refine lv_aload_n hx hb dX11_theClauses_7 rfl (lv_at hl 0 rfl) ?_
  refine va_new (ci := 0) (fs := [.int 0, .null, .null, .null, .null, .null, .int 0]) (C := RX0) (T := TX0) (N := 7) hx hb hts iwsPX11_theClauses_in0 tyX0 tyX0_ok hown (hts (.classLink RX11 390 RX0) (by decide +kernel)) (hts (.instantiable RX0 7) (by decide +kernel)) (hts (.initialized RX0) (by decide +kernel)) hK hP hD hS hA rfl (by decide +kernel) (by decide +kernel) (by decide +kernel) dX11_theClauses_8 (fun q8 H hP hD hS => ?_)
  have hP : va_P (dC, dI) vwCl [(h0, .inr (11, [.ref (a 0), .ref (a 1), .ref (a 3), .ref (a 14), .int 0, .null, .null, .null, .null, .null, .null])), (q8, .inr (0, [.int 0, .null, .null, .null, .null, .null, .int 0]))] H := hP
  have hD : va_D A [(h0, .inr (11, [.ref (a 0), .ref (a 1), .ref (a 3), .ref (a 14), .int 0, .null, .null, .null, .null, .null, .null])), (q8, .inr (0, [.int 0, .null, .null, .null, .null, .null, .int 0]))] := hD
  refine W.widen (k := 1) (n := 7) (by decide +kernel) (by decide +kernel) ?_
  refine lv_dup hx hb dX11_theClauses_11 rfl ?_
  have hPc := hP.sub (ws' := [(q8, .inr (0, [.int 0, .null, .null, .null, .null, .null, .int 0]))]) [1] rfl
  have hDc := hD.sub (ws' := [(q8, .inr (0, [.int 0, .null, .null, .null, .null, .null, .int 0]))]) [1] (by decide) rfl
  have hKc := hK.sub (tys' := []) [] rfl
  have hFc := va_free (wc := [(q8, .inr (0, [.int 0, .null, .null, .null, .null, .null, .int 0]))]) hD hS hA [1] rfl
  refine va_callv (va_runIN (As := []) (rest := [.ref q8, .ref h0]) ⟨hx, hb, hml, hown, hts⟩ (c_X0_init l dC dI q8 H.size) ⟨va_cnB 0 hts gwsPX11_theClauses_0 rfl rfl rfl hnX11_392 (hts (.initialized RX0) (by decide +kernel)) (by decide +kernel) ⟨by decide +kernel, by decide +kernel⟩, rfl, (hts (.instanceMethod yX0_init) (by decide +kernel))⟩ ⟨fun a U g mk q => by obtain ⟨q0, q1, qP, qK, qD⟩ := q; exact ⟨q0, q1, qP, va_K.moved (u := U) (U := U.calling g mk a) (Vm.Alike.refl U.vm) qK, qD⟩, fun U hU9 hW => ⟨rfl, by rw [hU9], by rw [hU9]; exact hPc, va_K.moved hW.alike hKc, hDc.weaken (fun _ _ _ _ => trivial)⟩⟩ rfl rfl hl.1 rfl (lv_room (Nat.le_of_ble_eq_true rfl)) dX11_theClauses_12 ⟨by decide +kernel, by decide +kernel⟩) hS (fun q _ h => hFc q h) hFc (fun u t H1 locs ht hvm hw hB hz1 hk1 hS => ?_)
  obtain ⟨aa12, kk12⟩ := u
  obtain ⟨hP1, hK1, hD1⟩ := hB
  rw [ht] at hP1
  have hK1 := va_K.moved hvm.symm hK1
  obtain ⟨hP, hD⟩ := va_join (wr := [(h0, .inr (11, [.ref (a 0), .ref (a 1), .ref (a 3), .ref (a 14), .int 0, .null, .null, .null, .null, .null, .null]))]) (w1 := [(q8, .inr (0, [.int 0, .ref (aa12 0), .ref (aa12 1), .ref (aa12 2), .ref (aa12 3), .ref (aa12 4), .int 0])), ((aa12 0), .inl ((kk12 0), 24, .inl (fun _ => 0))), ((aa12 1), .inl ((kk12 1), 24, .inl (fun _ => 0))), ((aa12 2), .inl ((kk12 2), 24, .inl (fun _ => 0))), ((aa12 3), .inl ((kk12 3), 4096, .inl (fun _ => 0))), ((aa12 4), .inl ((kk12 4), 4096, .inl (fun _ => 0)))]) hP hD [1] [0] rfl rfl (by decide) (by decide) hk1 hFc hP1 hD1
  have hK := hK.app hK1
  generalize H1 = H at hP hS ⊢
  have hP : va_P (dC, dI) vwCl [(h0, .inr (11, [.ref (a 0), .ref (a 1), .ref (a 3), .ref (a 14), .int 0, .null, .null, .null, .null, .null, .null])), (q8, .inr (0, [.int 0, .ref (aa12 0), .ref (aa12 1), .ref (aa12 2), .ref (aa12 3), .ref (aa12 4), .int 0])), ((aa12 0), .inl ((kk12 0), 24, .inl (fun _ => 0))), ((aa12 1), .inl ((kk12 1), 24, .inl (fun _ => 0))), ((aa12 2), .inl ((kk12 2), 24, .inl (fun _ => 0))), ((aa12 3), .inl ((kk12 3), 4096, .inl (fun _ => 0))), ((aa12 4), .inl ((kk12 4), 4096, .inl (fun _ => 0)))] H := hP
  have hD : va_D A [(h0, .inr (11, [.ref (a 0), .ref (a 1), .ref (a 3), .ref (a 14), .int 0, .null, .null, .null, .null, .null, .null])), (q8, .inr (0, [.int 0, .ref (aa12 0), .ref (aa12 1), .ref (aa12 2), .ref (aa12 3), .ref (aa12 4), .int 0])), ((aa12 0), .inl ((kk12 0), 24, .inl (fun _ => 0))), ((aa12 1), .inl ((kk12 1), 24, .inl (fun _ => 0))), ((aa12 2), .inl ((kk12 2), 24, .inl (fun _ => 0))), ((aa12 3), .inl ((kk12 3), 4096, .inl (fun _ => 0))), ((aa12 4), .inl ((kk12 4), 4096, .inl (fun _ => 0)))] := hD
  have hK : va_K (dC, dI) vwCl [((kk12 0), .int), ((kk12 1), .int), ((kk12 2), .int), ((kk12 3), .int), ((kk12 4), .int)] s := hK
  refine W.widen (k := 6) (n := 8271) (by decide +kernel) (by decide +kernel) ?_
  refine va_put (D := (dC, dI)) (ci := 11) (v := .ref q8) (ty := .object "OptimaWorks$ClauseDesk") (C := RX11) (T := TX11) (N := 11) hx hb hts iwsPX11_theClauses_in11 tyX11 tyX11_ok nmX11 hown hK hP hD hS 0 rfl rfl 9 (by decide) (hts (.fieldLink RX11 386 "OptimaWorks" "clauses" "LOptimaWorks$ClauseDesk;") (by decide +kernel)) (fun _ h9 => h9) rfl (by decide +kernel) rfl rfl (Nat.le_of_ble_eq_true rfl) dX11_theClauses_15 (fun H locs hP hD hS => ?_)
  have hP : va_P (dC, dI) vwCl [(h0, .inr (11, [.ref (a 0), .ref (a 1), .ref (a 3), .ref (a 14), .int 0, .null, .null, .null, .null, .ref q8, .null])), (q8, .inr (0, [.int 0, .ref (aa12 0), .ref (aa12 1), .ref (aa12 2), .ref (aa12 3), .ref (aa12 4), .int 0])), ((aa12 0), .inl ((kk12 0), 24, .inl (fun _ => 0))), ((aa12 1), .inl ((kk12 1), 24, .inl (fun _ => 0))), ((aa12 2), .inl ((kk12 2), 24, .inl (fun _ => 0))), ((aa12 3), .inl ((kk12 3), 4096, .inl (fun _ => 0))), ((aa12 4), .inl ((kk12 4), 4096, .inl (fun _ => 0)))] H := hP
  have hD : va_D A [(h0, .inr (11, [.ref (a 0), .ref (a 1), .ref (a 3), .ref (a 14), .int 0, .null, .null, .null, .null, .ref q8, .null])), (q8, .inr (0, [.int 0, .ref (aa12 0), .ref (aa12 1), .ref (aa12 2), .ref (aa12 3), .ref (aa12 4), .int 0])), ((aa12 0), .inl ((kk12 0), 24, .inl (fun _ => 0))), ((aa12 1), .inl ((kk12 1), 24, .inl (fun _ => 0))), ((aa12 2), .inl ((kk12 2), 24, .inl (fun _ => 0))), ((aa12 3), .inl ((kk12 3), 4096, .inl (fun _ => 0))), ((aa12 4), .inl ((kk12 4), 4096, .inl (fun _ => 0)))] := hD
  refine lv_aload_n hx hb dX11_theClauses_18 rfl (lv_at hl 0 rfl) ?_
  refine va_get (D := (dC, dI)) (ci := 11) (v := .ref q8) (C := RX11) (T := TX11) (N := 11) hx hb hts iwsPX11_theClauses_in11 hown hK hP 0 rfl rfl 9 (by decide) (hts (.fieldLink RX11 386 "OptimaWorks" "clauses" "LOptimaWorks$ClauseDesk;") (by decide +kernel)) (fun _ h9 => h9) rfl dX11_theClauses_19 ?_
  refine W.widen (k := 6) (n := 8271) (by decide +kernel) (by decide +kernel) ?_
  exact W.aret hx hb hr (Or.inl ⟨_, rfl⟩) (Or.inr ⟨_, rfl⟩) (fun t ht hW => ⟨⟨(aa12, kk12), _, rfl, trivial, by rw [ht]; exact hP.sub [0, 1, 2, 3, 4, 5, 6] rfl, va_K.moved hW.alike (hK.sub [0, 1, 2, 3, 4] rfl), hD.sub [0, 1, 2, 3, 4, 5, 6] (by decide) rfl⟩, hS.F ht⟩) hS.2.2 dX11_theClauses_22
theorem dX0_mark_0 : decode cX0_mark 0 = .ok (.iconst 0, 1) := by decide +kernel
theorem dX0_mark_1 : decode cX0_mark 1 = .ok (.istore_n 3, 1) := by decide +kernel
theorem dX0_mark_2 : decode cX0_mark 2 = .ok (.iload_n 3, 1) := by decide +kernel
theorem dX0_mark_3 : decode cX0_mark 3 = .ok (.sipush 4096, 3) := by decide +kernel
theorem dX0_mark_6 : decode cX0_mark 6 = .ok (.if_icmp .ge 59, 3) := by decide +kernel
theorem dX0_mark_9 : decode cX0_mark 9 = .ok (.iload_n 3, 1) := by decide +kernel
theorem dX0_mark_10 : decode cX0_mark 10 = .ok (.aload_n 0, 1) := by decide +kernel
theorem dX0_mark_11 : decode cX0_mark 11 = .ok (.getfield 11, 3) := by decide +kernel
theorem dX0_mark_14 : decode cX0_mark 14 = .ok (.iload_n 1, 1) := by decide +kernel
theorem dX0_mark_15 : decode cX0_mark 15 = .ok (.iaload, 1) := by decide +kernel
theorem dX0_mark_16 : decode cX0_mark 16 = .ok (.iand, 1) := by decide +kernel
theorem dX0_mark_17 : decode cX0_mark 17 = .ok (.ifCond .ne 42, 3) := by decide +kernel
theorem dX0_mark_20 : decode cX0_mark 20 = .ok (.iload_n 3, 1) := by decide +kernel
theorem dX0_mark_21 : decode cX0_mark 21 = .ok (.aload_n 0, 1) := by decide +kernel
theorem dX0_mark_22 : decode cX0_mark 22 = .ok (.getfield 15, 3) := by decide +kernel
theorem dX0_mark_25 : decode cX0_mark 25 = .ok (.iload_n 1, 1) := by decide +kernel
theorem dX0_mark_26 : decode cX0_mark 26 = .ok (.iaload, 1) := by decide +kernel
theorem dX0_mark_27 : decode cX0_mark 27 = .ok (.iand, 1) := by decide +kernel
theorem dX0_mark_28 : decode cX0_mark 28 = .ok (.aload_n 0, 1) := by decide +kernel
theorem dX0_mark_29 : decode cX0_mark 29 = .ok (.getfield 15, 3) := by decide +kernel
theorem dX0_mark_32 : decode cX0_mark 32 = .ok (.iload_n 1, 1) := by decide +kernel
theorem dX0_mark_33 : decode cX0_mark 33 = .ok (.iaload, 1) := by decide +kernel
theorem dX0_mark_34 : decode cX0_mark 34 = .ok (.if_icmp .ne 25, 3) := by decide +kernel
theorem dX0_mark_37 : decode cX0_mark 37 = .ok (.aload_n 0, 1) := by decide +kernel
theorem dX0_mark_38 : decode cX0_mark 38 = .ok (.getfield 21, 3) := by decide +kernel
theorem dX0_mark_41 : decode cX0_mark 41 = .ok (.iload_n 3, 1) := by decide +kernel
theorem dX0_mark_42 : decode cX0_mark 42 = .ok (.dup2, 1) := by decide +kernel
theorem dX0_mark_43 : decode cX0_mark 43 = .ok (.iaload, 1) := by decide +kernel
theorem dX0_mark_44 : decode cX0_mark 44 = .ok (.iconst 1, 1) := by decide +kernel
theorem dX0_mark_45 : decode cX0_mark 45 = .ok (.iload_n 1, 1) := by decide +kernel
theorem dX0_mark_46 : decode cX0_mark 46 = .ok (.ishl, 1) := by decide +kernel
theorem dX0_mark_47 : decode cX0_mark 47 = .ok (.ixor, 1) := by decide +kernel
theorem dX0_mark_48 : decode cX0_mark 48 = .ok (.iastore, 1) := by decide +kernel
theorem dX0_mark_49 : decode cX0_mark 49 = .ok (.aload_n 0, 1) := by decide +kernel
theorem dX0_mark_50 : decode cX0_mark 50 = .ok (.getfield 24, 3) := by decide +kernel
theorem dX0_mark_53 : decode cX0_mark 53 = .ok (.iload_n 3, 1) := by decide +kernel
theorem dX0_mark_54 : decode cX0_mark 54 = .ok (.dup2, 1) := by decide +kernel
theorem dX0_mark_55 : decode cX0_mark 55 = .ok (.iaload, 1) := by decide +kernel
theorem dX0_mark_56 : decode cX0_mark 56 = .ok (.iload_n 2, 1) := by decide +kernel
theorem dX0_mark_57 : decode cX0_mark 57 = .ok (.iadd, 1) := by decide +kernel
theorem dX0_mark_58 : decode cX0_mark 58 = .ok (.iastore, 1) := by decide +kernel
theorem dX0_mark_59 : decode cX0_mark 59 = .ok (.iinc 3 1, 3) := by decide +kernel
theorem dX0_mark_62 : decode cX0_mark 62 = .ok (.goto (-60), 3) := by decide +kernel
theorem dX0_mark_65 : decode cX0_mark 65 = .ok (.return_, 1) := by decide +kernel
def wsPX0_mark : List Cond := .code yX0_mark cX0_mark 4 none :: ([.fieldLink RX0 11 "OptimaWorks$ClauseDesk" "wants" "[I", .fieldLink RX0 15 "OptimaWorks$ClauseDesk" "wantsNot" "[I", .fieldLink RX0 21 "OptimaWorks$ClauseDesk" "broken" "[I", .fieldLink RX0 24 "OptimaWorks$ClauseDesk" "loss" "[I"] ++ wsX00)
theorem iwsPX0_mark_in0 : ∀ w ∈ wsX00, w ∈ wsPX0_mark := fun _ h => List.mem_cons_of_mem _ (List.mem_append_right _ h)
set_option maxHeartbeats 4000000 in
set_option maxRecDepth 100000 in
/-- mark(0, weighs) -/
theorem p_X0_mark (l : Launch) (dC : Nat → ClassId) (dI : Nat → Nat → Nat) (d0 : Nat) (bb : Nat → Nat) (kd : Nat → ClassId) (cl : Value) (mu : Value) (gw : Nat → Int32) (gn : Nat → Int32) (wg : Int32) (sz : Nat) : Met l yX0_mark wsPX0_mark ({ frames := 0, cells := 0, slots := 0, locals := 0 }) (va_Pc [.ref d0, .int 0, .int wg] (fun U => U.heap.size = sz ∧ va_P (dC, dI) vwCl [(d0, .inr (0, [cl, .ref (bb 0), .ref (bb 1), .ref (bb 2), .ref (bb 3), .ref (bb 4), mu])), ((bb 0), .inl ((kd 0), 24, .inl gw)), ((bb 1), .inl ((kd 1), 24, .inl gn)), ((bb 3), .inl ((kd 3), 4096, .inl (fun _ => 0))), ((bb 4), .inl ((kd 4), 4096, .inl (fun _ => 0)))] U.heap ∧ va_K (dC, dI) vwCl [((kd 0), .int), ((kd 1), .int), ((kd 3), .int), ((kd 4), .int)] U ∧ va_D (fun _ => True) [(d0, .inr (0, [cl, .ref (bb 0), .ref (bb 1), .ref (bb 2), .ref (bb 3), .ref (bb 4), mu])), ((bb 0), .inl ((kd 0), 24, .inl gw)), ((bb 1), .inl ((kd 1), 24, .inl gn)), ((bb 3), .inl ((kd 3), 4096, .inl (fun _ => 0))), ((bb 4), .inl ((kd 4), 4096, .inl (fun _ => 0)))])) (va_Qv (fun (u : Unit) => True) (fun (u : Unit) t => va_P (dC, dI) vwCl [(d0, .inr (0, [cl, .ref (bb 0), .ref (bb 1), .ref (bb 2), .ref (bb 3), .ref (bb 4), mu]))] t.heap ∧ va_K (dC, dI) vwCl [] t ∧ va_D (va_A [(d0, .inr (0, [cl, .ref (bb 0), .ref (bb 1), .ref (bb 2), .ref (bb 3), .ref (bb 4), mu])), ((bb 0), .inl ((kd 0), 24, .inl gw)), ((bb 1), .inl ((kd 1), 24, .inl gn)), ((bb 3), .inl ((kd 3), 4096, .inl (fun _ => 0))), ((bb 4), .inl ((kd 4), 4096, .inl (fun _ => 0)))] sz) [(d0, .inr (0, [cl, .ref (bb 0), .ref (bb 1), .ref (bb 2), .ref (bb 3), .ref (bb 4), mu]))]) (va_A [(d0, .inr (0, [cl, .ref (bb 0), .ref (bb 1), .ref (bb 2), .ref (bb 3), .ref (bb 4), mu])), ((bb 0), .inl ((kd 0), 24, .inl gw)), ((bb 1), .inl ((kd 1), 24, .inl gn)), ((bb 3), .inl ((kd 3), 4096, .inl (fun _ => 0))), ((bb 4), .inl ((kd 4), 4096, .inl (fun _ => 0)))] sz)) 0 0 (va_A [(d0, .inr (0, [cl, .ref (bb 0), .ref (bb 1), .ref (bb 2), .ref (bb 3), .ref (bb 4), mu])), ((bb 0), .inl ((kd 0), 24, .inl gw)), ((bb 1), .inl ((kd 1), 24, .inl gn)), ((bb 3), .inl ((kd 3), 4096, .inl (fun _ => 0))), ((bb 4), .inl ((kd 4), 4096, .inl (fun _ => 0)))] sz) := by
  refine Met.ofW (cc := cX0_mark) (maxL := 4) (ret := none) (by decide) rfl ?_
  intro p e s m args below meth c s₁ B hml hv
  obtain ⟨rfl, hsz, hP, hK, hD0⟩ := hv
  have hx := B.exec
  have hb := B.bytes
  have hr := B.returns
  have hts := atoms_spec (ws := wsPX0_mark) B.pre
  have hown : s.vm.findClass RX0 = some m.cls := findClass_of_methodNamed B.named
  have hlocks := B.notSynchronized
  subst hsz
  have hD := hD0.self (sz := s.heap.size)
  generalize hAe : va_A [(d0, .inr (0, [cl, .ref (bb 0), .ref (bb 1), .ref (bb 2), .ref (bb 3), .ref (bb 4), mu])), ((bb 0), .inl ((kd 0), 24, .inl gw)), ((bb 1), .inl ((kd 1), 24, .inl gn)), ((bb 3), .inl ((kd 3), 4096, .inl (fun _ => 0))), ((bb 4), .inl ((kd 4), 4096, .inl (fun _ => 0)))] s.heap.size = A at hD ⊢
  have hA : ∀ q : Nat, s.heap.size ≤ q → A q := fun q h => by rw [← hAe]; exact Or.inr h
  have hS : va_S A s.heap s.heap [] := va_S.rf
  have hP : va_P (dC, dI) vwCl [(d0, .inr (0, [cl, .ref (bb 0), .ref (bb 1), .ref (bb 2), .ref (bb 3), .ref (bb 4), mu])), ((bb 0), .inl ((kd 0), 24, .inl gw)), ((bb 1), .inl ((kd 1), 24, .inl gn)), ((bb 3), .inl ((kd 3), 4096, .inl (fun _ => 0))), ((bb 4), .inl ((kd 4), 4096, .inl (fun _ => 0)))] s.heap := hP
  have hl := lv_entry ([.ref d0, .int 0, .int wg]) (n := 4) (Nat.le_of_ble_eq_true rfl)
  rw [lg_entry_eq]
  generalize (lg_sl ([.ref d0, .int 0, .int wg]) ++ List.replicate (4 - (lg_sl ([.ref d0, .int 0, .int wg])).length) Slot.unset).toArray = ls at hl ⊢
  have hl : lv_has ls 4 [(0, .ref d0), (1, .int 0), (2, .int wg)] := hl
  refine lv_iconst (v := 0) hx hb dX0_mark_0 (by decide) ?_
  refine lv_istore_n (lv' := [(3, .int 0), (0, .ref d0), (1, .int 0), (2, .int wg)]) hx hb dX0_mark_1 rfl hl (by decide) rfl (fun ls hl => ?_)
  have hl := lv_sub hl [0, 1, 2, 3] (l' := [(3, .int (nI 0)), (0, .ref d0), (1, .int 0), (2, .int wg)]) rfl
  refine (fun (loop : ∀ (n9 : Nat) (i : Nat) (g1 : Nat → Int32) (g2 : Nat → Int32) (H : Heap) (locs : List Loc) (ls : Array Slot), (i ≤ 4096) →  (4096 < i + n9) → va_P (dC, dI) vwCl [(d0, .inr (0, [cl, .ref (bb 0), .ref (bb 1), .ref (bb 2), .ref (bb 3), .ref (bb 4), mu])), ((bb 0), .inl ((kd 0), 24, .inl gw)), ((bb 1), .inl ((kd 1), 24, .inl gn)), ((bb 3), .inl ((kd 3), 4096, .inl g1)), ((bb 4), .inl ((kd 4), 4096, .inl g2))] H → va_D A [(d0, .inr (0, [cl, .ref (bb 0), .ref (bb 1), .ref (bb 2), .ref (bb 3), .ref (bb 4), mu])), ((bb 0), .inl ((kd 0), 24, .inl gw)), ((bb 1), .inl ((kd 1), 24, .inl gn)), ((bb 3), .inl ((kd 3), 4096, .inl g1)), ((bb 4), .inl ((kd 4), 4096, .inl g2))] → va_S A s.heap H locs → lv_has ls 4 [(3, .int (nI i)), (0, .ref d0), (1, .int 0), (2, .int wg)] → W p l e _ s m _ below meth c H locs 0 0 _ (F0 m 2 ls [])) => loop (4097) 0 (fun _ => 0) (fun _ => 0) _ _ _ (by omega) (by omega) hP hD hS hl) ?_
  intro n9
  induction n9 with
  | zero => intro i g1 g2 H locs ls hi hf9; exact False.elim (by omega)
  | succ n9 ih2 =>
    intro i g1 g2 H locs ls hi hf2 hP hD hS hl
    refine lv_iload_n hx hb dX0_mark_2 rfl (lv_at hl 0 rfl) ?_
    refine lv_sipush (v := 4096) hx hb dX0_mark_3 (by decide) ?_
    refine lv_icmp_ge (tgt := 65) hx hb dX0_mark_6 (by decide) (fun c_6 => ?_) (fun c_6 => ?_)
    · have t_6 : ((i : Nat) : Int) ≥ 4096 := toI_ge c_6 (nI_toInt (by omega)) (by decide)
      refine W.widen (k := 0) (n := 0) (by decide +kernel) (by decide +kernel) ?_
      exact W.vret hx hb hr (fun t ht hW => ⟨⟨(), rfl, trivial, by rw [ht]; exact hP.sub [0] rfl, va_K.moved hW.alike (hK.sub [] rfl), hD.sub [0] (by decide) rfl⟩, hS.F ht⟩) hS.2.2 dX0_mark_65
    · have t_6 : ¬ ((i : Nat) : Int) ≥ 4096 := toI_nge c_6 (nI_toInt (by omega)) (by decide)
      refine lv_iload_n hx hb dX0_mark_9 rfl (lv_at hl 0 rfl) ?_
      refine lv_aload_n hx hb dX0_mark_10 rfl (lv_at hl 1 rfl) ?_
      refine va_get (D := (dC, dI)) (ci := 0) (v := .ref (bb 0)) (C := RX0) (T := TX0) (N := 7) hx hb hts iwsPX0_mark_in0 hown hK hP 0 rfl rfl 1 (by decide) (hts (.fieldLink RX0 11 "OptimaWorks$ClauseDesk" "wants" "[I") (by decide +kernel)) (fun _ h9 => h9) rfl dX0_mark_11 ?_
      refine lv_iload_n hx hb dX0_mark_14 rfl (lv_at hl 2 rfl) ?_
      refine va_iald hx hb hK hP 1 0 rfl rfl (show ¬ ((0 : Int32) < 0 ∨ 24 ≤ (0 : Int32).toNatClampNeg) by decide) dX0_mark_15 ?_
      refine lv_iand hx hb dX0_mark_16 ?_
      refine lv_if_ne (tgt := 59) hx hb dX0_mark_17 (by decide) (fun c_17 => ?_) (fun c_17 => ?_)
      · have t_17 : (((nI i) &&& (gw (0 : Int32).toNatClampNeg))).toInt ≠ 0 := toI_ne c_17 rfl (by decide)
        refine lv_iinc (v := (nI (i + 1))) (lv' := [(3, .int (nI (i + 1))), (0, .ref d0), (1, .int 0), (2, .int wg)]) hx hb dX0_mark_59 hl (k := 0) rfl (nI_add i 1) (by decide) rfl (fun ls hl => ?_)
        refine lv_goto (tgt := 2) hx hb dX0_mark_62 (by decide) ?_
        have hl := lv_sub hl [0, 1, 2, 3] (l' := [(3, .int (nI (i + 1))), (0, .ref d0), (1, .int 0), (2, .int wg)]) rfl
        exact ih2 (i + 1) g1 g2 _ _ _ (by omega) (by omega) hP hD hS hl
      · have t_17 : (((nI i) &&& (gw (0 : Int32).toNatClampNeg))).toInt = 0 := toI_nne c_17 rfl (by decide)
        refine lv_iload_n hx hb dX0_mark_20 rfl (lv_at hl 0 rfl) ?_
        refine lv_aload_n hx hb dX0_mark_21 rfl (lv_at hl 1 rfl) ?_
        refine va_get (D := (dC, dI)) (ci := 0) (v := .ref (bb 1)) (C := RX0) (T := TX0) (N := 7) hx hb hts iwsPX0_mark_in0 hown hK hP 0 rfl rfl 2 (by decide) (hts (.fieldLink RX0 15 "OptimaWorks$ClauseDesk" "wantsNot" "[I") (by decide +kernel)) (fun _ h9 => h9) rfl dX0_mark_22 ?_
        refine lv_iload_n hx hb dX0_mark_25 rfl (lv_at hl 2 rfl) ?_
        refine va_iald hx hb hK hP 2 1 rfl rfl (show ¬ ((0 : Int32) < 0 ∨ 24 ≤ (0 : Int32).toNatClampNeg) by decide) dX0_mark_26 ?_
        refine lv_iand hx hb dX0_mark_27 ?_
        refine lv_aload_n hx hb dX0_mark_28 rfl (lv_at hl 1 rfl) ?_
        refine va_get (D := (dC, dI)) (ci := 0) (v := .ref (bb 1)) (C := RX0) (T := TX0) (N := 7) hx hb hts iwsPX0_mark_in0 hown hK hP 0 rfl rfl 2 (by decide) (hts (.fieldLink RX0 15 "OptimaWorks$ClauseDesk" "wantsNot" "[I") (by decide +kernel)) (fun _ h9 => h9) rfl dX0_mark_29 ?_
        refine lv_iload_n hx hb dX0_mark_32 rfl (lv_at hl 2 rfl) ?_
        refine va_iald hx hb hK hP 2 1 rfl rfl (show ¬ ((0 : Int32) < 0 ∨ 24 ≤ (0 : Int32).toNatClampNeg) by decide) dX0_mark_33 ?_
        refine lv_icmp_ne (tgt := 59) hx hb dX0_mark_34 (by decide) (fun c_34 => ?_) (fun c_34 => ?_)
        · have t_34 : (((nI i) &&& (gn (0 : Int32).toNatClampNeg))).toInt ≠ ((gn (0 : Int32).toNatClampNeg)).toInt := toI_ne c_34 rfl rfl
          refine lv_iinc (v := (nI (i + 1))) (lv' := [(3, .int (nI (i + 1))), (0, .ref d0), (1, .int 0), (2, .int wg)]) hx hb dX0_mark_59 hl (k := 0) rfl (nI_add i 1) (by decide) rfl (fun ls hl => ?_)
          refine lv_goto (tgt := 2) hx hb dX0_mark_62 (by decide) ?_
          have hl := lv_sub hl [0, 1, 2, 3] (l' := [(3, .int (nI (i + 1))), (0, .ref d0), (1, .int 0), (2, .int wg)]) rfl
          exact ih2 (i + 1) g1 g2 _ _ _ (by omega) (by omega) hP hD hS hl
        · have t_34 : (((nI i) &&& (gn (0 : Int32).toNatClampNeg))).toInt = ((gn (0 : Int32).toNatClampNeg)).toInt := toI_nne c_34 rfl rfl
          refine lv_aload_n hx hb dX0_mark_37 rfl (lv_at hl 1 rfl) ?_
          refine va_get (D := (dC, dI)) (ci := 0) (v := .ref (bb 3)) (C := RX0) (T := TX0) (N := 7) hx hb hts iwsPX0_mark_in0 hown hK hP 0 rfl rfl 4 (by decide) (hts (.fieldLink RX0 21 "OptimaWorks$ClauseDesk" "broken" "[I") (by decide +kernel)) (fun _ h9 => h9) rfl dX0_mark_38 ?_
          refine lv_iload_n hx hb dX0_mark_41 rfl (lv_at hl 0 rfl) ?_
          refine lv_dup2_11 hx hb dX0_mark_42 rfl rfl ?_
          refine va_iald hx hb hK hP 3 2 rfl rfl (vp_in_nI (show i < 4096 by omega) (by omega)) dX0_mark_43 ?_
          refine lv_iconst (v := 1) hx hb dX0_mark_44 (by decide) ?_
          refine lv_iload_n hx hb dX0_mark_45 rfl (lv_at hl 2 rfl) ?_
          refine lv_ishl hx hb dX0_mark_46 ?_
          refine lv_topi (fun y1 hy1 => ?_)
          obtain rfl : 1 = y1 := (hy1.trans (by decide)).symm
          refine lv_ixor hx hb dX0_mark_47 ?_
          refine va_iast hx hb hK hP hD hS 3 2 rfl rfl (vp_in_nI (show i < 4096 by omega) (by omega)) dX0_mark_48 (fun H locs hP hD hS => ?_)
          have hP : va_P (dC, dI) vwCl [(d0, .inr (0, [cl, .ref (bb 0), .ref (bb 1), .ref (bb 2), .ref (bb 3), .ref (bb 4), mu])), ((bb 0), .inl ((kd 0), 24, .inl gw)), ((bb 1), .inl ((kd 1), 24, .inl gn)), ((bb 3), .inl ((kd 3), 4096, .inl (upd g1 ((nI i)).toNatClampNeg ((g1 ((nI i)).toNatClampNeg) ^^^ 1)))), ((bb 4), .inl ((kd 4), 4096, .inl g2))] H := hP
          have hD : va_D A [(d0, .inr (0, [cl, .ref (bb 0), .ref (bb 1), .ref (bb 2), .ref (bb 3), .ref (bb 4), mu])), ((bb 0), .inl ((kd 0), 24, .inl gw)), ((bb 1), .inl ((kd 1), 24, .inl gn)), ((bb 3), .inl ((kd 3), 4096, .inl (upd g1 ((nI i)).toNatClampNeg ((g1 ((nI i)).toNatClampNeg) ^^^ 1)))), ((bb 4), .inl ((kd 4), 4096, .inl g2))] := hD
          refine lv_aload_n hx hb dX0_mark_49 rfl (lv_at hl 1 rfl) ?_
          refine va_get (D := (dC, dI)) (ci := 0) (v := .ref (bb 4)) (C := RX0) (T := TX0) (N := 7) hx hb hts iwsPX0_mark_in0 hown hK hP 0 rfl rfl 5 (by decide) (hts (.fieldLink RX0 24 "OptimaWorks$ClauseDesk" "loss" "[I") (by decide +kernel)) (fun _ h9 => h9) rfl dX0_mark_50 ?_
          refine lv_iload_n hx hb dX0_mark_53 rfl (lv_at hl 0 rfl) ?_
          refine lv_dup2_11 hx hb dX0_mark_54 rfl rfl ?_
          refine va_iald hx hb hK hP 4 3 rfl rfl (vp_in_nI (show i < 4096 by omega) (by omega)) dX0_mark_55 ?_
          refine lv_iload_n hx hb dX0_mark_56 rfl (lv_at hl 3 rfl) ?_
          refine lv_iadd hx hb dX0_mark_57 ?_
          refine va_iast hx hb hK hP hD hS 4 3 rfl rfl (vp_in_nI (show i < 4096 by omega) (by omega)) dX0_mark_58 (fun H locs hP hD hS => ?_)
          have hP : va_P (dC, dI) vwCl [(d0, .inr (0, [cl, .ref (bb 0), .ref (bb 1), .ref (bb 2), .ref (bb 3), .ref (bb 4), mu])), ((bb 0), .inl ((kd 0), 24, .inl gw)), ((bb 1), .inl ((kd 1), 24, .inl gn)), ((bb 3), .inl ((kd 3), 4096, .inl (upd g1 ((nI i)).toNatClampNeg ((g1 ((nI i)).toNatClampNeg) ^^^ 1)))), ((bb 4), .inl ((kd 4), 4096, .inl (upd g2 ((nI i)).toNatClampNeg ((g2 ((nI i)).toNatClampNeg) + wg))))] H := hP
          have hD : va_D A [(d0, .inr (0, [cl, .ref (bb 0), .ref (bb 1), .ref (bb 2), .ref (bb 3), .ref (bb 4), mu])), ((bb 0), .inl ((kd 0), 24, .inl gw)), ((bb 1), .inl ((kd 1), 24, .inl gn)), ((bb 3), .inl ((kd 3), 4096, .inl (upd g1 ((nI i)).toNatClampNeg ((g1 ((nI i)).toNatClampNeg) ^^^ 1)))), ((bb 4), .inl ((kd 4), 4096, .inl (upd g2 ((nI i)).toNatClampNeg ((g2 ((nI i)).toNatClampNeg) + wg))))] := hD
          refine lv_iinc (v := (nI (i + 1))) (lv' := [(3, .int (nI (i + 1))), (0, .ref d0), (1, .int 0), (2, .int wg)]) hx hb dX0_mark_59 hl (k := 0) rfl (nI_add i 1) (by decide) rfl (fun ls hl => ?_)
          refine lv_goto (tgt := 2) hx hb dX0_mark_62 (by decide) ?_
          have hl := lv_sub hl [0, 1, 2, 3] (l' := [(3, .int (nI (i + 1))), (0, .ref d0), (1, .int 0), (2, .int wg)]) rfl
          exact ih2 (i + 1) (upd g1 ((nI i)).toNatClampNeg ((g1 ((nI i)).toNatClampNeg) ^^^ 1)) (upd g2 ((nI i)).toNatClampNeg ((g2 ((nI i)).toNatClampNeg) + wg)) _ _ _ (by omega) (by omega) hP hD hS hl
theorem dX0_addClause_0 : decode cX0_addClause 0 = .ok (.aload_n 0, 1) := by decide +kernel
theorem dX0_addClause_1 : decode cX0_addClause 1 = .ok (.getfield 11, 3) := by decide +kernel
theorem dX0_addClause_4 : decode cX0_addClause 4 = .ok (.aload_n 0, 1) := by decide +kernel
theorem dX0_addClause_5 : decode cX0_addClause 5 = .ok (.getfield 27, 3) := by decide +kernel
theorem dX0_addClause_8 : decode cX0_addClause 8 = .ok (.iload_n 1, 1) := by decide +kernel
theorem dX0_addClause_9 : decode cX0_addClause 9 = .ok (.iastore, 1) := by decide +kernel
theorem dX0_addClause_10 : decode cX0_addClause 10 = .ok (.aload_n 0, 1) := by decide +kernel
theorem dX0_addClause_11 : decode cX0_addClause 11 = .ok (.getfield 15, 3) := by decide +kernel
theorem dX0_addClause_14 : decode cX0_addClause 14 = .ok (.aload_n 0, 1) := by decide +kernel
theorem dX0_addClause_15 : decode cX0_addClause 15 = .ok (.getfield 27, 3) := by decide +kernel
theorem dX0_addClause_18 : decode cX0_addClause 18 = .ok (.iload_n 2, 1) := by decide +kernel
theorem dX0_addClause_19 : decode cX0_addClause 19 = .ok (.iastore, 1) := by decide +kernel
theorem dX0_addClause_20 : decode cX0_addClause 20 = .ok (.aload_n 0, 1) := by decide +kernel
theorem dX0_addClause_21 : decode cX0_addClause 21 = .ok (.getfield 18, 3) := by decide +kernel
theorem dX0_addClause_24 : decode cX0_addClause 24 = .ok (.aload_n 0, 1) := by decide +kernel
theorem dX0_addClause_25 : decode cX0_addClause 25 = .ok (.getfield 27, 3) := by decide +kernel
theorem dX0_addClause_28 : decode cX0_addClause 28 = .ok (.iload_n 3, 1) := by decide +kernel
theorem dX0_addClause_29 : decode cX0_addClause 29 = .ok (.iastore, 1) := by decide +kernel
theorem dX0_addClause_30 : decode cX0_addClause 30 = .ok (.iload_n 3, 1) := by decide +kernel
theorem dX0_addClause_31 : decode cX0_addClause 31 = .ok (.ifCond .ne 18, 3) := by decide +kernel
theorem dX0_addClause_34 : decode cX0_addClause 34 = .ok (.aload_n 0, 1) := by decide +kernel
theorem dX0_addClause_35 : decode cX0_addClause 35 = .ok (.dup, 1) := by decide +kernel
theorem dX0_addClause_36 : decode cX0_addClause 36 = .ok (.getfield 31, 3) := by decide +kernel
theorem dX0_addClause_39 : decode cX0_addClause 39 = .ok (.iconst 1, 1) := by decide +kernel
theorem dX0_addClause_40 : decode cX0_addClause 40 = .ok (.aload_n 0, 1) := by decide +kernel
theorem dX0_addClause_41 : decode cX0_addClause 41 = .ok (.getfield 27, 3) := by decide +kernel
theorem dX0_addClause_44 : decode cX0_addClause 44 = .ok (.ishl, 1) := by decide +kernel
theorem dX0_addClause_45 : decode cX0_addClause 45 = .ok (.ior, 1) := by decide +kernel
theorem dX0_addClause_46 : decode cX0_addClause 46 = .ok (.putfield 31, 3) := by decide +kernel
theorem dX0_addClause_49 : decode cX0_addClause 49 = .ok (.aload_n 0, 1) := by decide +kernel
theorem dX0_addClause_50 : decode cX0_addClause 50 = .ok (.aload_n 0, 1) := by decide +kernel
theorem dX0_addClause_51 : decode cX0_addClause 51 = .ok (.getfield 27, 3) := by decide +kernel
theorem dX0_addClause_54 : decode cX0_addClause 54 = .ok (.iload_n 3, 1) := by decide +kernel
theorem dX0_addClause_55 : decode cX0_addClause 55 = .ok (.invokevirtual 34, 3) := by decide +kernel
theorem dX0_addClause_58 : decode cX0_addClause 58 = .ok (.aload_n 0, 1) := by decide +kernel
theorem dX0_addClause_59 : decode cX0_addClause 59 = .ok (.dup, 1) := by decide +kernel
theorem dX0_addClause_60 : decode cX0_addClause 60 = .ok (.getfield 27, 3) := by decide +kernel
theorem dX0_addClause_63 : decode cX0_addClause 63 = .ok (.iconst 1, 1) := by decide +kernel
theorem dX0_addClause_64 : decode cX0_addClause 64 = .ok (.iadd, 1) := by decide +kernel
theorem dX0_addClause_65 : decode cX0_addClause 65 = .ok (.putfield 27, 3) := by decide +kernel
theorem dX0_addClause_68 : decode cX0_addClause 68 = .ok (.aload_n 0, 1) := by decide +kernel
theorem dX0_addClause_69 : decode cX0_addClause 69 = .ok (.getfield 27, 3) := by decide +kernel
theorem dX0_addClause_72 : decode cX0_addClause 72 = .ok (.iconst 1, 1) := by decide +kernel
theorem dX0_addClause_73 : decode cX0_addClause 73 = .ok (.isub, 1) := by decide +kernel
theorem dX0_addClause_74 : decode cX0_addClause 74 = .ok (.ireturn, 1) := by decide +kernel
def wsPX0_addClause : List Cond := .code yX0_addClause cX0_addClause 4 (some .int) :: ([.fieldLink RX0 11 "OptimaWorks$ClauseDesk" "wants" "[I", .fieldLink RX0 27 "OptimaWorks$ClauseDesk" "clauses" "I", .fieldLink RX0 15 "OptimaWorks$ClauseDesk" "wantsNot" "[I", .fieldLink RX0 18 "OptimaWorks$ClauseDesk" "weight" "[I", .fieldLink RX0 31 "OptimaWorks$ClauseDesk" "musts" "I"] ++ wsX00 ++ (wsV RX0 34 RX0 yX0_mark wsPX0_mark))
theorem iwsPX0_addClause_in0 : ∀ w ∈ wsX00, w ∈ wsPX0_addClause := fun _ h => List.mem_cons_of_mem _ (List.mem_append_left _ (List.mem_append_right _ h))
theorem gwsPX0_addClause_0 : GoodIn wsPX0_addClause (wsV RX0 34 RX0 yX0_mark wsPX0_mark) := goodIn_sub (fun _ h => List.mem_cons_of_mem _ (List.mem_append_right _ h)) (by decide +kernel)
set_option maxHeartbeats 4000000 in
set_option maxRecDepth 100000 in
/-- addClause(..) on a fresh desk -/
theorem p_X0_addClause (l : Launch) (dC : Nat → ClassId) (dI : Nat → Nat → Nat) (d0 : Nat) (bb : Nat → Nat) (kd : Nat → ClassId) (qy : Int32) (qn : Int32) (qw : Int32) (sz : Nat) : Met l yX0_addClause wsPX0_addClause ({ frames := 1, cells := 0, slots := 0, locals := 23 }) (va_Pc [.ref d0, .int qy, .int qn, .int qw] (fun U => U.heap.size = sz ∧ va_P (dC, dI) vwCl [(d0, .inr (0, [.int 0, .ref (bb 0), .ref (bb 1), .ref (bb 2), .ref (bb 3), .ref (bb 4), .int 0])), ((bb 0), .inl ((kd 0), 24, .inl (fun _ => 0))), ((bb 1), .inl ((kd 1), 24, .inl (fun _ => 0))), ((bb 2), .inl ((kd 2), 24, .inl (fun _ => 0))), ((bb 3), .inl ((kd 3), 4096, .inl (fun _ => 0))), ((bb 4), .inl ((kd 4), 4096, .inl (fun _ => 0)))] U.heap ∧ va_K (dC, dI) vwCl [((kd 0), .int), ((kd 1), .int), ((kd 2), .int), ((kd 3), .int), ((kd 4), .int)] U ∧ va_D (fun _ => True) [(d0, .inr (0, [.int 0, .ref (bb 0), .ref (bb 1), .ref (bb 2), .ref (bb 3), .ref (bb 4), .int 0])), ((bb 0), .inl ((kd 0), 24, .inl (fun _ => 0))), ((bb 1), .inl ((kd 1), 24, .inl (fun _ => 0))), ((bb 2), .inl ((kd 2), 24, .inl (fun _ => 0))), ((bb 3), .inl ((kd 3), 4096, .inl (fun _ => 0))), ((bb 4), .inl ((kd 4), 4096, .inl (fun _ => 0)))])) (va_Qi (fun (r : Int32) (u : Unit) => r = 0) (fun (u : Unit) t => va_P (dC, dI) vwCl [] t.heap ∧ va_K (dC, dI) vwCl [] t ∧ va_D (va_A [(d0, .inr (0, [.int 0, .ref (bb 0), .ref (bb 1), .ref (bb 2), .ref (bb 3), .ref (bb 4), .int 0])), ((bb 0), .inl ((kd 0), 24, .inl (fun _ => 0))), ((bb 1), .inl ((kd 1), 24, .inl (fun _ => 0))), ((bb 2), .inl ((kd 2), 24, .inl (fun _ => 0))), ((bb 3), .inl ((kd 3), 4096, .inl (fun _ => 0))), ((bb 4), .inl ((kd 4), 4096, .inl (fun _ => 0)))] sz) []) (va_A [(d0, .inr (0, [.int 0, .ref (bb 0), .ref (bb 1), .ref (bb 2), .ref (bb 3), .ref (bb 4), .int 0])), ((bb 0), .inl ((kd 0), 24, .inl (fun _ => 0))), ((bb 1), .inl ((kd 1), 24, .inl (fun _ => 0))), ((bb 2), .inl ((kd 2), 24, .inl (fun _ => 0))), ((bb 3), .inl ((kd 3), 4096, .inl (fun _ => 0))), ((bb 4), .inl ((kd 4), 4096, .inl (fun _ => 0)))] sz)) 0 0 (va_A [(d0, .inr (0, [.int 0, .ref (bb 0), .ref (bb 1), .ref (bb 2), .ref (bb 3), .ref (bb 4), .int 0])), ((bb 0), .inl ((kd 0), 24, .inl (fun _ => 0))), ((bb 1), .inl ((kd 1), 24, .inl (fun _ => 0))), ((bb 2), .inl ((kd 2), 24, .inl (fun _ => 0))), ((bb 3), .inl ((kd 3), 4096, .inl (fun _ => 0))), ((bb 4), .inl ((kd 4), 4096, .inl (fun _ => 0)))] sz) := by
  refine Met.ofW (cc := cX0_addClause) (maxL := 4) (ret := (some .int)) (by decide) rfl ?_
  intro p e s m args below meth c s₁ B hml hv
  obtain ⟨rfl, hsz, hP, hK, hD0⟩ := hv
  have hx := B.exec
  have hb := B.bytes
  have hr := B.returns
  have hts := atoms_spec (ws := wsPX0_addClause) B.pre
  have hown : s.vm.findClass RX0 = some m.cls := findClass_of_methodNamed B.named
  have hlocks := B.notSynchronized
  subst hsz
  have hD := hD0.self (sz := s.heap.size)
  generalize hAe : va_A [(d0, .inr (0, [.int 0, .ref (bb 0), .ref (bb 1), .ref (bb 2), .ref (bb 3), .ref (bb 4), .int 0])), ((bb 0), .inl ((kd 0), 24, .inl (fun _ => 0))), ((bb 1), .inl ((kd 1), 24, .inl (fun _ => 0))), ((bb 2), .inl ((kd 2), 24, .inl (fun _ => 0))), ((bb 3), .inl ((kd 3), 4096, .inl (fun _ => 0))), ((bb 4), .inl ((kd 4), 4096, .inl (fun _ => 0)))] s.heap.size = A at hD ⊢
  have hA : ∀ q : Nat, s.heap.size ≤ q → A q := fun q h => by rw [← hAe]; exact Or.inr h
  have hS : va_S A s.heap s.heap [] := va_S.rf
  have hP : va_P (dC, dI) vwCl [(d0, .inr (0, [.int 0, .ref (bb 0), .ref (bb 1), .ref (bb 2), .ref (bb 3), .ref (bb 4), .int 0])), ((bb 0), .inl ((kd 0), 24, .inl (fun _ => 0))), ((bb 1), .inl ((kd 1), 24, .inl (fun _ => 0))), ((bb 2), .inl ((kd 2), 24, .inl (fun _ => 0))), ((bb 3), .inl ((kd 3), 4096, .inl (fun _ => 0))), ((bb 4), .inl ((kd 4), 4096, .inl (fun _ => 0)))] s.heap := hP
  have hl := lv_entry ([.ref d0, .int qy, .int qn, .int qw]) (n := 4) (Nat.le_of_ble_eq_true rfl)
  rw [lg_entry_eq]
  generalize (lg_sl ([.ref d0, .int qy, .int qn, .int qw]) ++ List.replicate (4 - (lg_sl ([.ref d0, .int qy, .int qn, .int qw])).length) Slot.unset).toArray = ls at hl ⊢
  have hl : lv_has ls 4 [(0, .ref d0), (1, .int qy), (2, .int qn), (3, .int qw)] := hl
  refine lv_aload_n hx hb dX0_addClause_0 rfl (lv_at hl 0 rfl) ?_
  refine va_get (D := (dC, dI)) (ci := 0) (v := .ref (bb 0)) (C := RX0) (T := TX0) (N := 7) hx hb hts iwsPX0_addClause_in0 hown hK hP 0 rfl rfl 1 (by decide) (hts (.fieldLink RX0 11 "OptimaWorks$ClauseDesk" "wants" "[I") (by decide +kernel)) (fun _ h9 => h9) rfl dX0_addClause_1 ?_
  refine lv_aload_n hx hb dX0_addClause_4 rfl (lv_at hl 0 rfl) ?_
  refine va_get (D := (dC, dI)) (ci := 0) (v := .int 0) (C := RX0) (T := TX0) (N := 7) hx hb hts iwsPX0_addClause_in0 hown hK hP 0 rfl rfl 0 (by decide) (hts (.fieldLink RX0 27 "OptimaWorks$ClauseDesk" "clauses" "I") (by decide +kernel)) (fun _ h9 => h9) rfl dX0_addClause_5 ?_
  refine lv_iload_n hx hb dX0_addClause_8 rfl (lv_at hl 1 rfl) ?_
  refine va_iast hx hb hK hP hD hS 1 0 rfl rfl (show ¬ ((0 : Int32) < 0 ∨ 24 ≤ (0 : Int32).toNatClampNeg) by decide) dX0_addClause_9 (fun H locs hP hD hS => ?_)
  have hP : va_P (dC, dI) vwCl [(d0, .inr (0, [.int 0, .ref (bb 0), .ref (bb 1), .ref (bb 2), .ref (bb 3), .ref (bb 4), .int 0])), ((bb 0), .inl ((kd 0), 24, .inl (upd (fun _ => 0) (0 : Int32).toNatClampNeg qy))), ((bb 1), .inl ((kd 1), 24, .inl (fun _ => 0))), ((bb 2), .inl ((kd 2), 24, .inl (fun _ => 0))), ((bb 3), .inl ((kd 3), 4096, .inl (fun _ => 0))), ((bb 4), .inl ((kd 4), 4096, .inl (fun _ => 0)))] H := hP
  have hD : va_D A [(d0, .inr (0, [.int 0, .ref (bb 0), .ref (bb 1), .ref (bb 2), .ref (bb 3), .ref (bb 4), .int 0])), ((bb 0), .inl ((kd 0), 24, .inl (upd (fun _ => 0) (0 : Int32).toNatClampNeg qy))), ((bb 1), .inl ((kd 1), 24, .inl (fun _ => 0))), ((bb 2), .inl ((kd 2), 24, .inl (fun _ => 0))), ((bb 3), .inl ((kd 3), 4096, .inl (fun _ => 0))), ((bb 4), .inl ((kd 4), 4096, .inl (fun _ => 0)))] := hD
  refine lv_aload_n hx hb dX0_addClause_10 rfl (lv_at hl 0 rfl) ?_
  refine va_get (D := (dC, dI)) (ci := 0) (v := .ref (bb 1)) (C := RX0) (T := TX0) (N := 7) hx hb hts iwsPX0_addClause_in0 hown hK hP 0 rfl rfl 2 (by decide) (hts (.fieldLink RX0 15 "OptimaWorks$ClauseDesk" "wantsNot" "[I") (by decide +kernel)) (fun _ h9 => h9) rfl dX0_addClause_11 ?_
  refine lv_aload_n hx hb dX0_addClause_14 rfl (lv_at hl 0 rfl) ?_
  refine va_get (D := (dC, dI)) (ci := 0) (v := .int 0) (C := RX0) (T := TX0) (N := 7) hx hb hts iwsPX0_addClause_in0 hown hK hP 0 rfl rfl 0 (by decide) (hts (.fieldLink RX0 27 "OptimaWorks$ClauseDesk" "clauses" "I") (by decide +kernel)) (fun _ h9 => h9) rfl dX0_addClause_15 ?_
  refine lv_iload_n hx hb dX0_addClause_18 rfl (lv_at hl 2 rfl) ?_
  refine va_iast hx hb hK hP hD hS 2 1 rfl rfl (show ¬ ((0 : Int32) < 0 ∨ 24 ≤ (0 : Int32).toNatClampNeg) by decide) dX0_addClause_19 (fun H locs hP hD hS => ?_)
  have hP : va_P (dC, dI) vwCl [(d0, .inr (0, [.int 0, .ref (bb 0), .ref (bb 1), .ref (bb 2), .ref (bb 3), .ref (bb 4), .int 0])), ((bb 0), .inl ((kd 0), 24, .inl (upd (fun _ => 0) (0 : Int32).toNatClampNeg qy))), ((bb 1), .inl ((kd 1), 24, .inl (upd (fun _ => 0) (0 : Int32).toNatClampNeg qn))), ((bb 2), .inl ((kd 2), 24, .inl (fun _ => 0))), ((bb 3), .inl ((kd 3), 4096, .inl (fun _ => 0))), ((bb 4), .inl ((kd 4), 4096, .inl (fun _ => 0)))] H := hP
  have hD : va_D A [(d0, .inr (0, [.int 0, .ref (bb 0), .ref (bb 1), .ref (bb 2), .ref (bb 3), .ref (bb 4), .int 0])), ((bb 0), .inl ((kd 0), 24, .inl (upd (fun _ => 0) (0 : Int32).toNatClampNeg qy))), ((bb 1), .inl ((kd 1), 24, .inl (upd (fun _ => 0) (0 : Int32).toNatClampNeg qn))), ((bb 2), .inl ((kd 2), 24, .inl (fun _ => 0))), ((bb 3), .inl ((kd 3), 4096, .inl (fun _ => 0))), ((bb 4), .inl ((kd 4), 4096, .inl (fun _ => 0)))] := hD
  refine lv_aload_n hx hb dX0_addClause_20 rfl (lv_at hl 0 rfl) ?_
  refine va_get (D := (dC, dI)) (ci := 0) (v := .ref (bb 2)) (C := RX0) (T := TX0) (N := 7) hx hb hts iwsPX0_addClause_in0 hown hK hP 0 rfl rfl 3 (by decide) (hts (.fieldLink RX0 18 "OptimaWorks$ClauseDesk" "weight" "[I") (by decide +kernel)) (fun _ h9 => h9) rfl dX0_addClause_21 ?_
  refine lv_aload_n hx hb dX0_addClause_24 rfl (lv_at hl 0 rfl) ?_
  refine va_get (D := (dC, dI)) (ci := 0) (v := .int 0) (C := RX0) (T := TX0) (N := 7) hx hb hts iwsPX0_addClause_in0 hown hK hP 0 rfl rfl 0 (by decide) (hts (.fieldLink RX0 27 "OptimaWorks$ClauseDesk" "clauses" "I") (by decide +kernel)) (fun _ h9 => h9) rfl dX0_addClause_25 ?_
  refine lv_iload_n hx hb dX0_addClause_28 rfl (lv_at hl 3 rfl) ?_
  refine va_iast hx hb hK hP hD hS 3 2 rfl rfl (show ¬ ((0 : Int32) < 0 ∨ 24 ≤ (0 : Int32).toNatClampNeg) by decide) dX0_addClause_29 (fun H locs hP hD hS => ?_)
  have hP : va_P (dC, dI) vwCl [(d0, .inr (0, [.int 0, .ref (bb 0), .ref (bb 1), .ref (bb 2), .ref (bb 3), .ref (bb 4), .int 0])), ((bb 0), .inl ((kd 0), 24, .inl (upd (fun _ => 0) (0 : Int32).toNatClampNeg qy))), ((bb 1), .inl ((kd 1), 24, .inl (upd (fun _ => 0) (0 : Int32).toNatClampNeg qn))), ((bb 2), .inl ((kd 2), 24, .inl (upd (fun _ => 0) (0 : Int32).toNatClampNeg qw))), ((bb 3), .inl ((kd 3), 4096, .inl (fun _ => 0))), ((bb 4), .inl ((kd 4), 4096, .inl (fun _ => 0)))] H := hP
  have hD : va_D A [(d0, .inr (0, [.int 0, .ref (bb 0), .ref (bb 1), .ref (bb 2), .ref (bb 3), .ref (bb 4), .int 0])), ((bb 0), .inl ((kd 0), 24, .inl (upd (fun _ => 0) (0 : Int32).toNatClampNeg qy))), ((bb 1), .inl ((kd 1), 24, .inl (upd (fun _ => 0) (0 : Int32).toNatClampNeg qn))), ((bb 2), .inl ((kd 2), 24, .inl (upd (fun _ => 0) (0 : Int32).toNatClampNeg qw))), ((bb 3), .inl ((kd 3), 4096, .inl (fun _ => 0))), ((bb 4), .inl ((kd 4), 4096, .inl (fun _ => 0)))] := hD
  refine lv_iload_n hx hb dX0_addClause_30 rfl (lv_at hl 3 rfl) ?_
  refine lv_if_ne (tgt := 49) hx hb dX0_addClause_31 (by decide) (fun c_31 => ?_) (fun c_31 => ?_)
  · have t_31 : (qw).toInt ≠ 0 := toI_ne c_31 rfl (by decide)
    refine lv_aload_n hx hb dX0_addClause_49 rfl (lv_at hl 0 rfl) ?_
    refine lv_aload_n hx hb dX0_addClause_50 rfl (lv_at hl 0 rfl) ?_
    refine va_get (D := (dC, dI)) (ci := 0) (v := .int 0) (C := RX0) (T := TX0) (N := 7) hx hb hts iwsPX0_addClause_in0 hown hK hP 0 rfl rfl 0 (by decide) (hts (.fieldLink RX0 27 "OptimaWorks$ClauseDesk" "clauses" "I") (by decide +kernel)) (fun _ h9 => h9) rfl dX0_addClause_51 ?_
    refine lv_iload_n hx hb dX0_addClause_54 rfl (lv_at hl 3 rfl) ?_
    have hPc := hP.sub (ws' := [(d0, .inr (0, [.int 0, .ref (bb 0), .ref (bb 1), .ref (bb 2), .ref (bb 3), .ref (bb 4), .int 0])), ((bb 0), .inl ((kd 0), 24, .inl (upd (fun _ => 0) (0 : Int32).toNatClampNeg qy))), ((bb 1), .inl ((kd 1), 24, .inl (upd (fun _ => 0) (0 : Int32).toNatClampNeg qn))), ((bb 3), .inl ((kd 3), 4096, .inl (fun _ => 0))), ((bb 4), .inl ((kd 4), 4096, .inl (fun _ => 0)))]) [0, 1, 2, 4, 5] rfl
    have hDc := hD.sub (ws' := [(d0, .inr (0, [.int 0, .ref (bb 0), .ref (bb 1), .ref (bb 2), .ref (bb 3), .ref (bb 4), .int 0])), ((bb 0), .inl ((kd 0), 24, .inl (upd (fun _ => 0) (0 : Int32).toNatClampNeg qy))), ((bb 1), .inl ((kd 1), 24, .inl (upd (fun _ => 0) (0 : Int32).toNatClampNeg qn))), ((bb 3), .inl ((kd 3), 4096, .inl (fun _ => 0))), ((bb 4), .inl ((kd 4), 4096, .inl (fun _ => 0)))]) [0, 1, 2, 4, 5] (by decide) rfl
    have hKc := hK.sub (tys' := [((kd 0), .int), ((kd 1), .int), ((kd 3), .int), ((kd 4), .int)]) [0, 1, 3, 4] rfl
    have hFc := va_free (wc := [(d0, .inr (0, [.int 0, .ref (bb 0), .ref (bb 1), .ref (bb 2), .ref (bb 3), .ref (bb 4), .int 0])), ((bb 0), .inl ((kd 0), 24, .inl (upd (fun _ => 0) (0 : Int32).toNatClampNeg qy))), ((bb 1), .inl ((kd 1), 24, .inl (upd (fun _ => 0) (0 : Int32).toNatClampNeg qn))), ((bb 3), .inl ((kd 3), 4096, .inl (fun _ => 0))), ((bb 4), .inl ((kd 4), 4096, .inl (fun _ => 0)))]) hD hS hA [0, 1, 2, 4, 5] rfl
    refine va_callv (va_runV (As := [.int 0, .int qw]) (rest := []) ⟨hx, hb, hml, hown, hts⟩ (p_X0_mark l dC dI d0 bb kd (.int 0) (.int 0) (upd (fun _ => 0) (0 : Int32).toNatClampNeg qy) (upd (fun _ => 0) (0 : Int32).toNatClampNeg qn) qw H.size) (cwV 2 hts gwsPX0_addClause_0 rfl rfl rfl (by decide +kernel) ⟨by decide +kernel, by decide +kernel⟩) ⟨fun a U g mk q => by obtain ⟨q0, q1, qP, qK, qD⟩ := q; exact ⟨q0, q1, qP, va_K.moved (u := U) (U := U.calling g mk a) (Vm.Alike.refl U.vm) qK, qD⟩, va_recv hKc hPc (ci := 0) (q0 := 0) rfl rfl, fun U hU9 hW => ⟨rfl, by rw [hU9], by rw [hU9]; exact hPc, va_K.moved hW.alike hKc, hDc.weaken (fun _ _ _ _ => trivial)⟩⟩ rfl rfl hl.1 rfl (lv_room (Nat.le_of_ble_eq_true rfl)) dX0_addClause_55 ⟨by decide +kernel, by decide +kernel⟩) hS (fun q _ h => hFc q h) hFc (fun u t H1 locs ht hvm hw hB hz1 hk1 hS => ?_)
    obtain ⟨hP1, hK1, hD1⟩ := hB
    rw [ht] at hP1
    have hK1 := va_K.moved hvm.symm hK1
    obtain ⟨hP, hD⟩ := va_join (wr := [((bb 2), .inl ((kd 2), 24, .inl (upd (fun _ => 0) (0 : Int32).toNatClampNeg qw)))]) (w1 := [(d0, .inr (0, [.int 0, .ref (bb 0), .ref (bb 1), .ref (bb 2), .ref (bb 3), .ref (bb 4), .int 0]))]) hP hD [0, 1, 2, 4, 5] [3] rfl rfl (by decide) (by decide) hk1 hFc hP1 hD1
    generalize H1 = H at hP hS ⊢
    have hP : va_P (dC, dI) vwCl [((bb 2), .inl ((kd 2), 24, .inl (upd (fun _ => 0) (0 : Int32).toNatClampNeg qw))), (d0, .inr (0, [.int 0, .ref (bb 0), .ref (bb 1), .ref (bb 2), .ref (bb 3), .ref (bb 4), .int 0]))] H := hP
    have hD : va_D A [((bb 2), .inl ((kd 2), 24, .inl (upd (fun _ => 0) (0 : Int32).toNatClampNeg qw))), (d0, .inr (0, [.int 0, .ref (bb 0), .ref (bb 1), .ref (bb 2), .ref (bb 3), .ref (bb 4), .int 0]))] := hD
    refine lv_aload_n hx hb dX0_addClause_58 rfl (lv_at hl 0 rfl) ?_
    refine lv_dup hx hb dX0_addClause_59 rfl ?_
    refine va_get (D := (dC, dI)) (ci := 0) (v := .int 0) (C := RX0) (T := TX0) (N := 7) hx hb hts iwsPX0_addClause_in0 hown hK hP 1 rfl rfl 0 (by decide) (hts (.fieldLink RX0 27 "OptimaWorks$ClauseDesk" "clauses" "I") (by decide +kernel)) (fun _ h9 => h9) rfl dX0_addClause_60 ?_
    refine lv_iconst (v := 1) hx hb dX0_addClause_63 (by decide) ?_
    refine lv_iadd hx hb dX0_addClause_64 ?_
    refine lv_topi (fun y1 hy1 => ?_)
    obtain rfl : 1 = y1 := (hy1.trans (by decide)).symm
    refine va_put (D := (dC, dI)) (ci := 0) (v := .int 1) (ty := .int) (C := RX0) (T := TX0) (N := 7) hx hb hts iwsPX0_addClause_in0 tyX0 tyX0_ok nmX0 hown hK hP hD hS 1 rfl rfl 0 (by decide) (hts (.fieldLink RX0 27 "OptimaWorks$ClauseDesk" "clauses" "I") (by decide +kernel)) (fun _ h9 => h9) rfl (by decide +kernel) rfl rfl (Nat.le_of_ble_eq_true rfl) dX0_addClause_65 (fun H locs hP hD hS => ?_)
    have hP : va_P (dC, dI) vwCl [((bb 2), .inl ((kd 2), 24, .inl (upd (fun _ => 0) (0 : Int32).toNatClampNeg qw))), (d0, .inr (0, [.int 1, .ref (bb 0), .ref (bb 1), .ref (bb 2), .ref (bb 3), .ref (bb 4), .int 0]))] H := hP
    have hD : va_D A [((bb 2), .inl ((kd 2), 24, .inl (upd (fun _ => 0) (0 : Int32).toNatClampNeg qw))), (d0, .inr (0, [.int 1, .ref (bb 0), .ref (bb 1), .ref (bb 2), .ref (bb 3), .ref (bb 4), .int 0]))] := hD
    refine lv_aload_n hx hb dX0_addClause_68 rfl (lv_at hl 0 rfl) ?_
    refine va_get (D := (dC, dI)) (ci := 0) (v := .int 1) (C := RX0) (T := TX0) (N := 7) hx hb hts iwsPX0_addClause_in0 hown hK hP 1 rfl rfl 0 (by decide) (hts (.fieldLink RX0 27 "OptimaWorks$ClauseDesk" "clauses" "I") (by decide +kernel)) (fun _ h9 => h9) rfl dX0_addClause_69 ?_
    refine lv_iconst (v := 1) hx hb dX0_addClause_72 (by decide) ?_
    refine lv_isub hx hb dX0_addClause_73 ?_
    refine lv_topi (fun y2 hy2 => ?_)
    obtain rfl : 0 = y2 := (hy2.trans (by decide)).symm
    refine W.widen (k := 0) (n := 0) (by decide +kernel) (by decide +kernel) ?_
    exact W.iret (v := 0) hx hb hr (fun t ht hW => ⟨⟨0, (), rfl, by (first | rfl | assumption | trivial | omega | (simp [c_31]; done) | (simp; omega)), by rw [ht]; exact hP.sub [] rfl, va_K.moved hW.alike (hK.sub [] rfl), hD.sub [] (by decide) rfl⟩, hS.F ht⟩) hS.2.2 dX0_addClause_74
  · have t_31 : (qw).toInt = 0 := toI_nne c_31 rfl (by decide)
    refine lv_aload_n hx hb dX0_addClause_34 rfl (lv_at hl 0 rfl) ?_
    refine lv_dup hx hb dX0_addClause_35 rfl ?_
    refine va_get (D := (dC, dI)) (ci := 0) (v := .int 0) (C := RX0) (T := TX0) (N := 7) hx hb hts iwsPX0_addClause_in0 hown hK hP 0 rfl rfl 6 (by decide) (hts (.fieldLink RX0 31 "OptimaWorks$ClauseDesk" "musts" "I") (by decide +kernel)) (fun _ h9 => h9) rfl dX0_addClause_36 ?_
    refine lv_iconst (v := 1) hx hb dX0_addClause_39 (by decide) ?_
    refine lv_aload_n hx hb dX0_addClause_40 rfl (lv_at hl 0 rfl) ?_
    refine va_get (D := (dC, dI)) (ci := 0) (v := .int 0) (C := RX0) (T := TX0) (N := 7) hx hb hts iwsPX0_addClause_in0 hown hK hP 0 rfl rfl 0 (by decide) (hts (.fieldLink RX0 27 "OptimaWorks$ClauseDesk" "clauses" "I") (by decide +kernel)) (fun _ h9 => h9) rfl dX0_addClause_41 ?_
    refine lv_ishl hx hb dX0_addClause_44 ?_
    refine lv_topi (fun y3 hy3 => ?_)
    obtain rfl : 1 = y3 := (hy3.trans (by decide)).symm
    refine lv_ior hx hb dX0_addClause_45 ?_
    refine lv_topi (fun y4 hy4 => ?_)
    obtain rfl : 1 = y4 := (hy4.trans (by decide)).symm
    refine va_put (D := (dC, dI)) (ci := 0) (v := .int 1) (ty := .int) (C := RX0) (T := TX0) (N := 7) hx hb hts iwsPX0_addClause_in0 tyX0 tyX0_ok nmX0 hown hK hP hD hS 0 rfl rfl 6 (by decide) (hts (.fieldLink RX0 31 "OptimaWorks$ClauseDesk" "musts" "I") (by decide +kernel)) (fun _ h9 => h9) rfl (by decide +kernel) rfl rfl (Nat.le_of_ble_eq_true rfl) dX0_addClause_46 (fun H locs hP hD hS => ?_)
    have hP : va_P (dC, dI) vwCl [(d0, .inr (0, [.int 0, .ref (bb 0), .ref (bb 1), .ref (bb 2), .ref (bb 3), .ref (bb 4), .int 1])), ((bb 0), .inl ((kd 0), 24, .inl (upd (fun _ => 0) (0 : Int32).toNatClampNeg qy))), ((bb 1), .inl ((kd 1), 24, .inl (upd (fun _ => 0) (0 : Int32).toNatClampNeg qn))), ((bb 2), .inl ((kd 2), 24, .inl (upd (fun _ => 0) (0 : Int32).toNatClampNeg qw))), ((bb 3), .inl ((kd 3), 4096, .inl (fun _ => 0))), ((bb 4), .inl ((kd 4), 4096, .inl (fun _ => 0)))] H := hP
    have hD : va_D A [(d0, .inr (0, [.int 0, .ref (bb 0), .ref (bb 1), .ref (bb 2), .ref (bb 3), .ref (bb 4), .int 1])), ((bb 0), .inl ((kd 0), 24, .inl (upd (fun _ => 0) (0 : Int32).toNatClampNeg qy))), ((bb 1), .inl ((kd 1), 24, .inl (upd (fun _ => 0) (0 : Int32).toNatClampNeg qn))), ((bb 2), .inl ((kd 2), 24, .inl (upd (fun _ => 0) (0 : Int32).toNatClampNeg qw))), ((bb 3), .inl ((kd 3), 4096, .inl (fun _ => 0))), ((bb 4), .inl ((kd 4), 4096, .inl (fun _ => 0)))] := hD
    refine lv_aload_n hx hb dX0_addClause_49 rfl (lv_at hl 0 rfl) ?_
    refine lv_aload_n hx hb dX0_addClause_50 rfl (lv_at hl 0 rfl) ?_
    refine va_get (D := (dC, dI)) (ci := 0) (v := .int 0) (C := RX0) (T := TX0) (N := 7) hx hb hts iwsPX0_addClause_in0 hown hK hP 0 rfl rfl 0 (by decide) (hts (.fieldLink RX0 27 "OptimaWorks$ClauseDesk" "clauses" "I") (by decide +kernel)) (fun _ h9 => h9) rfl dX0_addClause_51 ?_
    refine lv_iload_n hx hb dX0_addClause_54 rfl (lv_at hl 3 rfl) ?_
    have hPc := hP.sub (ws' := [(d0, .inr (0, [.int 0, .ref (bb 0), .ref (bb 1), .ref (bb 2), .ref (bb 3), .ref (bb 4), .int 1])), ((bb 0), .inl ((kd 0), 24, .inl (upd (fun _ => 0) (0 : Int32).toNatClampNeg qy))), ((bb 1), .inl ((kd 1), 24, .inl (upd (fun _ => 0) (0 : Int32).toNatClampNeg qn))), ((bb 3), .inl ((kd 3), 4096, .inl (fun _ => 0))), ((bb 4), .inl ((kd 4), 4096, .inl (fun _ => 0)))]) [0, 1, 2, 4, 5] rfl
    have hDc := hD.sub (ws' := [(d0, .inr (0, [.int 0, .ref (bb 0), .ref (bb 1), .ref (bb 2), .ref (bb 3), .ref (bb 4), .int 1])), ((bb 0), .inl ((kd 0), 24, .inl (upd (fun _ => 0) (0 : Int32).toNatClampNeg qy))), ((bb 1), .inl ((kd 1), 24, .inl (upd (fun _ => 0) (0 : Int32).toNatClampNeg qn))), ((bb 3), .inl ((kd 3), 4096, .inl (fun _ => 0))), ((bb 4), .inl ((kd 4), 4096, .inl (fun _ => 0)))]) [0, 1, 2, 4, 5] (by decide) rfl
    have hKc := hK.sub (tys' := [((kd 0), .int), ((kd 1), .int), ((kd 3), .int), ((kd 4), .int)]) [0, 1, 3, 4] rfl
    have hFc := va_free (wc := [(d0, .inr (0, [.int 0, .ref (bb 0), .ref (bb 1), .ref (bb 2), .ref (bb 3), .ref (bb 4), .int 1])), ((bb 0), .inl ((kd 0), 24, .inl (upd (fun _ => 0) (0 : Int32).toNatClampNeg qy))), ((bb 1), .inl ((kd 1), 24, .inl (upd (fun _ => 0) (0 : Int32).toNatClampNeg qn))), ((bb 3), .inl ((kd 3), 4096, .inl (fun _ => 0))), ((bb 4), .inl ((kd 4), 4096, .inl (fun _ => 0)))]) hD hS hA [0, 1, 2, 4, 5] rfl
    refine va_callv (va_runV (As := [.int 0, .int qw]) (rest := []) ⟨hx, hb, hml, hown, hts⟩ (p_X0_mark l dC dI d0 bb kd (.int 0) (.int 1) (upd (fun _ => 0) (0 : Int32).toNatClampNeg qy) (upd (fun _ => 0) (0 : Int32).toNatClampNeg qn) qw H.size) (cwV 2 hts gwsPX0_addClause_0 rfl rfl rfl (by decide +kernel) ⟨by decide +kernel, by decide +kernel⟩) ⟨fun a U g mk q => by obtain ⟨q0, q1, qP, qK, qD⟩ := q; exact ⟨q0, q1, qP, va_K.moved (u := U) (U := U.calling g mk a) (Vm.Alike.refl U.vm) qK, qD⟩, va_recv hKc hPc (ci := 0) (q0 := 0) rfl rfl, fun U hU9 hW => ⟨rfl, by rw [hU9], by rw [hU9]; exact hPc, va_K.moved hW.alike hKc, hDc.weaken (fun _ _ _ _ => trivial)⟩⟩ rfl rfl hl.1 rfl (lv_room (Nat.le_of_ble_eq_true rfl)) dX0_addClause_55 ⟨by decide +kernel, by decide +kernel⟩) hS (fun q _ h => hFc q h) hFc (fun u t H1 locs ht hvm hw hB hz1 hk1 hS => ?_)
    obtain ⟨hP1, hK1, hD1⟩ := hB
    rw [ht] at hP1
    have hK1 := va_K.moved hvm.symm hK1
    obtain ⟨hP, hD⟩ := va_join (wr := [((bb 2), .inl ((kd 2), 24, .inl (upd (fun _ => 0) (0 : Int32).toNatClampNeg qw)))]) (w1 := [(d0, .inr (0, [.int 0, .ref (bb 0), .ref (bb 1), .ref (bb 2), .ref (bb 3), .ref (bb 4), .int 1]))]) hP hD [0, 1, 2, 4, 5] [3] rfl rfl (by decide) (by decide) hk1 hFc hP1 hD1
    generalize H1 = H at hP hS ⊢
    have hP : va_P (dC, dI) vwCl [((bb 2), .inl ((kd 2), 24, .inl (upd (fun _ => 0) (0 : Int32).toNatClampNeg qw))), (d0, .inr (0, [.int 0, .ref (bb 0), .ref (bb 1), .ref (bb 2), .ref (bb 3), .ref (bb 4), .int 1]))] H := hP
    have hD : va_D A [((bb 2), .inl ((kd 2), 24, .inl (upd (fun _ => 0) (0 : Int32).toNatClampNeg qw))), (d0, .inr (0, [.int 0, .ref (bb 0), .ref (bb 1), .ref (bb 2), .ref (bb 3), .ref (bb 4), .int 1]))] := hD
    refine lv_aload_n hx hb dX0_addClause_58 rfl (lv_at hl 0 rfl) ?_
    refine lv_dup hx hb dX0_addClause_59 rfl ?_
    refine va_get (D := (dC, dI)) (ci := 0) (v := .int 0) (C := RX0) (T := TX0) (N := 7) hx hb hts iwsPX0_addClause_in0 hown hK hP 1 rfl rfl 0 (by decide) (hts (.fieldLink RX0 27 "OptimaWorks$ClauseDesk" "clauses" "I") (by decide +kernel)) (fun _ h9 => h9) rfl dX0_addClause_60 ?_
    refine lv_iconst (v := 1) hx hb dX0_addClause_63 (by decide) ?_
    refine lv_iadd hx hb dX0_addClause_64 ?_
    refine lv_topi (fun y5 hy5 => ?_)
    obtain rfl : 1 = y5 := (hy5.trans (by decide)).symm
    refine va_put (D := (dC, dI)) (ci := 0) (v := .int 1) (ty := .int) (C := RX0) (T := TX0) (N := 7) hx hb hts iwsPX0_addClause_in0 tyX0 tyX0_ok nmX0 hown hK hP hD hS 1 rfl rfl 0 (by decide) (hts (.fieldLink RX0 27 "OptimaWorks$ClauseDesk" "clauses" "I") (by decide +kernel)) (fun _ h9 => h9) rfl (by decide +kernel) rfl rfl (Nat.le_of_ble_eq_true rfl) dX0_addClause_65 (fun H locs hP hD hS => ?_)
    have hP : va_P (dC, dI) vwCl [((bb 2), .inl ((kd 2), 24, .inl (upd (fun _ => 0) (0 : Int32).toNatClampNeg qw))), (d0, .inr (0, [.int 1, .ref (bb 0), .ref (bb 1), .ref (bb 2), .ref (bb 3), .ref (bb 4), .int 1]))] H := hP
    have hD : va_D A [((bb 2), .inl ((kd 2), 24, .inl (upd (fun _ => 0) (0 : Int32).toNatClampNeg qw))), (d0, .inr (0, [.int 1, .ref (bb 0), .ref (bb 1), .ref (bb 2), .ref (bb 3), .ref (bb 4), .int 1]))] := hD
    refine lv_aload_n hx hb dX0_addClause_68 rfl (lv_at hl 0 rfl) ?_
    refine va_get (D := (dC, dI)) (ci := 0) (v := .int 1) (C := RX0) (T := TX0) (N := 7) hx hb hts iwsPX0_addClause_in0 hown hK hP 1 rfl rfl 0 (by decide) (hts (.fieldLink RX0 27 "OptimaWorks$ClauseDesk" "clauses" "I") (by decide +kernel)) (fun _ h9 => h9) rfl dX0_addClause_69 ?_
    refine lv_iconst (v := 1) hx hb dX0_addClause_72 (by decide) ?_
    refine lv_isub hx hb dX0_addClause_73 ?_
    refine lv_topi (fun y6 hy6 => ?_)
    obtain rfl : 0 = y6 := (hy6.trans (by decide)).symm
    refine W.widen (k := 0) (n := 0) (by decide +kernel) (by decide +kernel) ?_
    exact W.iret (v := 0) hx hb hr (fun t ht hW => ⟨⟨0, (), rfl, by (first | rfl | assumption | trivial | omega | (simp [c_31]; done) | (simp; omega)), by rw [ht]; exact hP.sub [] rfl, va_K.moved hW.alike (hK.sub [] rfl), hD.sub [] (by decide) rfl⟩, hS.F ht⟩) hS.2.2 dX0_addClause_74
theorem dX11_clause_0 : decode cX11_clause 0 = .ok (.iload_n 1, 1) := by decide +kernel
theorem dX11_clause_1 : decode cX11_clause 1 = .ok (.ifCond .lt 25, 3) := by decide +kernel
theorem dX11_clause_4 : decode cX11_clause 4 = .ok (.iload_n 1, 1) := by decide +kernel
theorem dX11_clause_5 : decode cX11_clause 5 = .ok (.sipush 4096, 3) := by decide +kernel
theorem dX11_clause_8 : decode cX11_clause 8 = .ok (.if_icmp .ge 18, 3) := by decide +kernel
theorem dX11_clause_11 : decode cX11_clause 11 = .ok (.iload_n 2, 1) := by decide +kernel
theorem dX11_clause_12 : decode cX11_clause 12 = .ok (.ifCond .lt 14, 3) := by decide +kernel
theorem dX11_clause_15 : decode cX11_clause 15 = .ok (.iload_n 2, 1) := by decide +kernel
theorem dX11_clause_16 : decode cX11_clause 16 = .ok (.sipush 4096, 3) := by decide +kernel
theorem dX11_clause_19 : decode cX11_clause 19 = .ok (.if_icmp .ge 7, 3) := by decide +kernel
theorem dX11_clause_22 : decode cX11_clause 22 = .ok (.iconst 1, 1) := by decide +kernel
theorem dX11_clause_23 : decode cX11_clause 23 = .ok (.goto 4, 3) := by decide +kernel
theorem dX11_clause_26 : decode cX11_clause 26 = .ok (.iconst 0, 1) := by decide +kernel
theorem dX11_clause_27 : decode cX11_clause 27 = .ok (.istore 4, 2) := by decide +kernel
theorem dX11_clause_29 : decode cX11_clause 29 = .ok (.iload 4, 2) := by decide +kernel
theorem dX11_clause_31 : decode cX11_clause 31 = .ok (.ifCond .eq 26, 3) := by decide +kernel
theorem dX11_clause_34 : decode cX11_clause 34 = .ok (.iload_n 1, 1) := by decide +kernel
theorem dX11_clause_35 : decode cX11_clause 35 = .ok (.iload_n 2, 1) := by decide +kernel
theorem dX11_clause_36 : decode cX11_clause 36 = .ok (.ior, 1) := by decide +kernel
theorem dX11_clause_37 : decode cX11_clause 37 = .ok (.ifCond .eq 20, 3) := by decide +kernel
theorem dX11_clause_40 : decode cX11_clause 40 = .ok (.iload_n 1, 1) := by decide +kernel
theorem dX11_clause_41 : decode cX11_clause 41 = .ok (.iload_n 2, 1) := by decide +kernel
theorem dX11_clause_42 : decode cX11_clause 42 = .ok (.iand, 1) := by decide +kernel
theorem dX11_clause_43 : decode cX11_clause 43 = .ok (.ifCond .ne 14, 3) := by decide +kernel
theorem dX11_clause_46 : decode cX11_clause 46 = .ok (.iload_n 3, 1) := by decide +kernel
theorem dX11_clause_47 : decode cX11_clause 47 = .ok (.ifCond .lt 10, 3) := by decide +kernel
theorem dX11_clause_50 : decode cX11_clause 50 = .ok (.iload_n 3, 1) := by decide +kernel
theorem dX11_clause_51 : decode cX11_clause 51 = .ok (.sipush 1000, 3) := by decide +kernel
theorem dX11_clause_54 : decode cX11_clause 54 = .ok (.if_icmp .le 11, 3) := by decide +kernel
theorem dX11_clause_57 : decode cX11_clause 57 = .ok (.new 77, 3) := by decide +kernel
theorem dX11_clause_60 : decode cX11_clause 60 = .ok (.dup, 1) := by decide +kernel
theorem dX11_clause_61 : decode cX11_clause 61 = .ok (.invokespecial 79, 3) := by decide +kernel
theorem dX11_clause_64 : decode cX11_clause 64 = .ok (.athrow, 1) := by decide +kernel
theorem dX11_clause_65 : decode cX11_clause 65 = .ok (.aload_n 0, 1) := by decide +kernel
theorem dX11_clause_66 : decode cX11_clause 66 = .ok (.invokevirtual 393, 3) := by decide +kernel
theorem dX11_clause_69 : decode cX11_clause 69 = .ok (.getfield 397, 3) := by decide +kernel
theorem dX11_clause_72 : decode cX11_clause 72 = .ok (.bipush 24, 2) := by decide +kernel
theorem dX11_clause_74 : decode cX11_clause 74 = .ok (.if_icmp .lt 11, 3) := by decide +kernel
theorem dX11_clause_85 : decode cX11_clause 85 = .ok (.aload_n 0, 1) := by decide +kernel
theorem dX11_clause_86 : decode cX11_clause 86 = .ok (.getfield 386, 3) := by decide +kernel
theorem dX11_clause_89 : decode cX11_clause 89 = .ok (.iload_n 1, 1) := by decide +kernel
theorem dX11_clause_90 : decode cX11_clause 90 = .ok (.iload_n 2, 1) := by decide +kernel
theorem dX11_clause_91 : decode cX11_clause 91 = .ok (.iload_n 3, 1) := by decide +kernel
theorem dX11_clause_92 : decode cX11_clause 92 = .ok (.invokevirtual 399, 3) := by decide +kernel
theorem dX11_clause_95 : decode cX11_clause 95 = .ok (.ireturn, 1) := by decide +kernel
def wsPX11_clause : List Cond := .code yX11_clause cX11_clause 5 (some .int) :: ([.classLink RX11 77 "java/lang/IllegalArgumentException", .initialized "java/lang/IllegalArgumentException", .fieldLink RX11 397 "OptimaWorks$ClauseDesk" "clauses" "I", .fieldLink RX11 386 "OptimaWorks" "clauses" "LOptimaWorks$ClauseDesk;"] ++ wsX00 ++ wsX110 ++ ((vx_at0 RX11 79 "java/lang/IllegalArgumentException" ["java/lang/RuntimeException", "java/lang/Exception"]).filter goodWord) ++ (wsV RX11 393 RX11 yX11_theClauses wsPX11_theClauses) ++ (wsV RX11 399 RX0 yX0_addClause wsPX0_addClause))
theorem iwsPX11_clause_in0 : ∀ w ∈ wsX00, w ∈ wsPX11_clause := fun _ h => List.mem_cons_of_mem _ (List.mem_append_left _ (List.mem_append_left _ (List.mem_append_left _ (List.mem_append_left _ (List.mem_append_right _ h)))))
theorem iwsPX11_clause_in11 : ∀ w ∈ wsX110, w ∈ wsPX11_clause := fun _ h => List.mem_cons_of_mem _ (List.mem_append_left _ (List.mem_append_left _ (List.mem_append_left _ (List.mem_append_right _ h))))
theorem gwsPX11_clause_1 : GoodIn wsPX11_clause (wsV RX11 393 RX11 yX11_theClauses wsPX11_theClauses) := goodIn_sub (fun _ h => List.mem_cons_of_mem _ (List.mem_append_left _ (List.mem_append_right _ h))) (by decide +kernel)
theorem gwsPX11_clause_2 : GoodIn wsPX11_clause (wsV RX11 399 RX0 yX0_addClause wsPX0_addClause) := goodIn_sub (fun _ h => List.mem_cons_of_mem _ (List.mem_append_right _ h)) (by decide +kernel)
set_option maxHeartbeats 4000000 in
set_option maxRecDepth 100000 in
/-- clause(..) -/
theorem p_X11_clause (l : Launch) (hst : l.stackTraces = false) (dC : Nat → ClassId) (dI : Nat → Nat → Nat) (h0 : Nat) (a : Nat → Nat) (qy : Int32) (qn : Int32) (qw : Int32) (sz : Nat) : vx_Met l yX11_clause wsPX11_clause ({ frames := 6, cells := 7, slots := 8277, locals := 81 }) (va_Pc [.ref h0, .int qy, .int qn, .int qw] (fun U => U.heap.size = sz ∧ va_P (dC, dI) vwCl [(h0, .inr (11, [.ref (a 0), .ref (a 1), .ref (a 3), .ref (a 14), .int 0, .null, .null, .null, .null, .null, .null]))] U.heap ∧ va_K (dC, dI) vwCl [] U ∧ va_D (fun _ => True) [(h0, .inr (11, [.ref (a 0), .ref (a 1), .ref (a 3), .ref (a 14), .int 0, .null, .null, .null, .null, .null, .null]))] ∧ vx_Zq Bundle.tN "UNASSIGNED_STACK" Bundle.steD (va_A [(h0, .inr (11, [.ref (a 0), .ref (a 1), .ref (a 3), .ref (a 14), .int 0, .null, .null, .null, .null, .null, .null]))] sz) U U.heap ∧ vx_Zq Bundle.tN "SUPPRESSED_SENTINEL" Bundle.listD (va_A [(h0, .inr (11, [.ref (a 0), .ref (a 1), .ref (a 3), .ref (a 14), .int 0, .null, .null, .null, .null, .null, .null]))] sz) U U.heap ∧ (∀ w ∈ ngX11_79, va_Nw w U) ∧ va_Nw (.methodLinkNest RX11 392 yX0_init RX11) U)) (va_Qi (fun (r : Int32) (u : Unit) => r = 0 ∧ (0 ≤ (qy).toInt ∧ (qy).toInt < 4096 ∧ 0 ≤ (qn).toInt ∧ (qn).toInt < 4096 ∧ ¬ (qy ||| qn).toInt = 0 ∧ (qy &&& qn).toInt = 0 ∧ 0 ≤ (qw).toInt ∧ (qw).toInt ≤ 1000)) (fun (u : Unit) t => va_P (dC, dI) vwCl [] t.heap ∧ va_K (dC, dI) vwCl [] t ∧ va_D (va_A [(h0, .inr (11, [.ref (a 0), .ref (a 1), .ref (a 3), .ref (a 14), .int 0, .null, .null, .null, .null, .null, .null]))] sz) []) (va_A [(h0, .inr (11, [.ref (a 0), .ref (a 1), .ref (a 3), .ref (a 14), .int 0, .null, .null, .null, .null, .null, .null]))] sz)) (vx_X (fun n : String => (n = "java/lang/IllegalArgumentException" ∧ ((qy).toInt < 0 ∨ 4096 ≤ (qy).toInt ∨ (qn).toInt < 0 ∨ 4096 ≤ (qn).toInt ∨ (qy ||| qn).toInt = 0 ∨ ¬ (qy &&& qn).toInt = 0 ∨ (qw).toInt < 0 ∨ 1000 < (qw).toInt))) (fun E n t => E = n) (va_A [(h0, .inr (11, [.ref (a 0), .ref (a 1), .ref (a 3), .ref (a 14), .int 0, .null, .null, .null, .null, .null, .null]))] sz)) 7 8277 (va_A [(h0, .inr (11, [.ref (a 0), .ref (a 1), .ref (a 3), .ref (a 14), .int 0, .null, .null, .null, .null, .null, .null]))] sz) := by
  refine vx_ofW (cc := cX11_clause) (maxL := 5) (ret := (some .int)) (by decide) rfl ?_
  intro p e s m args below meth c s₁ B hml htab hv
  obtain ⟨rfl, hsz, hP, hK, hD0, hU, hN, hngX11_79, hnX11_392⟩ := hv
  have hx := B.exec
  have hb := B.bytes
  have hr := B.returns
  have hts := atoms_spec (ws := wsPX11_clause) B.pre
  have hown : s.vm.findClass RX11 = some m.cls := findClass_of_methodNamed B.named
  have hlocks := B.notSynchronized
  subst hsz
  have hD := hD0.self (sz := s.heap.size)
  generalize hAe : va_A [(h0, .inr (11, [.ref (a 0), .ref (a 1), .ref (a 3), .ref (a 14), .int 0, .null, .null, .null, .null, .null, .null]))] s.heap.size = A at hD hU hN ⊢
  have hA : ∀ q : Nat, s.heap.size ≤ q → A q := fun q h => by rw [← hAe]; exact Or.inr h
  have hS : va_S A s.heap s.heap [] := va_S.rf
  have hP : va_P (dC, dI) vwCl [(h0, .inr (11, [.ref (a 0), .ref (a 1), .ref (a 3), .ref (a 14), .int 0, .null, .null, .null, .null, .null, .null]))] s.heap := hP
  have hl := lv_entry ([.ref h0, .int qy, .int qn, .int qw]) (n := 5) (Nat.le_of_ble_eq_true rfl)
  rw [lg_entry_eq]
  generalize (lg_sl ([.ref h0, .int qy, .int qn, .int qw]) ++ List.replicate (5 - (lg_sl ([.ref h0, .int qy, .int qn, .int qw])).length) Slot.unset).toArray = ls at hl ⊢
  have hl : lv_has ls 5 [(0, .ref h0), (1, .int qy), (2, .int qn), (3, .int qw)] := hl
  refine lv_iload_n hx hb dX11_clause_0 rfl (lv_at hl 1 rfl) ?_
  refine lv_if_lt (tgt := 26) hx hb dX11_clause_1 (by decide) (fun c_1 => ?_) (fun c_1 => ?_)
  · have t_1 : (qy).toInt < 0 := toI_lt c_1 rfl (by decide)
    refine lv_iconst (v := 0) hx hb dX11_clause_26 (by decide) ?_
    refine lv_istore (lv' := [(4, .int 0), (0, .ref h0), (1, .int qy), (2, .int qn), (3, .int qw)]) hx hb dX11_clause_27 hl (by decide) rfl (fun ls hl => ?_)
    refine lv_iload hx hb dX11_clause_29 (lv_at hl 0 rfl) ?_
    refine lv_if_eq (tgt := 57) hx hb dX11_clause_31 (by decide) (fun _ => ?_) (fun c9 => absurd (by decide) c9)
    exact vx_throw0 (own := RX11) (cls := "java/lang/IllegalArgumentException") (names := ["java/lang/RuntimeException", "java/lang/Exception"]) (ik := 77) (ic := 79) (A := A) hx hb hst hown (by decide +kernel) (by decide +kernel) (hts (.classLink RX11 77 "java/lang/IllegalArgumentException") (by decide +kernel)) (hts (.initialized "java/lang/IllegalArgumentException") (by decide +kernel)) (vx_hat (B := ngX11_79) (fun w h => hts w (List.mem_cons_of_mem _ (List.mem_append_left _ (List.mem_append_left _ (List.mem_append_right _ h))))) (fun _ h => h) (fun w h => va_Nw.use (ngX11_79_ot w h) (hngX11_79 w h))) (by decide +kernel) hU hN hS (by rw [hml]; exact hl.1) dX11_clause_57 dX11_clause_60 dX11_clause_61 dX11_clause_64 (fun x hx9 => (htab x hx9).elim) (by decide +kernel) (Nat.le_of_ble_eq_true rfl) (by decide +kernel) (by decide +kernel) hlocks (fun t hvm hz hk => ⟨"java/lang/IllegalArgumentException", ⟨rfl, by omega⟩, rfl, ⟨Nat.le_trans hS.1 hz, fun q h1 h2 => (hk q (Nat.lt_of_lt_of_le h1 hS.1)).trans (hS.2.1 q h1 h2)⟩⟩) hS.2.2 (by decide +kernel) (by decide +kernel)
  · have t_1 : ¬ (qy).toInt < 0 := toI_nlt c_1 rfl (by decide)
    refine lv_iload_n hx hb dX11_clause_4 rfl (lv_at hl 1 rfl) ?_
    refine lv_sipush (v := 4096) hx hb dX11_clause_5 (by decide) ?_
    refine lv_icmp_ge (tgt := 26) hx hb dX11_clause_8 (by decide) (fun c_8 => ?_) (fun c_8 => ?_)
    · have t_8 : (qy).toInt ≥ 4096 := toI_ge c_8 rfl (by decide)
      refine lv_iconst (v := 0) hx hb dX11_clause_26 (by decide) ?_
      refine lv_istore (lv' := [(4, .int 0), (0, .ref h0), (1, .int qy), (2, .int qn), (3, .int qw)]) hx hb dX11_clause_27 hl (by decide) rfl (fun ls hl => ?_)
      refine lv_iload hx hb dX11_clause_29 (lv_at hl 0 rfl) ?_
      refine lv_if_eq (tgt := 57) hx hb dX11_clause_31 (by decide) (fun _ => ?_) (fun c9 => absurd (by decide) c9)
      exact vx_throw0 (own := RX11) (cls := "java/lang/IllegalArgumentException") (names := ["java/lang/RuntimeException", "java/lang/Exception"]) (ik := 77) (ic := 79) (A := A) hx hb hst hown (by decide +kernel) (by decide +kernel) (hts (.classLink RX11 77 "java/lang/IllegalArgumentException") (by decide +kernel)) (hts (.initialized "java/lang/IllegalArgumentException") (by decide +kernel)) (vx_hat (B := ngX11_79) (fun w h => hts w (List.mem_cons_of_mem _ (List.mem_append_left _ (List.mem_append_left _ (List.mem_append_right _ h))))) (fun _ h => h) (fun w h => va_Nw.use (ngX11_79_ot w h) (hngX11_79 w h))) (by decide +kernel) hU hN hS (by rw [hml]; exact hl.1) dX11_clause_57 dX11_clause_60 dX11_clause_61 dX11_clause_64 (fun x hx9 => (htab x hx9).elim) (by decide +kernel) (Nat.le_of_ble_eq_true rfl) (by decide +kernel) (by decide +kernel) hlocks (fun t hvm hz hk => ⟨"java/lang/IllegalArgumentException", ⟨rfl, by omega⟩, rfl, ⟨Nat.le_trans hS.1 hz, fun q h1 h2 => (hk q (Nat.lt_of_lt_of_le h1 hS.1)).trans (hS.2.1 q h1 h2)⟩⟩) hS.2.2 (by decide +kernel) (by decide +kernel)
    · have t_8 : ¬ (qy).toInt ≥ 4096 := toI_nge c_8 rfl (by decide)
      refine lv_iload_n hx hb dX11_clause_11 rfl (lv_at hl 2 rfl) ?_
      refine lv_if_lt (tgt := 26) hx hb dX11_clause_12 (by decide) (fun c_12 => ?_) (fun c_12 => ?_)
      · have t_12 : (qn).toInt < 0 := toI_lt c_12 rfl (by decide)
        refine lv_iconst (v := 0) hx hb dX11_clause_26 (by decide) ?_
        refine lv_istore (lv' := [(4, .int 0), (0, .ref h0), (1, .int qy), (2, .int qn), (3, .int qw)]) hx hb dX11_clause_27 hl (by decide) rfl (fun ls hl => ?_)
        refine lv_iload hx hb dX11_clause_29 (lv_at hl 0 rfl) ?_
        refine lv_if_eq (tgt := 57) hx hb dX11_clause_31 (by decide) (fun _ => ?_) (fun c9 => absurd (by decide) c9)
        exact vx_throw0 (own := RX11) (cls := "java/lang/IllegalArgumentException") (names := ["java/lang/RuntimeException", "java/lang/Exception"]) (ik := 77) (ic := 79) (A := A) hx hb hst hown (by decide +kernel) (by decide +kernel) (hts (.classLink RX11 77 "java/lang/IllegalArgumentException") (by decide +kernel)) (hts (.initialized "java/lang/IllegalArgumentException") (by decide +kernel)) (vx_hat (B := ngX11_79) (fun w h => hts w (List.mem_cons_of_mem _ (List.mem_append_left _ (List.mem_append_left _ (List.mem_append_right _ h))))) (fun _ h => h) (fun w h => va_Nw.use (ngX11_79_ot w h) (hngX11_79 w h))) (by decide +kernel) hU hN hS (by rw [hml]; exact hl.1) dX11_clause_57 dX11_clause_60 dX11_clause_61 dX11_clause_64 (fun x hx9 => (htab x hx9).elim) (by decide +kernel) (Nat.le_of_ble_eq_true rfl) (by decide +kernel) (by decide +kernel) hlocks (fun t hvm hz hk => ⟨"java/lang/IllegalArgumentException", ⟨rfl, by omega⟩, rfl, ⟨Nat.le_trans hS.1 hz, fun q h1 h2 => (hk q (Nat.lt_of_lt_of_le h1 hS.1)).trans (hS.2.1 q h1 h2)⟩⟩) hS.2.2 (by decide +kernel) (by decide +kernel)
      · have t_12 : ¬ (qn).toInt < 0 := toI_nlt c_12 rfl (by decide)
        refine lv_iload_n hx hb dX11_clause_15 rfl (lv_at hl 2 rfl) ?_
        refine lv_sipush (v := 4096) hx hb dX11_clause_16 (by decide) ?_
        refine lv_icmp_ge (tgt := 26) hx hb dX11_clause_19 (by decide) (fun c_19 => ?_) (fun c_19 => ?_)
        · have t_19 : (qn).toInt ≥ 4096 := toI_ge c_19 rfl (by decide)
          refine lv_iconst (v := 0) hx hb dX11_clause_26 (by decide) ?_
          refine lv_istore (lv' := [(4, .int 0), (0, .ref h0), (1, .int qy), (2, .int qn), (3, .int qw)]) hx hb dX11_clause_27 hl (by decide) rfl (fun ls hl => ?_)
          refine lv_iload hx hb dX11_clause_29 (lv_at hl 0 rfl) ?_
          refine lv_if_eq (tgt := 57) hx hb dX11_clause_31 (by decide) (fun _ => ?_) (fun c9 => absurd (by decide) c9)
          exact vx_throw0 (own := RX11) (cls := "java/lang/IllegalArgumentException") (names := ["java/lang/RuntimeException", "java/lang/Exception"]) (ik := 77) (ic := 79) (A := A) hx hb hst hown (by decide +kernel) (by decide +kernel) (hts (.classLink RX11 77 "java/lang/IllegalArgumentException") (by decide +kernel)) (hts (.initialized "java/lang/IllegalArgumentException") (by decide +kernel)) (vx_hat (B := ngX11_79) (fun w h => hts w (List.mem_cons_of_mem _ (List.mem_append_left _ (List.mem_append_left _ (List.mem_append_right _ h))))) (fun _ h => h) (fun w h => va_Nw.use (ngX11_79_ot w h) (hngX11_79 w h))) (by decide +kernel) hU hN hS (by rw [hml]; exact hl.1) dX11_clause_57 dX11_clause_60 dX11_clause_61 dX11_clause_64 (fun x hx9 => (htab x hx9).elim) (by decide +kernel) (Nat.le_of_ble_eq_true rfl) (by decide +kernel) (by decide +kernel) hlocks (fun t hvm hz hk => ⟨"java/lang/IllegalArgumentException", ⟨rfl, by omega⟩, rfl, ⟨Nat.le_trans hS.1 hz, fun q h1 h2 => (hk q (Nat.lt_of_lt_of_le h1 hS.1)).trans (hS.2.1 q h1 h2)⟩⟩) hS.2.2 (by decide +kernel) (by decide +kernel)
        · have t_19 : ¬ (qn).toInt ≥ 4096 := toI_nge c_19 rfl (by decide)
          refine lv_iconst (v := 1) hx hb dX11_clause_22 (by decide) ?_
          refine lv_goto (tgt := 27) hx hb dX11_clause_23 (by decide) ?_
          refine lv_istore (lv' := [(4, .int 1), (0, .ref h0), (1, .int qy), (2, .int qn), (3, .int qw)]) hx hb dX11_clause_27 hl (by decide) rfl (fun ls hl => ?_)
          refine lv_iload hx hb dX11_clause_29 (lv_at hl 0 rfl) ?_
          refine lv_if_eq (tgt := 57) hx hb dX11_clause_31 (by decide) (fun c9 => absurd c9 (by decide)) (fun _ => ?_)
          refine lv_iload_n hx hb dX11_clause_34 rfl (lv_at hl 2 rfl) ?_
          refine lv_iload_n hx hb dX11_clause_35 rfl (lv_at hl 3 rfl) ?_
          refine lv_ior hx hb dX11_clause_36 ?_
          refine lv_if_eq (tgt := 57) hx hb dX11_clause_37 (by decide) (fun c_37 => ?_) (fun c_37 => ?_)
          · have t_37 : ((qy ||| qn)).toInt = 0 := toI_eq c_37 rfl (by decide)
            exact vx_throw0 (own := RX11) (cls := "java/lang/IllegalArgumentException") (names := ["java/lang/RuntimeException", "java/lang/Exception"]) (ik := 77) (ic := 79) (A := A) hx hb hst hown (by decide +kernel) (by decide +kernel) (hts (.classLink RX11 77 "java/lang/IllegalArgumentException") (by decide +kernel)) (hts (.initialized "java/lang/IllegalArgumentException") (by decide +kernel)) (vx_hat (B := ngX11_79) (fun w h => hts w (List.mem_cons_of_mem _ (List.mem_append_left _ (List.mem_append_left _ (List.mem_append_right _ h))))) (fun _ h => h) (fun w h => va_Nw.use (ngX11_79_ot w h) (hngX11_79 w h))) (by decide +kernel) hU hN hS (by rw [hml]; exact hl.1) dX11_clause_57 dX11_clause_60 dX11_clause_61 dX11_clause_64 (fun x hx9 => (htab x hx9).elim) (by decide +kernel) (Nat.le_of_ble_eq_true rfl) (by decide +kernel) (by decide +kernel) hlocks (fun t hvm hz hk => ⟨"java/lang/IllegalArgumentException", ⟨rfl, by omega⟩, rfl, ⟨Nat.le_trans hS.1 hz, fun q h1 h2 => (hk q (Nat.lt_of_lt_of_le h1 hS.1)).trans (hS.2.1 q h1 h2)⟩⟩) hS.2.2 (by decide +kernel) (by decide +kernel)
          · have t_37 : ¬ ((qy ||| qn)).toInt = 0 := toI_neq c_37 rfl (by decide)
            refine lv_iload_n hx hb dX11_clause_40 rfl (lv_at hl 2 rfl) ?_
            refine lv_iload_n hx hb dX11_clause_41 rfl (lv_at hl 3 rfl) ?_
            refine lv_iand hx hb dX11_clause_42 ?_
            refine lv_if_ne (tgt := 57) hx hb dX11_clause_43 (by decide) (fun c_43 => ?_) (fun c_43 => ?_)
            · have t_43 : ((qy &&& qn)).toInt ≠ 0 := toI_ne c_43 rfl (by decide)
              exact vx_throw0 (own := RX11) (cls := "java/lang/IllegalArgumentException") (names := ["java/lang/RuntimeException", "java/lang/Exception"]) (ik := 77) (ic := 79) (A := A) hx hb hst hown (by decide +kernel) (by decide +kernel) (hts (.classLink RX11 77 "java/lang/IllegalArgumentException") (by decide +kernel)) (hts (.initialized "java/lang/IllegalArgumentException") (by decide +kernel)) (vx_hat (B := ngX11_79) (fun w h => hts w (List.mem_cons_of_mem _ (List.mem_append_left _ (List.mem_append_left _ (List.mem_append_right _ h))))) (fun _ h => h) (fun w h => va_Nw.use (ngX11_79_ot w h) (hngX11_79 w h))) (by decide +kernel) hU hN hS (by rw [hml]; exact hl.1) dX11_clause_57 dX11_clause_60 dX11_clause_61 dX11_clause_64 (fun x hx9 => (htab x hx9).elim) (by decide +kernel) (Nat.le_of_ble_eq_true rfl) (by decide +kernel) (by decide +kernel) hlocks (fun t hvm hz hk => ⟨"java/lang/IllegalArgumentException", ⟨rfl, by omega⟩, rfl, ⟨Nat.le_trans hS.1 hz, fun q h1 h2 => (hk q (Nat.lt_of_lt_of_le h1 hS.1)).trans (hS.2.1 q h1 h2)⟩⟩) hS.2.2 (by decide +kernel) (by decide +kernel)
            · have t_43 : ((qy &&& qn)).toInt = 0 := toI_nne c_43 rfl (by decide)
              refine lv_iload_n hx hb dX11_clause_46 rfl (lv_at hl 4 rfl) ?_
              refine lv_if_lt (tgt := 57) hx hb dX11_clause_47 (by decide) (fun c_47 => ?_) (fun c_47 => ?_)
              · have t_47 : (qw).toInt < 0 := toI_lt c_47 rfl (by decide)
                exact vx_throw0 (own := RX11) (cls := "java/lang/IllegalArgumentException") (names := ["java/lang/RuntimeException", "java/lang/Exception"]) (ik := 77) (ic := 79) (A := A) hx hb hst hown (by decide +kernel) (by decide +kernel) (hts (.classLink RX11 77 "java/lang/IllegalArgumentException") (by decide +kernel)) (hts (.initialized "java/lang/IllegalArgumentException") (by decide +kernel)) (vx_hat (B := ngX11_79) (fun w h => hts w (List.mem_cons_of_mem _ (List.mem_append_left _ (List.mem_append_left _ (List.mem_append_right _ h))))) (fun _ h => h) (fun w h => va_Nw.use (ngX11_79_ot w h) (hngX11_79 w h))) (by decide +kernel) hU hN hS (by rw [hml]; exact hl.1) dX11_clause_57 dX11_clause_60 dX11_clause_61 dX11_clause_64 (fun x hx9 => (htab x hx9).elim) (by decide +kernel) (Nat.le_of_ble_eq_true rfl) (by decide +kernel) (by decide +kernel) hlocks (fun t hvm hz hk => ⟨"java/lang/IllegalArgumentException", ⟨rfl, by omega⟩, rfl, ⟨Nat.le_trans hS.1 hz, fun q h1 h2 => (hk q (Nat.lt_of_lt_of_le h1 hS.1)).trans (hS.2.1 q h1 h2)⟩⟩) hS.2.2 (by decide +kernel) (by decide +kernel)
              · have t_47 : ¬ (qw).toInt < 0 := toI_nlt c_47 rfl (by decide)
                refine lv_iload_n hx hb dX11_clause_50 rfl (lv_at hl 4 rfl) ?_
                refine lv_sipush (v := 1000) hx hb dX11_clause_51 (by decide) ?_
                refine lv_icmp_le (tgt := 65) hx hb dX11_clause_54 (by decide) (fun c_54 => ?_) (fun c_54 => ?_)
                · have t_54 : (qw).toInt ≤ 1000 := toI_le c_54 rfl (by decide)
                  refine lv_aload_n hx hb dX11_clause_65 rfl (lv_at hl 1 rfl) ?_
                  have hPc := hP.sub (ws' := [(h0, .inr (11, [.ref (a 0), .ref (a 1), .ref (a 3), .ref (a 14), .int 0, .null, .null, .null, .null, .null, .null]))]) [0] rfl
                  have hDc := hD.sub (ws' := [(h0, .inr (11, [.ref (a 0), .ref (a 1), .ref (a 3), .ref (a 14), .int 0, .null, .null, .null, .null, .null, .null]))]) [0] (by decide) rfl
                  have hKc := hK.sub (tys' := []) [] rfl
                  have hFc := va_free (wc := [(h0, .inr (11, [.ref (a 0), .ref (a 1), .ref (a 3), .ref (a 14), .int 0, .null, .null, .null, .null, .null, .null]))]) hD hS hA [0] rfl
                  refine va_callr (va_runV (As := []) (rest := []) ⟨hx, hb, hml, hown, hts⟩ (p_X11_theClauses l dC dI h0 a s.heap.size) (cwV 0 hts gwsPX11_clause_1 rfl rfl rfl (by decide +kernel) ⟨by decide +kernel, by decide +kernel⟩) ⟨fun a U g mk q => by obtain ⟨q0, q1, qP, qK, qD, qhnX11_392⟩ := q; exact ⟨q0, q1, qP, va_K.moved (u := U) (U := U.calling g mk a) (Vm.Alike.refl U.vm) qK, qD, va_Nw.same (u := U) (U := U.calling g mk a) rfl rfl qhnX11_392⟩, va_recv hKc hPc (ci := 11) (q0 := 0) rfl rfl, fun U hU9 hW => ⟨rfl, by rw [hU9], by rw [hU9]; exact hPc, va_K.moved hW.alike hKc, hDc.weaken (fun _ _ _ _ => trivial), va_Nw.warmM hW hnX11_392⟩⟩ rfl rfl hl.1 rfl (lv_room (Nat.le_of_ble_eq_true rfl)) dX11_clause_66 ⟨by decide +kernel, by decide +kernel⟩) hS (fun q _ h => hFc q h) hFc (fun u a66 t H1 locs ht hvm hw hB hz1 hk1 hS => ?_)
                  obtain ⟨aa66, kk66⟩ := u
                  obtain ⟨hP1, hK1, hD1⟩ := hB
                  rw [ht] at hP1
                  have hK1 := va_K.moved hvm.symm hK1
                  obtain ⟨hP, hD⟩ := va_join (wr := []) (w1 := [(h0, .inr (11, [.ref (a 0), .ref (a 1), .ref (a 3), .ref (a 14), .int 0, .null, .null, .null, .null, .ref a66, .null])), (a66, .inr (0, [.int 0, .ref (aa66 0), .ref (aa66 1), .ref (aa66 2), .ref (aa66 3), .ref (aa66 4), .int 0])), ((aa66 0), .inl ((kk66 0), 24, .inl (fun _ => 0))), ((aa66 1), .inl ((kk66 1), 24, .inl (fun _ => 0))), ((aa66 2), .inl ((kk66 2), 24, .inl (fun _ => 0))), ((aa66 3), .inl ((kk66 3), 4096, .inl (fun _ => 0))), ((aa66 4), .inl ((kk66 4), 4096, .inl (fun _ => 0)))]) hP hD [0] [] rfl rfl (by decide) (by decide) hk1 hFc hP1 hD1
                  have hK := hK.app hK1
                  generalize H1 = H at hP hS ⊢
                  have hP : va_P (dC, dI) vwCl [(h0, .inr (11, [.ref (a 0), .ref (a 1), .ref (a 3), .ref (a 14), .int 0, .null, .null, .null, .null, .ref a66, .null])), (a66, .inr (0, [.int 0, .ref (aa66 0), .ref (aa66 1), .ref (aa66 2), .ref (aa66 3), .ref (aa66 4), .int 0])), ((aa66 0), .inl ((kk66 0), 24, .inl (fun _ => 0))), ((aa66 1), .inl ((kk66 1), 24, .inl (fun _ => 0))), ((aa66 2), .inl ((kk66 2), 24, .inl (fun _ => 0))), ((aa66 3), .inl ((kk66 3), 4096, .inl (fun _ => 0))), ((aa66 4), .inl ((kk66 4), 4096, .inl (fun _ => 0)))] H := hP
                  have hD : va_D A [(h0, .inr (11, [.ref (a 0), .ref (a 1), .ref (a 3), .ref (a 14), .int 0, .null, .null, .null, .null, .ref a66, .null])), (a66, .inr (0, [.int 0, .ref (aa66 0), .ref (aa66 1), .ref (aa66 2), .ref (aa66 3), .ref (aa66 4), .int 0])), ((aa66 0), .inl ((kk66 0), 24, .inl (fun _ => 0))), ((aa66 1), .inl ((kk66 1), 24, .inl (fun _ => 0))), ((aa66 2), .inl ((kk66 2), 24, .inl (fun _ => 0))), ((aa66 3), .inl ((kk66 3), 4096, .inl (fun _ => 0))), ((aa66 4), .inl ((kk66 4), 4096, .inl (fun _ => 0)))] := hD
                  have hK : va_K (dC, dI) vwCl [((kk66 0), .int), ((kk66 1), .int), ((kk66 2), .int), ((kk66 3), .int), ((kk66 4), .int)] s := hK
                  refine W.widen (k := 6) (n := 8271) (by decide +kernel) (by decide +kernel) ?_
                  refine va_get (D := (dC, dI)) (ci := 0) (v := .int 0) (C := RX0) (T := TX0) (N := 7) hx hb hts iwsPX11_clause_in0 hown hK hP 1 rfl rfl 0 (by decide) (hts (.fieldLink RX11 397 "OptimaWorks$ClauseDesk" "clauses" "I") (by decide +kernel)) (fun _ h9 => h9) rfl dX11_clause_69 ?_
                  refine lv_bipush (v := 24) hx hb dX11_clause_72 (by decide) ?_
                  refine lv_icmp_lt (tgt := 85) hx hb dX11_clause_74 (by decide) (fun _ => ?_) (fun c9 => absurd (by decide) c9)
                  refine lv_aload_n hx hb dX11_clause_85 rfl (lv_at hl 1 rfl) ?_
                  refine va_get (D := (dC, dI)) (ci := 11) (v := .ref a66) (C := RX11) (T := TX11) (N := 11) hx hb hts iwsPX11_clause_in11 hown hK hP 0 rfl rfl 9 (by decide) (hts (.fieldLink RX11 386 "OptimaWorks" "clauses" "LOptimaWorks$ClauseDesk;") (by decide +kernel)) (fun _ h9 => h9) rfl dX11_clause_86 ?_
                  refine lv_iload_n hx hb dX11_clause_89 rfl (lv_at hl 2 rfl) ?_
                  refine lv_iload_n hx hb dX11_clause_90 rfl (lv_at hl 3 rfl) ?_
                  refine lv_iload_n hx hb dX11_clause_91 rfl (lv_at hl 4 rfl) ?_
                  have hPc := hP.sub (ws' := [(a66, .inr (0, [.int 0, .ref (aa66 0), .ref (aa66 1), .ref (aa66 2), .ref (aa66 3), .ref (aa66 4), .int 0])), ((aa66 0), .inl ((kk66 0), 24, .inl (fun _ => 0))), ((aa66 1), .inl ((kk66 1), 24, .inl (fun _ => 0))), ((aa66 2), .inl ((kk66 2), 24, .inl (fun _ => 0))), ((aa66 3), .inl ((kk66 3), 4096, .inl (fun _ => 0))), ((aa66 4), .inl ((kk66 4), 4096, .inl (fun _ => 0)))]) [1, 2, 3, 4, 5, 6] rfl
                  have hDc := hD.sub (ws' := [(a66, .inr (0, [.int 0, .ref (aa66 0), .ref (aa66 1), .ref (aa66 2), .ref (aa66 3), .ref (aa66 4), .int 0])), ((aa66 0), .inl ((kk66 0), 24, .inl (fun _ => 0))), ((aa66 1), .inl ((kk66 1), 24, .inl (fun _ => 0))), ((aa66 2), .inl ((kk66 2), 24, .inl (fun _ => 0))), ((aa66 3), .inl ((kk66 3), 4096, .inl (fun _ => 0))), ((aa66 4), .inl ((kk66 4), 4096, .inl (fun _ => 0)))]) [1, 2, 3, 4, 5, 6] (by decide) rfl
                  have hKc := hK.sub (tys' := [((kk66 0), .int), ((kk66 1), .int), ((kk66 2), .int), ((kk66 3), .int), ((kk66 4), .int)]) [0, 1, 2, 3, 4] rfl
                  have hFc := va_free (wc := [(a66, .inr (0, [.int 0, .ref (aa66 0), .ref (aa66 1), .ref (aa66 2), .ref (aa66 3), .ref (aa66 4), .int 0])), ((aa66 0), .inl ((kk66 0), 24, .inl (fun _ => 0))), ((aa66 1), .inl ((kk66 1), 24, .inl (fun _ => 0))), ((aa66 2), .inl ((kk66 2), 24, .inl (fun _ => 0))), ((aa66 3), .inl ((kk66 3), 4096, .inl (fun _ => 0))), ((aa66 4), .inl ((kk66 4), 4096, .inl (fun _ => 0)))]) hD hS hA [1, 2, 3, 4, 5, 6] rfl
                  refine va_calli (va_runV (As := [.int qy, .int qn, .int qw]) (rest := []) ⟨hx, hb, hml, hown, hts⟩ (p_X0_addClause l dC dI a66 aa66 kk66 qy qn qw H.size) (cwV 3 hts gwsPX11_clause_2 rfl rfl rfl (by decide +kernel) ⟨by decide +kernel, by decide +kernel⟩) ⟨fun a U g mk q => by obtain ⟨q0, q1, qP, qK, qD⟩ := q; exact ⟨q0, q1, qP, va_K.moved (u := U) (U := U.calling g mk a) (Vm.Alike.refl U.vm) qK, qD⟩, va_recv hKc hPc (ci := 0) (q0 := 0) rfl rfl, fun U hU9 hW => ⟨rfl, by rw [hU9], by rw [hU9]; exact hPc, va_K.moved hW.alike hKc, hDc.weaken (fun _ _ _ _ => trivial)⟩⟩ rfl rfl hl.1 rfl (lv_room (Nat.le_of_ble_eq_true rfl)) dX11_clause_92 ⟨by decide +kernel, by decide +kernel⟩) hS (fun q _ h => hFc q h) hFc (fun r92 u t H1 locs ht hvm hw hB hz1 hk1 hS => ?_)
                  obtain ⟨hP1, hK1, hD1⟩ := hB
                  rw [ht] at hP1
                  have hK1 := va_K.moved hvm.symm hK1
                  obtain ⟨hP, hD⟩ := va_join (wr := [(h0, .inr (11, [.ref (a 0), .ref (a 1), .ref (a 3), .ref (a 14), .int 0, .null, .null, .null, .null, .ref a66, .null]))]) (w1 := []) hP hD [1, 2, 3, 4, 5, 6] [0] rfl rfl (by decide) (by decide) hk1 hFc hP1 hD1
                  generalize H1 = H at hP hS ⊢
                  have hP : va_P (dC, dI) vwCl [(h0, .inr (11, [.ref (a 0), .ref (a 1), .ref (a 3), .ref (a 14), .int 0, .null, .null, .null, .null, .ref a66, .null]))] H := hP
                  have hD : va_D A [(h0, .inr (11, [.ref (a 0), .ref (a 1), .ref (a 3), .ref (a 14), .int 0, .null, .null, .null, .null, .ref a66, .null]))] := hD
                  obtain rfl := hw
                  refine vx_ret ?_
                  refine W.widen (k := 7) (n := 8277) (by decide +kernel) (by decide +kernel) ?_
                  exact W.iret (v := 0) hx hb hr (fun t ht hW => ⟨⟨0, (), rfl, by (refine ⟨?_, ?_⟩ <;> (first | rfl | assumption | trivial | omega | (simp [c_1, c_8, c_12, c_19, c_37, c_43, c_47, c_54]; done) | (simp; omega))), by rw [ht]; exact hP.sub [] rfl, va_K.moved hW.alike (hK.sub [] rfl), hD.sub [] (by decide) rfl⟩, hS.F ht⟩) hS.2.2 dX11_clause_95
                · have t_54 : ¬ (qw).toInt ≤ 1000 := toI_nle c_54 rfl (by decide)
                  exact vx_throw0 (own := RX11) (cls := "java/lang/IllegalArgumentException") (names := ["java/lang/RuntimeException", "java/lang/Exception"]) (ik := 77) (ic := 79) (A := A) hx hb hst hown (by decide +kernel) (by decide +kernel) (hts (.classLink RX11 77 "java/lang/IllegalArgumentException") (by decide +kernel)) (hts (.initialized "java/lang/IllegalArgumentException") (by decide +kernel)) (vx_hat (B := ngX11_79) (fun w h => hts w (List.mem_cons_of_mem _ (List.mem_append_left _ (List.mem_append_left _ (List.mem_append_right _ h))))) (fun _ h => h) (fun w h => va_Nw.use (ngX11_79_ot w h) (hngX11_79 w h))) (by decide +kernel) hU hN hS (by rw [hml]; exact hl.1) dX11_clause_57 dX11_clause_60 dX11_clause_61 dX11_clause_64 (fun x hx9 => (htab x hx9).elim) (by decide +kernel) (Nat.le_of_ble_eq_true rfl) (by decide +kernel) (by decide +kernel) hlocks (fun t hvm hz hk => ⟨"java/lang/IllegalArgumentException", ⟨rfl, by omega⟩, rfl, ⟨Nat.le_trans hS.1 hz, fun q h1 h2 => (hk q (Nat.lt_of_lt_of_le h1 hS.1)).trans (hS.2.1 q h1 h2)⟩⟩) hS.2.2 (by decide +kernel) (by decide +kernel)
theorem dX0_dropClause_0 : decode cX0_dropClause 0 = .ok (.aload_n 0, 1) := by decide +kernel
theorem dX0_dropClause_1 : decode cX0_dropClause 1 = .ok (.getfield 27, 3) := by decide +kernel
theorem dX0_dropClause_4 : decode cX0_dropClause 4 = .ok (.ifCond .ne 5, 3) := by decide +kernel
theorem dX0_dropClause_7 : decode cX0_dropClause 7 = .ok (.iconst 0, 1) := by decide +kernel
theorem dX0_dropClause_8 : decode cX0_dropClause 8 = .ok (.ireturn, 1) := by decide +kernel
def wsPX0_dropClause : List Cond := .code yX0_dropClause cX0_dropClause 1 (some .boolean) :: ([.fieldLink RX0 27 "OptimaWorks$ClauseDesk" "clauses" "I"] ++ wsX00)
theorem iwsPX0_dropClause_in0 : ∀ w ∈ wsX00, w ∈ wsPX0_dropClause := fun _ h => List.mem_cons_of_mem _ (List.mem_append_right _ h)
set_option maxHeartbeats 4000000 in
set_option maxRecDepth 100000 in
/-- dropClause() on a fresh desk -/
theorem p_X0_dropClause (l : Launch) (dC : Nat → ClassId) (dI : Nat → Nat → Nat) (d0 : Nat) (bb : Nat → Nat) (sz : Nat) : Met l yX0_dropClause wsPX0_dropClause ({ frames := 0, cells := 0, slots := 0, locals := 0 }) (va_Pc [.ref d0] (fun U => U.heap.size = sz ∧ va_P (dC, dI) vwCl [(d0, .inr (0, [.int 0, .ref (bb 0), .ref (bb 1), .ref (bb 2), .ref (bb 3), .ref (bb 4), .int 0]))] U.heap ∧ va_K (dC, dI) vwCl [] U ∧ va_D (fun _ => True) [(d0, .inr (0, [.int 0, .ref (bb 0), .ref (bb 1), .ref (bb 2), .ref (bb 3), .ref (bb 4), .int 0]))])) (va_Qi (fun (r : Int32) (u : Unit) => r = 0) (fun (u : Unit) t => va_P (dC, dI) vwCl [] t.heap ∧ va_K (dC, dI) vwCl [] t ∧ va_D (va_A [(d0, .inr (0, [.int 0, .ref (bb 0), .ref (bb 1), .ref (bb 2), .ref (bb 3), .ref (bb 4), .int 0]))] sz) []) (va_A [(d0, .inr (0, [.int 0, .ref (bb 0), .ref (bb 1), .ref (bb 2), .ref (bb 3), .ref (bb 4), .int 0]))] sz)) 0 0 (va_A [(d0, .inr (0, [.int 0, .ref (bb 0), .ref (bb 1), .ref (bb 2), .ref (bb 3), .ref (bb 4), .int 0]))] sz) := by
  refine Met.ofW (cc := cX0_dropClause) (maxL := 1) (ret := (some .boolean)) (by decide) rfl ?_
  intro p e s m args below meth c s₁ B hml hv
  obtain ⟨rfl, hsz, hP, hK, hD0⟩ := hv
  have hx := B.exec
  have hb := B.bytes
  have hr := B.returns
  have hts := atoms_spec (ws := wsPX0_dropClause) B.pre
  have hown : s.vm.findClass RX0 = some m.cls := findClass_of_methodNamed B.named
  have hlocks := B.notSynchronized
  subst hsz
  have hD := hD0.self (sz := s.heap.size)
  generalize hAe : va_A [(d0, .inr (0, [.int 0, .ref (bb 0), .ref (bb 1), .ref (bb 2), .ref (bb 3), .ref (bb 4), .int 0]))] s.heap.size = A at hD ⊢
  have hA : ∀ q : Nat, s.heap.size ≤ q → A q := fun q h => by rw [← hAe]; exact Or.inr h
  have hS : va_S A s.heap s.heap [] := va_S.rf
  have hP : va_P (dC, dI) vwCl [(d0, .inr (0, [.int 0, .ref (bb 0), .ref (bb 1), .ref (bb 2), .ref (bb 3), .ref (bb 4), .int 0]))] s.heap := hP
  have hl := lv_entry ([.ref d0]) (n := 1) (Nat.le_of_ble_eq_true rfl)
  rw [lg_entry_eq]
  generalize (lg_sl ([.ref d0]) ++ List.replicate (1 - (lg_sl ([.ref d0])).length) Slot.unset).toArray = ls at hl ⊢
  have hl : lv_has ls 1 [(0, .ref d0)] := hl
  refine lv_aload_n hx hb dX0_dropClause_0 rfl (lv_at hl 0 rfl) ?_
  refine va_get (D := (dC, dI)) (ci := 0) (v := .int 0) (C := RX0) (T := TX0) (N := 7) hx hb hts iwsPX0_dropClause_in0 hown hK hP 0 rfl rfl 0 (by decide) (hts (.fieldLink RX0 27 "OptimaWorks$ClauseDesk" "clauses" "I") (by decide +kernel)) (fun _ h9 => h9) rfl dX0_dropClause_1 ?_
  refine lv_if_ne (tgt := 9) hx hb dX0_dropClause_4 (by decide) (fun c9 => absurd c9 (by decide)) (fun _ => ?_)
  refine lv_iconst (v := 0) hx hb dX0_dropClause_7 (by decide) ?_
  refine W.widen (k := 0) (n := 0) (by decide +kernel) (by decide +kernel) ?_
  exact W.zret (v := 0) hx hb hr rfl (fun t ht hW => ⟨⟨0, (), rfl, by (first | rfl | assumption | trivial | omega | (simp []; done) | (simp; omega)), by rw [ht]; exact hP.sub [] rfl, va_K.moved hW.alike (hK.sub [] rfl), hD.sub [] (by decide) rfl⟩, hS.F ht⟩) hS.2.2 dX0_dropClause_8
theorem dX11_unsay_0 : decode cX11_unsay 0 = .ok (.aload_n 0, 1) := by decide +kernel
theorem dX11_unsay_1 : decode cX11_unsay 1 = .ok (.invokevirtual 393, 3) := by decide +kernel
theorem dX11_unsay_4 : decode cX11_unsay 4 = .ok (.invokevirtual 402, 3) := by decide +kernel
theorem dX11_unsay_7 : decode cX11_unsay 7 = .ok (.ireturn, 1) := by decide +kernel
def wsPX11_unsay : List Cond := .code yX11_unsay cX11_unsay 1 (some .boolean) :: ([] ++ (wsV RX11 393 RX11 yX11_theClauses wsPX11_theClauses) ++ (wsV RX11 402 RX0 yX0_dropClause wsPX0_dropClause))
theorem gwsPX11_unsay_0 : GoodIn wsPX11_unsay (wsV RX11 393 RX11 yX11_theClauses wsPX11_theClauses) := goodIn_sub (fun _ h => List.mem_cons_of_mem _ (List.mem_append_left _ (List.mem_append_right _ h))) (by decide +kernel)
theorem gwsPX11_unsay_1 : GoodIn wsPX11_unsay (wsV RX11 402 RX0 yX0_dropClause wsPX0_dropClause) := goodIn_sub (fun _ h => List.mem_cons_of_mem _ (List.mem_append_right _ h)) (by decide +kernel)
set_option maxHeartbeats 4000000 in
set_option maxRecDepth 100000 in
/-- unsay() -/
theorem p_X11_unsay (l : Launch) (dC : Nat → ClassId) (dI : Nat → Nat → Nat) (h0 : Nat) (a : Nat → Nat) (sz : Nat) : Met l yX11_unsay wsPX11_unsay ({ frames := 3, cells := 6, slots := 8271, locals := 52 }) (va_Pc [.ref h0] (fun U => U.heap.size = sz ∧ va_P (dC, dI) vwCl [(h0, .inr (11, [.ref (a 0), .ref (a 1), .ref (a 3), .ref (a 14), .int 0, .null, .null, .null, .null, .null, .null]))] U.heap ∧ va_K (dC, dI) vwCl [] U ∧ va_D (fun _ => True) [(h0, .inr (11, [.ref (a 0), .ref (a 1), .ref (a 3), .ref (a 14), .int 0, .null, .null, .null, .null, .null, .null]))] ∧ va_Nw (.methodLinkNest RX11 392 yX0_init RX11) U)) (va_Qi (fun (r : Int32) (u : Unit) => r = 0) (fun (u : Unit) t => va_P (dC, dI) vwCl [] t.heap ∧ va_K (dC, dI) vwCl [] t ∧ va_D (va_A [(h0, .inr (11, [.ref (a 0), .ref (a 1), .ref (a 3), .ref (a 14), .int 0, .null, .null, .null, .null, .null, .null]))] sz) []) (va_A [(h0, .inr (11, [.ref (a 0), .ref (a 1), .ref (a 3), .ref (a 14), .int 0, .null, .null, .null, .null, .null, .null]))] sz)) 6 8271 (va_A [(h0, .inr (11, [.ref (a 0), .ref (a 1), .ref (a 3), .ref (a 14), .int 0, .null, .null, .null, .null, .null, .null]))] sz) := by
  refine Met.ofW (cc := cX11_unsay) (maxL := 1) (ret := (some .boolean)) (by decide) rfl ?_
  intro p e s m args below meth c s₁ B hml hv
  obtain ⟨rfl, hsz, hP, hK, hD0, hnX11_392⟩ := hv
  have hx := B.exec
  have hb := B.bytes
  have hr := B.returns
  have hts := atoms_spec (ws := wsPX11_unsay) B.pre
  have hown : s.vm.findClass RX11 = some m.cls := findClass_of_methodNamed B.named
  have hlocks := B.notSynchronized
  subst hsz
  have hD := hD0.self (sz := s.heap.size)
  generalize hAe : va_A [(h0, .inr (11, [.ref (a 0), .ref (a 1), .ref (a 3), .ref (a 14), .int 0, .null, .null, .null, .null, .null, .null]))] s.heap.size = A at hD ⊢
  have hA : ∀ q : Nat, s.heap.size ≤ q → A q := fun q h => by rw [← hAe]; exact Or.inr h
  have hS : va_S A s.heap s.heap [] := va_S.rf
  have hP : va_P (dC, dI) vwCl [(h0, .inr (11, [.ref (a 0), .ref (a 1), .ref (a 3), .ref (a 14), .int 0, .null, .null, .null, .null, .null, .null]))] s.heap := hP
  have hl := lv_entry ([.ref h0]) (n := 1) (Nat.le_of_ble_eq_true rfl)
  rw [lg_entry_eq]
  generalize (lg_sl ([.ref h0]) ++ List.replicate (1 - (lg_sl ([.ref h0])).length) Slot.unset).toArray = ls at hl ⊢
  have hl : lv_has ls 1 [(0, .ref h0)] := hl
  refine lv_aload_n hx hb dX11_unsay_0 rfl (lv_at hl 0 rfl) ?_
  have hPc := hP.sub (ws' := [(h0, .inr (11, [.ref (a 0), .ref (a 1), .ref (a 3), .ref (a 14), .int 0, .null, .null, .null, .null, .null, .null]))]) [0] rfl
  have hDc := hD.sub (ws' := [(h0, .inr (11, [.ref (a 0), .ref (a 1), .ref (a 3), .ref (a 14), .int 0, .null, .null, .null, .null, .null, .null]))]) [0] (by decide) rfl
  have hKc := hK.sub (tys' := []) [] rfl
  have hFc := va_free (wc := [(h0, .inr (11, [.ref (a 0), .ref (a 1), .ref (a 3), .ref (a 14), .int 0, .null, .null, .null, .null, .null, .null]))]) hD hS hA [0] rfl
  refine va_callr (va_runV (As := []) (rest := []) ⟨hx, hb, hml, hown, hts⟩ (p_X11_theClauses l dC dI h0 a s.heap.size) (cwV 0 hts gwsPX11_unsay_0 rfl rfl rfl (by decide +kernel) ⟨by decide +kernel, by decide +kernel⟩) ⟨fun a U g mk q => by obtain ⟨q0, q1, qP, qK, qD, qhnX11_392⟩ := q; exact ⟨q0, q1, qP, va_K.moved (u := U) (U := U.calling g mk a) (Vm.Alike.refl U.vm) qK, qD, va_Nw.same (u := U) (U := U.calling g mk a) rfl rfl qhnX11_392⟩, va_recv hKc hPc (ci := 11) (q0 := 0) rfl rfl, fun U hU9 hW => ⟨rfl, by rw [hU9], by rw [hU9]; exact hPc, va_K.moved hW.alike hKc, hDc.weaken (fun _ _ _ _ => trivial), va_Nw.warmM hW hnX11_392⟩⟩ rfl rfl hl.1 rfl (lv_room (Nat.le_of_ble_eq_true rfl)) dX11_unsay_1 ⟨by decide +kernel, by decide +kernel⟩) hS (fun q _ h => hFc q h) hFc (fun u a1 t H1 locs ht hvm hw hB hz1 hk1 hS => ?_)
  obtain ⟨aa1, kk1⟩ := u
  obtain ⟨hP1, hK1, hD1⟩ := hB
  rw [ht] at hP1
  have hK1 := va_K.moved hvm.symm hK1
  obtain ⟨hP, hD⟩ := va_join (wr := []) (w1 := [(h0, .inr (11, [.ref (a 0), .ref (a 1), .ref (a 3), .ref (a 14), .int 0, .null, .null, .null, .null, .ref a1, .null])), (a1, .inr (0, [.int 0, .ref (aa1 0), .ref (aa1 1), .ref (aa1 2), .ref (aa1 3), .ref (aa1 4), .int 0])), ((aa1 0), .inl ((kk1 0), 24, .inl (fun _ => 0))), ((aa1 1), .inl ((kk1 1), 24, .inl (fun _ => 0))), ((aa1 2), .inl ((kk1 2), 24, .inl (fun _ => 0))), ((aa1 3), .inl ((kk1 3), 4096, .inl (fun _ => 0))), ((aa1 4), .inl ((kk1 4), 4096, .inl (fun _ => 0)))]) hP hD [0] [] rfl rfl (by decide) (by decide) hk1 hFc hP1 hD1
  have hK := hK.app hK1
  generalize H1 = H at hP hS ⊢
  have hP : va_P (dC, dI) vwCl [(h0, .inr (11, [.ref (a 0), .ref (a 1), .ref (a 3), .ref (a 14), .int 0, .null, .null, .null, .null, .ref a1, .null])), (a1, .inr (0, [.int 0, .ref (aa1 0), .ref (aa1 1), .ref (aa1 2), .ref (aa1 3), .ref (aa1 4), .int 0])), ((aa1 0), .inl ((kk1 0), 24, .inl (fun _ => 0))), ((aa1 1), .inl ((kk1 1), 24, .inl (fun _ => 0))), ((aa1 2), .inl ((kk1 2), 24, .inl (fun _ => 0))), ((aa1 3), .inl ((kk1 3), 4096, .inl (fun _ => 0))), ((aa1 4), .inl ((kk1 4), 4096, .inl (fun _ => 0)))] H := hP
  have hD : va_D A [(h0, .inr (11, [.ref (a 0), .ref (a 1), .ref (a 3), .ref (a 14), .int 0, .null, .null, .null, .null, .ref a1, .null])), (a1, .inr (0, [.int 0, .ref (aa1 0), .ref (aa1 1), .ref (aa1 2), .ref (aa1 3), .ref (aa1 4), .int 0])), ((aa1 0), .inl ((kk1 0), 24, .inl (fun _ => 0))), ((aa1 1), .inl ((kk1 1), 24, .inl (fun _ => 0))), ((aa1 2), .inl ((kk1 2), 24, .inl (fun _ => 0))), ((aa1 3), .inl ((kk1 3), 4096, .inl (fun _ => 0))), ((aa1 4), .inl ((kk1 4), 4096, .inl (fun _ => 0)))] := hD
  have hK : va_K (dC, dI) vwCl [((kk1 0), .int), ((kk1 1), .int), ((kk1 2), .int), ((kk1 3), .int), ((kk1 4), .int)] s := hK
  refine W.widen (k := 6) (n := 8271) (by decide +kernel) (by decide +kernel) ?_
  have hPc := hP.sub (ws' := [(a1, .inr (0, [.int 0, .ref (aa1 0), .ref (aa1 1), .ref (aa1 2), .ref (aa1 3), .ref (aa1 4), .int 0]))]) [1] rfl
  have hDc := hD.sub (ws' := [(a1, .inr (0, [.int 0, .ref (aa1 0), .ref (aa1 1), .ref (aa1 2), .ref (aa1 3), .ref (aa1 4), .int 0]))]) [1] (by decide) rfl
  have hKc := hK.sub (tys' := []) [] rfl
  have hFc := va_free (wc := [(a1, .inr (0, [.int 0, .ref (aa1 0), .ref (aa1 1), .ref (aa1 2), .ref (aa1 3), .ref (aa1 4), .int 0]))]) hD hS hA [1] rfl
  refine va_calli (va_runV (As := []) (rest := []) ⟨hx, hb, hml, hown, hts⟩ (p_X0_dropClause l dC dI a1 aa1 H.size) (cwV 0 hts gwsPX11_unsay_1 rfl rfl rfl (by decide +kernel) ⟨by decide +kernel, by decide +kernel⟩) ⟨fun a U g mk q => by obtain ⟨q0, q1, qP, qK, qD⟩ := q; exact ⟨q0, q1, qP, va_K.moved (u := U) (U := U.calling g mk a) (Vm.Alike.refl U.vm) qK, qD⟩, va_recv hKc hPc (ci := 0) (q0 := 0) rfl rfl, fun U hU9 hW => ⟨rfl, by rw [hU9], by rw [hU9]; exact hPc, va_K.moved hW.alike hKc, hDc.weaken (fun _ _ _ _ => trivial)⟩⟩ rfl rfl hl.1 rfl (lv_room (Nat.le_of_ble_eq_true rfl)) dX11_unsay_4 ⟨by decide +kernel, by decide +kernel⟩) hS (fun q _ h => hFc q h) hFc (fun r4 u t H1 locs ht hvm hw hB hz1 hk1 hS => ?_)
  obtain ⟨hP1, hK1, hD1⟩ := hB
  rw [ht] at hP1
  have hK1 := va_K.moved hvm.symm hK1
  obtain ⟨hP, hD⟩ := va_join (wr := [(h0, .inr (11, [.ref (a 0), .ref (a 1), .ref (a 3), .ref (a 14), .int 0, .null, .null, .null, .null, .ref a1, .null])), ((aa1 0), .inl ((kk1 0), 24, .inl (fun _ => 0))), ((aa1 1), .inl ((kk1 1), 24, .inl (fun _ => 0))), ((aa1 2), .inl ((kk1 2), 24, .inl (fun _ => 0))), ((aa1 3), .inl ((kk1 3), 4096, .inl (fun _ => 0))), ((aa1 4), .inl ((kk1 4), 4096, .inl (fun _ => 0)))]) (w1 := []) hP hD [1] [0, 2, 3, 4, 5, 6] rfl rfl (by decide) (by decide) hk1 hFc hP1 hD1
  generalize H1 = H at hP hS ⊢
  have hP : va_P (dC, dI) vwCl [(h0, .inr (11, [.ref (a 0), .ref (a 1), .ref (a 3), .ref (a 14), .int 0, .null, .null, .null, .null, .ref a1, .null])), ((aa1 0), .inl ((kk1 0), 24, .inl (fun _ => 0))), ((aa1 1), .inl ((kk1 1), 24, .inl (fun _ => 0))), ((aa1 2), .inl ((kk1 2), 24, .inl (fun _ => 0))), ((aa1 3), .inl ((kk1 3), 4096, .inl (fun _ => 0))), ((aa1 4), .inl ((kk1 4), 4096, .inl (fun _ => 0)))] H := hP
  have hD : va_D A [(h0, .inr (11, [.ref (a 0), .ref (a 1), .ref (a 3), .ref (a 14), .int 0, .null, .null, .null, .null, .ref a1, .null])), ((aa1 0), .inl ((kk1 0), 24, .inl (fun _ => 0))), ((aa1 1), .inl ((kk1 1), 24, .inl (fun _ => 0))), ((aa1 2), .inl ((kk1 2), 24, .inl (fun _ => 0))), ((aa1 3), .inl ((kk1 3), 4096, .inl (fun _ => 0))), ((aa1 4), .inl ((kk1 4), 4096, .inl (fun _ => 0)))] := hD
  obtain rfl := hw
  refine W.widen (k := 6) (n := 8271) (by decide +kernel) (by decide +kernel) ?_
  exact W.zret (v := 0) hx hb hr rfl (fun t ht hW => ⟨⟨0, (), rfl, by (first | rfl | assumption | trivial | omega | (simp []; done) | (simp; omega)), by rw [ht]; exact hP.sub [] rfl, va_K.moved hW.alike (hK.sub [] rfl), hD.sub [] (by decide) rfl⟩, hS.F ht⟩) hS.2.2 dX11_unsay_7
theorem dX0_least_0 : decode cX0_least 0 = .ok (.iconst (-1), 1) := by decide +kernel
theorem dX0_least_1 : decode cX0_least 1 = .ok (.istore_n 2, 1) := by decide +kernel
theorem dX0_least_2 : decode cX0_least 2 = .ok (.iconst 0, 1) := by decide +kernel
theorem dX0_least_3 : decode cX0_least 3 = .ok (.istore_n 3, 1) := by decide +kernel
theorem dX0_least_4 : decode cX0_least 4 = .ok (.iload_n 3, 1) := by decide +kernel
theorem dX0_least_5 : decode cX0_least 5 = .ok (.sipush 4096, 3) := by decide +kernel
theorem dX0_least_8 : decode cX0_least 8 = .ok (.if_icmp .ge 45, 3) := by decide +kernel
theorem dX0_least_11 : decode cX0_least 11 = .ok (.aload_n 0, 1) := by decide +kernel
theorem dX0_least_12 : decode cX0_least 12 = .ok (.getfield 21, 3) := by decide +kernel
theorem dX0_least_15 : decode cX0_least 15 = .ok (.iload_n 3, 1) := by decide +kernel
theorem dX0_least_16 : decode cX0_least 16 = .ok (.iaload, 1) := by decide +kernel
theorem dX0_least_17 : decode cX0_least 17 = .ok (.aload_n 0, 1) := by decide +kernel
theorem dX0_least_18 : decode cX0_least 18 = .ok (.getfield 31, 3) := by decide +kernel
theorem dX0_least_21 : decode cX0_least 21 = .ok (.iand, 1) := by decide +kernel
theorem dX0_least_22 : decode cX0_least 22 = .ok (.ifCond .ne 25, 3) := by decide +kernel
theorem dX0_least_25 : decode cX0_least 25 = .ok (.iload_n 2, 1) := by decide +kernel
theorem dX0_least_26 : decode cX0_least 26 = .ok (.iconst (-1), 1) := by decide +kernel
theorem dX0_least_27 : decode cX0_least 27 = .ok (.if_icmp .eq 18, 3) := by decide +kernel
theorem dX0_least_30 : decode cX0_least 30 = .ok (.aload_n 0, 1) := by decide +kernel
theorem dX0_least_31 : decode cX0_least 31 = .ok (.getfield 24, 3) := by decide +kernel
theorem dX0_least_34 : decode cX0_least 34 = .ok (.iload_n 3, 1) := by decide +kernel
theorem dX0_least_35 : decode cX0_least 35 = .ok (.iaload, 1) := by decide +kernel
theorem dX0_least_36 : decode cX0_least 36 = .ok (.aload_n 0, 1) := by decide +kernel
theorem dX0_least_37 : decode cX0_least 37 = .ok (.getfield 24, 3) := by decide +kernel
theorem dX0_least_40 : decode cX0_least 40 = .ok (.iload_n 2, 1) := by decide +kernel
theorem dX0_least_41 : decode cX0_least 41 = .ok (.iaload, 1) := by decide +kernel
theorem dX0_least_42 : decode cX0_least 42 = .ok (.if_icmp .ge 5, 3) := by decide +kernel
theorem dX0_least_45 : decode cX0_least 45 = .ok (.iload_n 3, 1) := by decide +kernel
theorem dX0_least_46 : decode cX0_least 46 = .ok (.istore_n 2, 1) := by decide +kernel
theorem dX0_least_47 : decode cX0_least 47 = .ok (.iinc 3 1, 3) := by decide +kernel
theorem dX0_least_50 : decode cX0_least 50 = .ok (.goto (-46), 3) := by decide +kernel
theorem dX0_least_53 : decode cX0_least 53 = .ok (.iload_n 2, 1) := by decide +kernel
theorem dX0_least_54 : decode cX0_least 54 = .ok (.iconst (-1), 1) := by decide +kernel
theorem dX0_least_55 : decode cX0_least 55 = .ok (.if_icmp .eq 7, 3) := by decide +kernel
theorem dX0_least_58 : decode cX0_least 58 = .ok (.iload_n 1, 1) := by decide +kernel
theorem dX0_least_59 : decode cX0_least 59 = .ok (.ifCond .ne 7, 3) := by decide +kernel
theorem dX0_least_62 : decode cX0_least 62 = .ok (.iload_n 2, 1) := by decide +kernel
theorem dX0_least_63 : decode cX0_least 63 = .ok (.goto 9, 3) := by decide +kernel
theorem dX0_least_66 : decode cX0_least 66 = .ok (.aload_n 0, 1) := by decide +kernel
theorem dX0_least_67 : decode cX0_least 67 = .ok (.getfield 24, 3) := by decide +kernel
theorem dX0_least_70 : decode cX0_least 70 = .ok (.iload_n 2, 1) := by decide +kernel
theorem dX0_least_71 : decode cX0_least 71 = .ok (.iaload, 1) := by decide +kernel
theorem dX0_least_72 : decode cX0_least 72 = .ok (.ireturn, 1) := by decide +kernel
def wsPX0_least : List Cond := .code yX0_least cX0_least 4 (some .int) :: ([.fieldLink RX0 24 "OptimaWorks$ClauseDesk" "loss" "[I", .fieldLink RX0 21 "OptimaWorks$ClauseDesk" "broken" "[I", .fieldLink RX0 31 "OptimaWorks$ClauseDesk" "musts" "I"] ++ wsX00)
theorem iwsPX0_least_in0 : ∀ w ∈ wsX00, w ∈ wsPX0_least := fun _ h => List.mem_cons_of_mem _ (List.mem_append_right _ h)
set_option maxHeartbeats 4000000 in
set_option maxRecDepth 100000 in
/-- least(asLoss) on a fresh desk -/
theorem p_X0_least (l : Launch) (dC : Nat → ClassId) (dI : Nat → Nat → Nat) (d0 : Nat) (bb : Nat → Nat) (kd : Nat → ClassId) (as9 : Int32) (sz : Nat) : Met l yX0_least wsPX0_least ({ frames := 0, cells := 0, slots := 0, locals := 0 }) (va_Pc [.ref d0, .int as9] (fun U => U.heap.size = sz ∧ va_P (dC, dI) vwCl [(d0, .inr (0, [.int 0, .ref (bb 0), .ref (bb 1), .ref (bb 2), .ref (bb 3), .ref (bb 4), .int 0])), ((bb 3), .inl ((kd 3), 4096, .inl (fun _ => 0))), ((bb 4), .inl ((kd 4), 4096, .inl (fun _ => 0)))] U.heap ∧ va_K (dC, dI) vwCl [((kd 3), .int), ((kd 4), .int)] U ∧ va_D (fun _ => True) [(d0, .inr (0, [.int 0, .ref (bb 0), .ref (bb 1), .ref (bb 2), .ref (bb 3), .ref (bb 4), .int 0])), ((bb 3), .inl ((kd 3), 4096, .inl (fun _ => 0))), ((bb 4), .inl ((kd 4), 4096, .inl (fun _ => 0)))])) (va_Qi (fun (r : Int32) (u : Unit) => ((r).toInt = 0)) (fun (u : Unit) t => va_P (dC, dI) vwCl [] t.heap ∧ va_K (dC, dI) vwCl [] t ∧ va_D (va_A [(d0, .inr (0, [.int 0, .ref (bb 0), .ref (bb 1), .ref (bb 2), .ref (bb 3), .ref (bb 4), .int 0])), ((bb 3), .inl ((kd 3), 4096, .inl (fun _ => 0))), ((bb 4), .inl ((kd 4), 4096, .inl (fun _ => 0)))] sz) []) (va_A [(d0, .inr (0, [.int 0, .ref (bb 0), .ref (bb 1), .ref (bb 2), .ref (bb 3), .ref (bb 4), .int 0])), ((bb 3), .inl ((kd 3), 4096, .inl (fun _ => 0))), ((bb 4), .inl ((kd 4), 4096, .inl (fun _ => 0)))] sz)) 0 0 (va_A [(d0, .inr (0, [.int 0, .ref (bb 0), .ref (bb 1), .ref (bb 2), .ref (bb 3), .ref (bb 4), .int 0])), ((bb 3), .inl ((kd 3), 4096, .inl (fun _ => 0))), ((bb 4), .inl ((kd 4), 4096, .inl (fun _ => 0)))] sz) := by
  refine Met.ofW (cc := cX0_least) (maxL := 4) (ret := (some .int)) (by decide) rfl ?_
  intro p e s m args below meth c s₁ B hml hv
  obtain ⟨rfl, hsz, hP, hK, hD0⟩ := hv
  have hx := B.exec
  have hb := B.bytes
  have hr := B.returns
  have hts := atoms_spec (ws := wsPX0_least) B.pre
  have hown : s.vm.findClass RX0 = some m.cls := findClass_of_methodNamed B.named
  have hlocks := B.notSynchronized
  subst hsz
  have hD := hD0.self (sz := s.heap.size)
  generalize hAe : va_A [(d0, .inr (0, [.int 0, .ref (bb 0), .ref (bb 1), .ref (bb 2), .ref (bb 3), .ref (bb 4), .int 0])), ((bb 3), .inl ((kd 3), 4096, .inl (fun _ => 0))), ((bb 4), .inl ((kd 4), 4096, .inl (fun _ => 0)))] s.heap.size = A at hD ⊢
  have hA : ∀ q : Nat, s.heap.size ≤ q → A q := fun q h => by rw [← hAe]; exact Or.inr h
  have hS : va_S A s.heap s.heap [] := va_S.rf
  have hP : va_P (dC, dI) vwCl [(d0, .inr (0, [.int 0, .ref (bb 0), .ref (bb 1), .ref (bb 2), .ref (bb 3), .ref (bb 4), .int 0])), ((bb 3), .inl ((kd 3), 4096, .inl (fun _ => 0))), ((bb 4), .inl ((kd 4), 4096, .inl (fun _ => 0)))] s.heap := hP
  have hl := lv_entry ([.ref d0, .int as9]) (n := 4) (Nat.le_of_ble_eq_true rfl)
  rw [lg_entry_eq]
  generalize (lg_sl ([.ref d0, .int as9]) ++ List.replicate (4 - (lg_sl ([.ref d0, .int as9])).length) Slot.unset).toArray = ls at hl ⊢
  have hl : lv_has ls 4 [(0, .ref d0), (1, .int as9)] := hl
  refine lv_iconst (v := (-1)) hx hb dX0_least_0 (by decide) ?_
  refine lv_istore_n (lv' := [(2, .int (-1)), (0, .ref d0), (1, .int as9)]) hx hb dX0_least_1 rfl hl (by decide) rfl (fun ls hl => ?_)
  refine lv_iconst (v := 0) hx hb dX0_least_2 (by decide) ?_
  refine lv_istore_n (lv' := [(3, .int 0), (2, .int (-1)), (0, .ref d0), (1, .int as9)]) hx hb dX0_least_3 rfl hl (by decide) rfl (fun ls hl => ?_)
  have hl := lv_sub hl [0, 1, 2, 3] (l' := [(3, .int (nI 0)), (2, .int (-1)), (0, .ref d0), (1, .int as9)]) rfl
  refine (fun (loop : ∀ (n9 : Nat) (i : Nat) (fd : Int32) (H : Heap) (locs : List Loc) (ls : Array Slot), (i ≤ 4096) → ((i = 0 ∧ fd.toInt = -1) ∨ (0 < i ∧ fd.toInt = 0)) →  (4096 < i + n9) → va_P (dC, dI) vwCl [(d0, .inr (0, [.int 0, .ref (bb 0), .ref (bb 1), .ref (bb 2), .ref (bb 3), .ref (bb 4), .int 0])), ((bb 3), .inl ((kd 3), 4096, .inl (fun _ => 0))), ((bb 4), .inl ((kd 4), 4096, .inl (fun _ => 0)))] H → va_D A [(d0, .inr (0, [.int 0, .ref (bb 0), .ref (bb 1), .ref (bb 2), .ref (bb 3), .ref (bb 4), .int 0])), ((bb 3), .inl ((kd 3), 4096, .inl (fun _ => 0))), ((bb 4), .inl ((kd 4), 4096, .inl (fun _ => 0)))] → va_S A s.heap H locs → lv_has ls 4 [(3, .int (nI i)), (2, .int fd), (0, .ref d0), (1, .int as9)] → W p l e _ s m _ below meth c H locs 0 0 _ (F0 m 4 ls [])) => loop (4097) 0 (-1) _ _ _ (by omega) (Or.inl ⟨rfl, by decide⟩) (by omega) hP hD hS hl) ?_
  intro n9
  induction n9 with
  | zero => intro i fd H locs ls hi hq hf9; exact False.elim (by omega)
  | succ n9 ih4 =>
    intro i fd H locs ls hi hq hf4 hP hD hS hl
    refine lv_iload_n hx hb dX0_least_4 rfl (lv_at hl 0 rfl) ?_
    refine lv_sipush (v := 4096) hx hb dX0_least_5 (by decide) ?_
    refine lv_icmp_ge (tgt := 53) hx hb dX0_least_8 (by decide) (fun c_8 => ?_) (fun c_8 => ?_)
    · have t_8 : ((i : Nat) : Int) ≥ 4096 := toI_ge c_8 (nI_toInt (by omega)) (by decide)
      refine lv_iload_n hx hb dX0_least_53 rfl (lv_at hl 1 rfl) ?_
      refine lv_iconst (v := (-1)) hx hb dX0_least_54 (by decide) ?_
      refine lv_icmp_eq (tgt := 62) hx hb dX0_least_55 (by decide) (fun c9 => False.elim (by have t9 : (fd).toInt = -1 := toI_eq c9 rfl (by decide); omega)) (fun c_55 => ?_)
      have t_55 : ¬ (fd).toInt = -1 := toI_neq c_55 rfl (by decide)
      refine lv_iload_n hx hb dX0_least_58 rfl (lv_at hl 3 rfl) ?_
      refine lv_if_ne (tgt := 66) hx hb dX0_least_59 (by decide) (fun c_59 => ?_) (fun c_59 => ?_)
      · have t_59 : (as9).toInt ≠ 0 := toI_ne c_59 rfl (by decide)
        refine lv_aload_n hx hb dX0_least_66 rfl (lv_at hl 2 rfl) ?_
        refine va_get (D := (dC, dI)) (ci := 0) (v := .ref (bb 4)) (C := RX0) (T := TX0) (N := 7) hx hb hts iwsPX0_least_in0 hown hK hP 0 rfl rfl 5 (by decide) (hts (.fieldLink RX0 24 "OptimaWorks$ClauseDesk" "loss" "[I") (by decide +kernel)) (fun _ h9 => h9) rfl dX0_least_67 ?_
        refine lv_iload_n hx hb dX0_least_70 rfl (lv_at hl 1 rfl) ?_
        refine va_iald hx hb hK hP 2 1 rfl rfl (vp_in_iff.mpr (by omega)) dX0_least_71 ?_
        refine lv_topi (fun y1 hy1 => ?_)
        obtain rfl : 0 = y1 := (hy1.trans (rfl)).symm
        refine W.widen (k := 0) (n := 0) (by decide +kernel) (by decide +kernel) ?_
        exact W.iret (v := 0) hx hb hr (fun t ht hW => ⟨⟨0, (), rfl, by (first | rfl | assumption | trivial | omega | (simp [c_8, c_59]; done) | (simp; omega)), by rw [ht]; exact hP.sub [] rfl, va_K.moved hW.alike (hK.sub [] rfl), hD.sub [] (by decide) rfl⟩, hS.F ht⟩) hS.2.2 dX0_least_72
      · have t_59 : (as9).toInt = 0 := toI_nne c_59 rfl (by decide)
        refine lv_iload_n hx hb dX0_least_62 rfl (lv_at hl 1 rfl) ?_
        refine lv_goto (tgt := 72) hx hb dX0_least_63 (by decide) ?_
        refine W.widen (k := 0) (n := 0) (by decide +kernel) (by decide +kernel) ?_
        exact W.iret (v := fd) hx hb hr (fun t ht hW => ⟨⟨fd, (), rfl, by (first | rfl | assumption | trivial | omega | (simp [c_8, c_59]; done) | (simp; omega)), by rw [ht]; exact hP.sub [] rfl, va_K.moved hW.alike (hK.sub [] rfl), hD.sub [] (by decide) rfl⟩, hS.F ht⟩) hS.2.2 dX0_least_72
    · have t_8 : ¬ ((i : Nat) : Int) ≥ 4096 := toI_nge c_8 (nI_toInt (by omega)) (by decide)
      refine lv_aload_n hx hb dX0_least_11 rfl (lv_at hl 2 rfl) ?_
      refine va_get (D := (dC, dI)) (ci := 0) (v := .ref (bb 3)) (C := RX0) (T := TX0) (N := 7) hx hb hts iwsPX0_least_in0 hown hK hP 0 rfl rfl 4 (by decide) (hts (.fieldLink RX0 21 "OptimaWorks$ClauseDesk" "broken" "[I") (by decide +kernel)) (fun _ h9 => h9) rfl dX0_least_12 ?_
      refine lv_iload_n hx hb dX0_least_15 rfl (lv_at hl 0 rfl) ?_
      refine va_iald hx hb hK hP 1 0 rfl rfl (vp_in_nI (show i < 4096 by omega) (by omega)) dX0_least_16 ?_
      refine lv_topi (fun y2 hy2 => ?_)
      obtain rfl : 0 = y2 := (hy2.trans (rfl)).symm
      refine lv_aload_n hx hb dX0_least_17 rfl (lv_at hl 2 rfl) ?_
      refine va_get (D := (dC, dI)) (ci := 0) (v := .int 0) (C := RX0) (T := TX0) (N := 7) hx hb hts iwsPX0_least_in0 hown hK hP 0 rfl rfl 6 (by decide) (hts (.fieldLink RX0 31 "OptimaWorks$ClauseDesk" "musts" "I") (by decide +kernel)) (fun _ h9 => h9) rfl dX0_least_18 ?_
      refine lv_iand hx hb dX0_least_21 ?_
      refine lv_topi (fun y3 hy3 => ?_)
      obtain rfl : 0 = y3 := (hy3.trans (by decide)).symm
      refine lv_if_ne (tgt := 47) hx hb dX0_least_22 (by decide) (fun c9 => absurd c9 (by decide)) (fun _ => ?_)
      refine lv_iload_n hx hb dX0_least_25 rfl (lv_at hl 1 rfl) ?_
      refine lv_iconst (v := (-1)) hx hb dX0_least_26 (by decide) ?_
      refine lv_icmp_eq (tgt := 45) hx hb dX0_least_27 (by decide) (fun c_27 => ?_) (fun c_27 => ?_)
      · have t_27 : (fd).toInt = -1 := toI_eq c_27 rfl (by decide)
        refine lv_iload_n hx hb dX0_least_45 rfl (lv_at hl 0 rfl) ?_
        refine lv_istore_n (lv' := [(2, .int (nI i)), (3, .int (nI i)), (0, .ref d0), (1, .int as9)]) hx hb dX0_least_46 rfl hl (by decide) rfl (fun ls hl => ?_)
        refine lv_iinc (v := (nI (i + 1))) (lv' := [(3, .int (nI (i + 1))), (2, .int (nI i)), (0, .ref d0), (1, .int as9)]) hx hb dX0_least_47 hl (k := 1) rfl (nI_add i 1) (by decide) rfl (fun ls hl => ?_)
        refine lv_goto (tgt := 4) hx hb dX0_least_50 (by decide) ?_
        have hl := lv_sub hl [0, 1, 2, 3] (l' := [(3, .int (nI (i + 1))), (2, .int (nI i)), (0, .ref d0), (1, .int as9)]) rfl
        exact ih4 (i + 1) (nI i) _ _ _ (by omega) (by first | omega | (have z0 : (0 : Int32).toInt = 0 := (by decide); have z1 : (-1 : Int32).toInt = -1 := (by decide); have z2 := nI_toInt (n := i) (by omega); omega)) (by omega) hP hD hS hl
      · have t_27 : ¬ (fd).toInt = -1 := toI_neq c_27 rfl (by decide)
        refine lv_aload_n hx hb dX0_least_30 rfl (lv_at hl 2 rfl) ?_
        refine va_get (D := (dC, dI)) (ci := 0) (v := .ref (bb 4)) (C := RX0) (T := TX0) (N := 7) hx hb hts iwsPX0_least_in0 hown hK hP 0 rfl rfl 5 (by decide) (hts (.fieldLink RX0 24 "OptimaWorks$ClauseDesk" "loss" "[I") (by decide +kernel)) (fun _ h9 => h9) rfl dX0_least_31 ?_
        refine lv_iload_n hx hb dX0_least_34 rfl (lv_at hl 0 rfl) ?_
        refine va_iald hx hb hK hP 2 1 rfl rfl (vp_in_nI (show i < 4096 by omega) (by omega)) dX0_least_35 ?_
        refine lv_topi (fun y4 hy4 => ?_)
        obtain rfl : 0 = y4 := (hy4.trans (rfl)).symm
        refine lv_aload_n hx hb dX0_least_36 rfl (lv_at hl 2 rfl) ?_
        refine va_get (D := (dC, dI)) (ci := 0) (v := .ref (bb 4)) (C := RX0) (T := TX0) (N := 7) hx hb hts iwsPX0_least_in0 hown hK hP 0 rfl rfl 5 (by decide) (hts (.fieldLink RX0 24 "OptimaWorks$ClauseDesk" "loss" "[I") (by decide +kernel)) (fun _ h9 => h9) rfl dX0_least_37 ?_
        refine lv_iload_n hx hb dX0_least_40 rfl (lv_at hl 1 rfl) ?_
        refine va_iald hx hb hK hP 2 1 rfl rfl (vp_in_iff.mpr (by omega)) dX0_least_41 ?_
        refine lv_topi (fun y5 hy5 => ?_)
        obtain rfl : 0 = y5 := (hy5.trans (rfl)).symm
        refine lv_icmp_ge (tgt := 47) hx hb dX0_least_42 (by decide) (fun _ => ?_) (fun c9 => absurd (by decide) c9)
        refine lv_iinc (v := (nI (i + 1))) (lv' := [(3, .int (nI (i + 1))), (2, .int fd), (0, .ref d0), (1, .int as9)]) hx hb dX0_least_47 hl (k := 0) rfl (nI_add i 1) (by decide) rfl (fun ls hl => ?_)
        refine lv_goto (tgt := 4) hx hb dX0_least_50 (by decide) ?_
        have hl := lv_sub hl [0, 1, 2, 3] (l' := [(3, .int (nI (i + 1))), (2, .int fd), (0, .ref d0), (1, .int as9)]) rfl
        exact ih4 (i + 1) fd _ _ _ (by omega) (by first | omega | (have z0 : (0 : Int32).toInt = 0 := (by decide); have z1 : (-1 : Int32).toInt = -1 := (by decide); have z2 := nI_toInt (n := i) (by omega); omega)) (by omega) hP hD hS hl
theorem dX0_models_0 : decode cX0_models 0 = .ok (.iconst 0, 1) := by decide +kernel
theorem dX0_models_1 : decode cX0_models 1 = .ok (.istore_n 1, 1) := by decide +kernel
theorem dX0_models_2 : decode cX0_models 2 = .ok (.iconst 0, 1) := by decide +kernel
theorem dX0_models_3 : decode cX0_models 3 = .ok (.istore_n 2, 1) := by decide +kernel
theorem dX0_models_4 : decode cX0_models 4 = .ok (.iload_n 2, 1) := by decide +kernel
theorem dX0_models_5 : decode cX0_models 5 = .ok (.sipush 4096, 3) := by decide +kernel
theorem dX0_models_8 : decode cX0_models 8 = .ok (.if_icmp .ge 26, 3) := by decide +kernel
theorem dX0_models_11 : decode cX0_models 11 = .ok (.iload_n 1, 1) := by decide +kernel
theorem dX0_models_12 : decode cX0_models 12 = .ok (.aload_n 0, 1) := by decide +kernel
theorem dX0_models_13 : decode cX0_models 13 = .ok (.getfield 21, 3) := by decide +kernel
theorem dX0_models_16 : decode cX0_models 16 = .ok (.iload_n 2, 1) := by decide +kernel
theorem dX0_models_17 : decode cX0_models 17 = .ok (.iaload, 1) := by decide +kernel
theorem dX0_models_18 : decode cX0_models 18 = .ok (.ifCond .ne 7, 3) := by decide +kernel
theorem dX0_models_21 : decode cX0_models 21 = .ok (.iconst 1, 1) := by decide +kernel
theorem dX0_models_22 : decode cX0_models 22 = .ok (.goto 4, 3) := by decide +kernel
theorem dX0_models_26 : decode cX0_models 26 = .ok (.iadd, 1) := by decide +kernel
theorem dX0_models_27 : decode cX0_models 27 = .ok (.istore_n 1, 1) := by decide +kernel
theorem dX0_models_28 : decode cX0_models 28 = .ok (.iinc 2 1, 3) := by decide +kernel
theorem dX0_models_31 : decode cX0_models 31 = .ok (.goto (-27), 3) := by decide +kernel
theorem dX0_models_34 : decode cX0_models 34 = .ok (.iload_n 1, 1) := by decide +kernel
theorem dX0_models_35 : decode cX0_models 35 = .ok (.ireturn, 1) := by decide +kernel
def wsPX0_models : List Cond := .code yX0_models cX0_models 3 (some .int) :: ([.fieldLink RX0 21 "OptimaWorks$ClauseDesk" "broken" "[I"] ++ wsX00)
theorem iwsPX0_models_in0 : ∀ w ∈ wsX00, w ∈ wsPX0_models := fun _ h => List.mem_cons_of_mem _ (List.mem_append_right _ h)
set_option maxHeartbeats 4000000 in
set_option maxRecDepth 100000 in
/-- models() on a fresh desk -/
theorem p_X0_models (l : Launch) (dC : Nat → ClassId) (dI : Nat → Nat → Nat) (d0 : Nat) (bb : Nat → Nat) (kd : Nat → ClassId) (sz : Nat) : Met l yX0_models wsPX0_models ({ frames := 0, cells := 0, slots := 0, locals := 0 }) (va_Pc [.ref d0] (fun U => U.heap.size = sz ∧ va_P (dC, dI) vwCl [(d0, .inr (0, [.int 0, .ref (bb 0), .ref (bb 1), .ref (bb 2), .ref (bb 3), .ref (bb 4), .int 0])), ((bb 3), .inl ((kd 3), 4096, .inl (fun _ => 0)))] U.heap ∧ va_K (dC, dI) vwCl [((kd 3), .int)] U ∧ va_D (fun _ => True) [(d0, .inr (0, [.int 0, .ref (bb 0), .ref (bb 1), .ref (bb 2), .ref (bb 3), .ref (bb 4), .int 0])), ((bb 3), .inl ((kd 3), 4096, .inl (fun _ => 0)))])) (va_Qi (fun (r : Int32) (u : Unit) => ((r).toInt = 4096)) (fun (u : Unit) t => va_P (dC, dI) vwCl [] t.heap ∧ va_K (dC, dI) vwCl [] t ∧ va_D (va_A [(d0, .inr (0, [.int 0, .ref (bb 0), .ref (bb 1), .ref (bb 2), .ref (bb 3), .ref (bb 4), .int 0])), ((bb 3), .inl ((kd 3), 4096, .inl (fun _ => 0)))] sz) []) (va_A [(d0, .inr (0, [.int 0, .ref (bb 0), .ref (bb 1), .ref (bb 2), .ref (bb 3), .ref (bb 4), .int 0])), ((bb 3), .inl ((kd 3), 4096, .inl (fun _ => 0)))] sz)) 0 0 (va_A [(d0, .inr (0, [.int 0, .ref (bb 0), .ref (bb 1), .ref (bb 2), .ref (bb 3), .ref (bb 4), .int 0])), ((bb 3), .inl ((kd 3), 4096, .inl (fun _ => 0)))] sz) := by
  refine Met.ofW (cc := cX0_models) (maxL := 3) (ret := (some .int)) (by decide) rfl ?_
  intro p e s m args below meth c s₁ B hml hv
  obtain ⟨rfl, hsz, hP, hK, hD0⟩ := hv
  have hx := B.exec
  have hb := B.bytes
  have hr := B.returns
  have hts := atoms_spec (ws := wsPX0_models) B.pre
  have hown : s.vm.findClass RX0 = some m.cls := findClass_of_methodNamed B.named
  have hlocks := B.notSynchronized
  subst hsz
  have hD := hD0.self (sz := s.heap.size)
  generalize hAe : va_A [(d0, .inr (0, [.int 0, .ref (bb 0), .ref (bb 1), .ref (bb 2), .ref (bb 3), .ref (bb 4), .int 0])), ((bb 3), .inl ((kd 3), 4096, .inl (fun _ => 0)))] s.heap.size = A at hD ⊢
  have hA : ∀ q : Nat, s.heap.size ≤ q → A q := fun q h => by rw [← hAe]; exact Or.inr h
  have hS : va_S A s.heap s.heap [] := va_S.rf
  have hP : va_P (dC, dI) vwCl [(d0, .inr (0, [.int 0, .ref (bb 0), .ref (bb 1), .ref (bb 2), .ref (bb 3), .ref (bb 4), .int 0])), ((bb 3), .inl ((kd 3), 4096, .inl (fun _ => 0)))] s.heap := hP
  have hl := lv_entry ([.ref d0]) (n := 3) (Nat.le_of_ble_eq_true rfl)
  rw [lg_entry_eq]
  generalize (lg_sl ([.ref d0]) ++ List.replicate (3 - (lg_sl ([.ref d0])).length) Slot.unset).toArray = ls at hl ⊢
  have hl : lv_has ls 3 [(0, .ref d0)] := hl
  refine lv_iconst (v := 0) hx hb dX0_models_0 (by decide) ?_
  refine lv_istore_n (lv' := [(1, .int 0), (0, .ref d0)]) hx hb dX0_models_1 rfl hl (by decide) rfl (fun ls hl => ?_)
  refine lv_iconst (v := 0) hx hb dX0_models_2 (by decide) ?_
  refine lv_istore_n (lv' := [(2, .int 0), (1, .int 0), (0, .ref d0)]) hx hb dX0_models_3 rfl hl (by decide) rfl (fun ls hl => ?_)
  have hl := lv_sub hl [1, 0, 2] (l' := [(1, .int (nI 0)), (2, .int (nI 0)), (0, .ref d0)]) rfl
  refine (fun (loop : ∀ (n9 : Nat) (i : Nat) (H : Heap) (locs : List Loc) (ls : Array Slot), (i ≤ 4096) →  (4096 < i + n9) → va_P (dC, dI) vwCl [(d0, .inr (0, [.int 0, .ref (bb 0), .ref (bb 1), .ref (bb 2), .ref (bb 3), .ref (bb 4), .int 0])), ((bb 3), .inl ((kd 3), 4096, .inl (fun _ => 0)))] H → va_D A [(d0, .inr (0, [.int 0, .ref (bb 0), .ref (bb 1), .ref (bb 2), .ref (bb 3), .ref (bb 4), .int 0])), ((bb 3), .inl ((kd 3), 4096, .inl (fun _ => 0)))] → va_S A s.heap H locs → lv_has ls 3 [(1, .int (nI i)), (2, .int (nI i)), (0, .ref d0)] → W p l e _ s m _ below meth c H locs 0 0 _ (F0 m 4 ls [])) => loop (4097) 0 _ _ _ (by omega) (by omega) hP hD hS hl) ?_
  intro n9
  induction n9 with
  | zero => intro i H locs ls hi hf9; exact False.elim (by omega)
  | succ n9 ih4 =>
    intro i H locs ls hi hf4 hP hD hS hl
    refine lv_iload_n hx hb dX0_models_4 rfl (lv_at hl 1 rfl) ?_
    refine lv_sipush (v := 4096) hx hb dX0_models_5 (by decide) ?_
    refine lv_icmp_ge (tgt := 34) hx hb dX0_models_8 (by decide) (fun c_8 => ?_) (fun c_8 => ?_)
    · have t_8 : ((i : Nat) : Int) ≥ 4096 := toI_ge c_8 (nI_toInt (by omega)) (by decide)
      refine lv_iload_n hx hb dX0_models_34 rfl (lv_at hl 0 rfl) ?_
      refine W.widen (k := 0) (n := 0) (by decide +kernel) (by decide +kernel) ?_
      exact W.iret (v := (nI i)) hx hb hr (fun t ht hW => ⟨⟨(nI i), (), rfl, by (try dsimp only); rw [nI_toInt (by omega)]; omega, by rw [ht]; exact hP.sub [] rfl, va_K.moved hW.alike (hK.sub [] rfl), hD.sub [] (by decide) rfl⟩, hS.F ht⟩) hS.2.2 dX0_models_35
    · have t_8 : ¬ ((i : Nat) : Int) ≥ 4096 := toI_nge c_8 (nI_toInt (by omega)) (by decide)
      refine lv_iload_n hx hb dX0_models_11 rfl (lv_at hl 0 rfl) ?_
      refine lv_aload_n hx hb dX0_models_12 rfl (lv_at hl 2 rfl) ?_
      refine va_get (D := (dC, dI)) (ci := 0) (v := .ref (bb 3)) (C := RX0) (T := TX0) (N := 7) hx hb hts iwsPX0_models_in0 hown hK hP 0 rfl rfl 4 (by decide) (hts (.fieldLink RX0 21 "OptimaWorks$ClauseDesk" "broken" "[I") (by decide +kernel)) (fun _ h9 => h9) rfl dX0_models_13 ?_
      refine lv_iload_n hx hb dX0_models_16 rfl (lv_at hl 1 rfl) ?_
      refine va_iald hx hb hK hP 1 0 rfl rfl (vp_in_nI (show i < 4096 by omega) (by omega)) dX0_models_17 ?_
      refine lv_topi (fun y1 hy1 => ?_)
      obtain rfl : 0 = y1 := (hy1.trans (rfl)).symm
      refine lv_if_ne (tgt := 25) hx hb dX0_models_18 (by decide) (fun c9 => absurd c9 (by decide)) (fun _ => ?_)
      refine lv_iconst (v := 1) hx hb dX0_models_21 (by decide) ?_
      refine lv_goto (tgt := 26) hx hb dX0_models_22 (by decide) ?_
      refine lv_iadd hx hb dX0_models_26 ?_
      refine lv_topi (fun y2 hy2 => ?_)
      obtain rfl : (nI (i + 1)) = y2 := (hy2.trans (nI_add i 1)).symm
      refine lv_istore_n (lv' := [(1, .int (nI (i + 1))), (2, .int (nI i)), (0, .ref d0)]) hx hb dX0_models_27 rfl hl (by decide) rfl (fun ls hl => ?_)
      refine lv_iinc (v := (nI (i + 1))) (lv' := [(2, .int (nI (i + 1))), (1, .int (nI (i + 1))), (0, .ref d0)]) hx hb dX0_models_28 hl (k := 1) rfl (nI_add i 1) (by decide) rfl (fun ls hl => ?_)
      refine lv_goto (tgt := 4) hx hb dX0_models_31 (by decide) ?_
      have hl := lv_sub hl [1, 0, 2] (l' := [(1, .int (nI (i + 1))), (2, .int (nI (i + 1))), (0, .ref d0)]) rfl
      exact ih4 (i + 1) _ _ _ (by omega) (by omega) hP hD hS hl
theorem dX0_canKeep_0 : decode cX0_canKeep 0 = .ok (.iconst 0, 1) := by decide +kernel
theorem dX0_canKeep_1 : decode cX0_canKeep 1 = .ok (.istore_n 2, 1) := by decide +kernel
theorem dX0_canKeep_2 : decode cX0_canKeep 2 = .ok (.iload_n 2, 1) := by decide +kernel
theorem dX0_canKeep_3 : decode cX0_canKeep 3 = .ok (.sipush 4096, 3) := by decide +kernel
theorem dX0_canKeep_6 : decode cX0_canKeep 6 = .ok (.if_icmp .ge 22, 3) := by decide +kernel
theorem dX0_canKeep_9 : decode cX0_canKeep 9 = .ok (.aload_n 0, 1) := by decide +kernel
theorem dX0_canKeep_10 : decode cX0_canKeep 10 = .ok (.getfield 21, 3) := by decide +kernel
theorem dX0_canKeep_13 : decode cX0_canKeep 13 = .ok (.iload_n 2, 1) := by decide +kernel
theorem dX0_canKeep_14 : decode cX0_canKeep 14 = .ok (.iaload, 1) := by decide +kernel
theorem dX0_canKeep_15 : decode cX0_canKeep 15 = .ok (.iload_n 1, 1) := by decide +kernel
theorem dX0_canKeep_16 : decode cX0_canKeep 16 = .ok (.iand, 1) := by decide +kernel
theorem dX0_canKeep_17 : decode cX0_canKeep 17 = .ok (.ifCond .ne 5, 3) := by decide +kernel
theorem dX0_canKeep_20 : decode cX0_canKeep 20 = .ok (.iconst 1, 1) := by decide +kernel
theorem dX0_canKeep_21 : decode cX0_canKeep 21 = .ok (.ireturn, 1) := by decide +kernel
def wsPX0_canKeep : List Cond := .code yX0_canKeep cX0_canKeep 3 (some .boolean) :: ([.fieldLink RX0 21 "OptimaWorks$ClauseDesk" "broken" "[I"] ++ wsX00)
theorem iwsPX0_canKeep_in0 : ∀ w ∈ wsX00, w ∈ wsPX0_canKeep := fun _ h => List.mem_cons_of_mem _ (List.mem_append_right _ h)
set_option maxHeartbeats 4000000 in
set_option maxRecDepth 100000 in
/-- canKeep(0) on a fresh desk -/
theorem p_X0_canKeep (l : Launch) (dC : Nat → ClassId) (dI : Nat → Nat → Nat) (d0 : Nat) (bb : Nat → Nat) (kd : Nat → ClassId) (sz : Nat) : Met l yX0_canKeep wsPX0_canKeep ({ frames := 0, cells := 0, slots := 0, locals := 0 }) (va_Pc [.ref d0, .int 0] (fun U => U.heap.size = sz ∧ va_P (dC, dI) vwCl [(d0, .inr (0, [.int 0, .ref (bb 0), .ref (bb 1), .ref (bb 2), .ref (bb 3), .ref (bb 4), .int 0])), ((bb 3), .inl ((kd 3), 4096, .inl (fun _ => 0)))] U.heap ∧ va_K (dC, dI) vwCl [((kd 3), .int)] U ∧ va_D (fun _ => True) [(d0, .inr (0, [.int 0, .ref (bb 0), .ref (bb 1), .ref (bb 2), .ref (bb 3), .ref (bb 4), .int 0])), ((bb 3), .inl ((kd 3), 4096, .inl (fun _ => 0)))])) (va_Qi (fun (r : Int32) (u : Unit) => r = 1) (fun (u : Unit) t => va_P (dC, dI) vwCl [] t.heap ∧ va_K (dC, dI) vwCl [] t ∧ va_D (va_A [(d0, .inr (0, [.int 0, .ref (bb 0), .ref (bb 1), .ref (bb 2), .ref (bb 3), .ref (bb 4), .int 0])), ((bb 3), .inl ((kd 3), 4096, .inl (fun _ => 0)))] sz) []) (va_A [(d0, .inr (0, [.int 0, .ref (bb 0), .ref (bb 1), .ref (bb 2), .ref (bb 3), .ref (bb 4), .int 0])), ((bb 3), .inl ((kd 3), 4096, .inl (fun _ => 0)))] sz)) 0 0 (va_A [(d0, .inr (0, [.int 0, .ref (bb 0), .ref (bb 1), .ref (bb 2), .ref (bb 3), .ref (bb 4), .int 0])), ((bb 3), .inl ((kd 3), 4096, .inl (fun _ => 0)))] sz) := by
  refine Met.ofW (cc := cX0_canKeep) (maxL := 3) (ret := (some .boolean)) (by decide) rfl ?_
  intro p e s m args below meth c s₁ B hml hv
  obtain ⟨rfl, hsz, hP, hK, hD0⟩ := hv
  have hx := B.exec
  have hb := B.bytes
  have hr := B.returns
  have hts := atoms_spec (ws := wsPX0_canKeep) B.pre
  have hown : s.vm.findClass RX0 = some m.cls := findClass_of_methodNamed B.named
  have hlocks := B.notSynchronized
  subst hsz
  have hD := hD0.self (sz := s.heap.size)
  generalize hAe : va_A [(d0, .inr (0, [.int 0, .ref (bb 0), .ref (bb 1), .ref (bb 2), .ref (bb 3), .ref (bb 4), .int 0])), ((bb 3), .inl ((kd 3), 4096, .inl (fun _ => 0)))] s.heap.size = A at hD ⊢
  have hA : ∀ q : Nat, s.heap.size ≤ q → A q := fun q h => by rw [← hAe]; exact Or.inr h
  have hS : va_S A s.heap s.heap [] := va_S.rf
  have hP : va_P (dC, dI) vwCl [(d0, .inr (0, [.int 0, .ref (bb 0), .ref (bb 1), .ref (bb 2), .ref (bb 3), .ref (bb 4), .int 0])), ((bb 3), .inl ((kd 3), 4096, .inl (fun _ => 0)))] s.heap := hP
  have hl := lv_entry ([.ref d0, .int 0]) (n := 3) (Nat.le_of_ble_eq_true rfl)
  rw [lg_entry_eq]
  generalize (lg_sl ([.ref d0, .int 0]) ++ List.replicate (3 - (lg_sl ([.ref d0, .int 0])).length) Slot.unset).toArray = ls at hl ⊢
  have hl : lv_has ls 3 [(0, .ref d0), (1, .int 0)] := hl
  refine lv_iconst (v := 0) hx hb dX0_canKeep_0 (by decide) ?_
  refine lv_istore_n (lv' := [(2, .int 0), (0, .ref d0), (1, .int 0)]) hx hb dX0_canKeep_1 rfl hl (by decide) rfl (fun ls hl => ?_)
  refine lv_iload_n hx hb dX0_canKeep_2 rfl (lv_at hl 0 rfl) ?_
  refine lv_sipush (v := 4096) hx hb dX0_canKeep_3 (by decide) ?_
  refine lv_icmp_ge (tgt := 28) hx hb dX0_canKeep_6 (by decide) (fun c9 => absurd c9 (by decide)) (fun _ => ?_)
  refine lv_aload_n hx hb dX0_canKeep_9 rfl (lv_at hl 1 rfl) ?_
  refine va_get (D := (dC, dI)) (ci := 0) (v := .ref (bb 3)) (C := RX0) (T := TX0) (N := 7) hx hb hts iwsPX0_canKeep_in0 hown hK hP 0 rfl rfl 4 (by decide) (hts (.fieldLink RX0 21 "OptimaWorks$ClauseDesk" "broken" "[I") (by decide +kernel)) (fun _ h9 => h9) rfl dX0_canKeep_10 ?_
  refine lv_iload_n hx hb dX0_canKeep_13 rfl (lv_at hl 0 rfl) ?_
  refine va_iald hx hb hK hP 1 0 rfl rfl (show ¬ ((0 : Int32) < 0 ∨ 4096 ≤ (0 : Int32).toNatClampNeg) by decide) dX0_canKeep_14 ?_
  refine lv_topi (fun y1 hy1 => ?_)
  obtain rfl : 0 = y1 := (hy1.trans (rfl)).symm
  refine lv_iload_n hx hb dX0_canKeep_15 rfl (lv_at hl 2 rfl) ?_
  refine lv_iand hx hb dX0_canKeep_16 ?_
  refine lv_topi (fun y2 hy2 => ?_)
  obtain rfl : 0 = y2 := (hy2.trans (by decide)).symm
  refine lv_if_ne (tgt := 22) hx hb dX0_canKeep_17 (by decide) (fun c9 => absurd c9 (by decide)) (fun _ => ?_)
  refine lv_iconst (v := 1) hx hb dX0_canKeep_20 (by decide) ?_
  refine W.widen (k := 0) (n := 0) (by decide +kernel) (by decide +kernel) ?_
  exact W.zret (v := 1) hx hb hr rfl (fun t ht hW => ⟨⟨1, (), rfl, by (first | rfl | assumption | trivial | omega | (simp []; done) | (simp; omega)), by rw [ht]; exact hP.sub [] rfl, va_K.moved hW.alike (hK.sub [] rfl), hD.sub [] (by decide) rfl⟩, hS.F ht⟩) hS.2.2 dX0_canKeep_21
theorem dX0_core_0 : decode cX0_core 0 = .ok (.iconst 1, 1) := by decide +kernel
theorem dX0_core_1 : decode cX0_core 1 = .ok (.aload_n 0, 1) := by decide +kernel
theorem dX0_core_2 : decode cX0_core 2 = .ok (.getfield 27, 3) := by decide +kernel
theorem dX0_core_5 : decode cX0_core 5 = .ok (.ishl, 1) := by decide +kernel
theorem dX0_core_6 : decode cX0_core 6 = .ok (.iconst 1, 1) := by decide +kernel
theorem dX0_core_7 : decode cX0_core 7 = .ok (.isub, 1) := by decide +kernel
theorem dX0_core_8 : decode cX0_core 8 = .ok (.istore_n 1, 1) := by decide +kernel
theorem dX0_core_9 : decode cX0_core 9 = .ok (.aload_n 0, 1) := by decide +kernel
theorem dX0_core_10 : decode cX0_core 10 = .ok (.iload_n 1, 1) := by decide +kernel
theorem dX0_core_11 : decode cX0_core 11 = .ok (.invokevirtual 38, 3) := by decide +kernel
theorem dX0_core_14 : decode cX0_core 14 = .ok (.ifCond .eq 5, 3) := by decide +kernel
theorem dX0_core_17 : decode cX0_core 17 = .ok (.iconst 0, 1) := by decide +kernel
theorem dX0_core_18 : decode cX0_core 18 = .ok (.ireturn, 1) := by decide +kernel
def wsPX0_core : List Cond := .code yX0_core cX0_core 4 (some .int) :: ([.fieldLink RX0 27 "OptimaWorks$ClauseDesk" "clauses" "I"] ++ wsX00 ++ (wsV RX0 38 RX0 yX0_canKeep wsPX0_canKeep))
theorem iwsPX0_core_in0 : ∀ w ∈ wsX00, w ∈ wsPX0_core := fun _ h => List.mem_cons_of_mem _ (List.mem_append_left _ (List.mem_append_right _ h))
theorem gwsPX0_core_0 : GoodIn wsPX0_core (wsV RX0 38 RX0 yX0_canKeep wsPX0_canKeep) := goodIn_sub (fun _ h => List.mem_cons_of_mem _ (List.mem_append_right _ h)) (by decide +kernel)
set_option maxHeartbeats 4000000 in
set_option maxRecDepth 100000 in
/-- core() on a fresh desk -/
theorem p_X0_core (l : Launch) (dC : Nat → ClassId) (dI : Nat → Nat → Nat) (d0 : Nat) (bb : Nat → Nat) (kd : Nat → ClassId) (sz : Nat) : Met l yX0_core wsPX0_core ({ frames := 1, cells := 0, slots := 0, locals := 22 }) (va_Pc [.ref d0] (fun U => U.heap.size = sz ∧ va_P (dC, dI) vwCl [(d0, .inr (0, [.int 0, .ref (bb 0), .ref (bb 1), .ref (bb 2), .ref (bb 3), .ref (bb 4), .int 0])), ((bb 3), .inl ((kd 3), 4096, .inl (fun _ => 0)))] U.heap ∧ va_K (dC, dI) vwCl [((kd 3), .int)] U ∧ va_D (fun _ => True) [(d0, .inr (0, [.int 0, .ref (bb 0), .ref (bb 1), .ref (bb 2), .ref (bb 3), .ref (bb 4), .int 0])), ((bb 3), .inl ((kd 3), 4096, .inl (fun _ => 0)))])) (va_Qi (fun (r : Int32) (u : Unit) => r = 0) (fun (u : Unit) t => va_P (dC, dI) vwCl [] t.heap ∧ va_K (dC, dI) vwCl [] t ∧ va_D (va_A [(d0, .inr (0, [.int 0, .ref (bb 0), .ref (bb 1), .ref (bb 2), .ref (bb 3), .ref (bb 4), .int 0])), ((bb 3), .inl ((kd 3), 4096, .inl (fun _ => 0)))] sz) []) (va_A [(d0, .inr (0, [.int 0, .ref (bb 0), .ref (bb 1), .ref (bb 2), .ref (bb 3), .ref (bb 4), .int 0])), ((bb 3), .inl ((kd 3), 4096, .inl (fun _ => 0)))] sz)) 0 0 (va_A [(d0, .inr (0, [.int 0, .ref (bb 0), .ref (bb 1), .ref (bb 2), .ref (bb 3), .ref (bb 4), .int 0])), ((bb 3), .inl ((kd 3), 4096, .inl (fun _ => 0)))] sz) := by
  refine Met.ofW (cc := cX0_core) (maxL := 4) (ret := (some .int)) (by decide) rfl ?_
  intro p e s m args below meth c s₁ B hml hv
  obtain ⟨rfl, hsz, hP, hK, hD0⟩ := hv
  have hx := B.exec
  have hb := B.bytes
  have hr := B.returns
  have hts := atoms_spec (ws := wsPX0_core) B.pre
  have hown : s.vm.findClass RX0 = some m.cls := findClass_of_methodNamed B.named
  have hlocks := B.notSynchronized
  subst hsz
  have hD := hD0.self (sz := s.heap.size)
  generalize hAe : va_A [(d0, .inr (0, [.int 0, .ref (bb 0), .ref (bb 1), .ref (bb 2), .ref (bb 3), .ref (bb 4), .int 0])), ((bb 3), .inl ((kd 3), 4096, .inl (fun _ => 0)))] s.heap.size = A at hD ⊢
  have hA : ∀ q : Nat, s.heap.size ≤ q → A q := fun q h => by rw [← hAe]; exact Or.inr h
  have hS : va_S A s.heap s.heap [] := va_S.rf
  have hP : va_P (dC, dI) vwCl [(d0, .inr (0, [.int 0, .ref (bb 0), .ref (bb 1), .ref (bb 2), .ref (bb 3), .ref (bb 4), .int 0])), ((bb 3), .inl ((kd 3), 4096, .inl (fun _ => 0)))] s.heap := hP
  have hl := lv_entry ([.ref d0]) (n := 4) (Nat.le_of_ble_eq_true rfl)
  rw [lg_entry_eq]
  generalize (lg_sl ([.ref d0]) ++ List.replicate (4 - (lg_sl ([.ref d0])).length) Slot.unset).toArray = ls at hl ⊢
  have hl : lv_has ls 4 [(0, .ref d0)] := hl
  refine lv_iconst (v := 1) hx hb dX0_core_0 (by decide) ?_
  refine lv_aload_n hx hb dX0_core_1 rfl (lv_at hl 0 rfl) ?_
  refine va_get (D := (dC, dI)) (ci := 0) (v := .int 0) (C := RX0) (T := TX0) (N := 7) hx hb hts iwsPX0_core_in0 hown hK hP 0 rfl rfl 0 (by decide) (hts (.fieldLink RX0 27 "OptimaWorks$ClauseDesk" "clauses" "I") (by decide +kernel)) (fun _ h9 => h9) rfl dX0_core_2 ?_
  refine lv_ishl hx hb dX0_core_5 ?_
  refine lv_topi (fun y1 hy1 => ?_)
  obtain rfl : 1 = y1 := (hy1.trans (by decide)).symm
  refine lv_iconst (v := 1) hx hb dX0_core_6 (by decide) ?_
  refine lv_isub hx hb dX0_core_7 ?_
  refine lv_topi (fun y2 hy2 => ?_)
  obtain rfl : 0 = y2 := (hy2.trans (by decide)).symm
  refine lv_istore_n (lv' := [(1, .int 0), (0, .ref d0)]) hx hb dX0_core_8 rfl hl (by decide) rfl (fun ls hl => ?_)
  refine lv_aload_n hx hb dX0_core_9 rfl (lv_at hl 1 rfl) ?_
  refine lv_iload_n hx hb dX0_core_10 rfl (lv_at hl 0 rfl) ?_
  have hPc := hP.sub (ws' := [(d0, .inr (0, [.int 0, .ref (bb 0), .ref (bb 1), .ref (bb 2), .ref (bb 3), .ref (bb 4), .int 0])), ((bb 3), .inl ((kd 3), 4096, .inl (fun _ => 0)))]) [0, 1] rfl
  have hDc := hD.sub (ws' := [(d0, .inr (0, [.int 0, .ref (bb 0), .ref (bb 1), .ref (bb 2), .ref (bb 3), .ref (bb 4), .int 0])), ((bb 3), .inl ((kd 3), 4096, .inl (fun _ => 0)))]) [0, 1] (by decide) rfl
  have hKc := hK.sub (tys' := [((kd 3), .int)]) [0] rfl
  have hFc := va_free (wc := [(d0, .inr (0, [.int 0, .ref (bb 0), .ref (bb 1), .ref (bb 2), .ref (bb 3), .ref (bb 4), .int 0])), ((bb 3), .inl ((kd 3), 4096, .inl (fun _ => 0)))]) hD hS hA [0, 1] rfl
  refine va_calli (va_runV (As := [.int 0]) (rest := []) ⟨hx, hb, hml, hown, hts⟩ (p_X0_canKeep l dC dI d0 bb kd s.heap.size) (cwV 1 hts gwsPX0_core_0 rfl rfl rfl (by decide +kernel) ⟨by decide +kernel, by decide +kernel⟩) ⟨fun a U g mk q => by obtain ⟨q0, q1, qP, qK, qD⟩ := q; exact ⟨q0, q1, qP, va_K.moved (u := U) (U := U.calling g mk a) (Vm.Alike.refl U.vm) qK, qD⟩, va_recv hKc hPc (ci := 0) (q0 := 0) rfl rfl, fun U hU9 hW => ⟨rfl, by rw [hU9], by rw [hU9]; exact hPc, va_K.moved hW.alike hKc, hDc.weaken (fun _ _ _ _ => trivial)⟩⟩ rfl rfl hl.1 rfl (lv_room (Nat.le_of_ble_eq_true rfl)) dX0_core_11 ⟨by decide +kernel, by decide +kernel⟩) hS (fun q _ h => hFc q h) hFc (fun r11 u t H1 locs ht hvm hw hB hz1 hk1 hS => ?_)
  obtain ⟨hP1, hK1, hD1⟩ := hB
  rw [ht] at hP1
  have hK1 := va_K.moved hvm.symm hK1
  obtain ⟨hP, hD⟩ := va_join (wr := []) (w1 := []) hP hD [0, 1] [] rfl rfl (by decide) (by decide) hk1 hFc hP1 hD1
  generalize H1 = H at hP hS ⊢
  have hP : va_P (dC, dI) vwCl [] H := hP
  have hD : va_D A [] := hD
  obtain rfl := hw
  refine lv_if_eq (tgt := 19) hx hb dX0_core_14 (by decide) (fun c9 => absurd c9 (by decide)) (fun _ => ?_)
  refine lv_iconst (v := 0) hx hb dX0_core_17 (by decide) ?_
  refine W.widen (k := 0) (n := 0) (by decide +kernel) (by decide +kernel) ?_
  exact W.iret (v := 0) hx hb hr (fun t ht hW => ⟨⟨0, (), rfl, by (first | rfl | assumption | trivial | omega | (simp []; done) | (simp; omega)), by rw [ht]; exact hP.sub [] rfl, va_K.moved hW.alike (hK.sub [] rfl), hD.sub [] (by decide) rfl⟩, hS.F ht⟩) hS.2.2 dX0_core_18
theorem dX11_truth_0 : decode cX11_truth 0 = .ok (.iload_n 1, 1) := by decide +kernel
theorem dX11_truth_1 : decode cX11_truth 1 = .ok (.tableswitch 77 0 4 #[35, 44, 53, 61, 69], 35) := by decide +kernel
theorem dX11_truth_36 : decode cX11_truth 36 = .ok (.aload_n 0, 1) := by decide +kernel
theorem dX11_truth_37 : decode cX11_truth 37 = .ok (.invokevirtual 393, 3) := by decide +kernel
theorem dX11_truth_40 : decode cX11_truth 40 = .ok (.iconst 1, 1) := by decide +kernel
theorem dX11_truth_41 : decode cX11_truth 41 = .ok (.invokevirtual 405, 3) := by decide +kernel
theorem dX11_truth_44 : decode cX11_truth 44 = .ok (.ireturn, 1) := by decide +kernel
theorem dX11_truth_45 : decode cX11_truth 45 = .ok (.aload_n 0, 1) := by decide +kernel
theorem dX11_truth_46 : decode cX11_truth 46 = .ok (.invokevirtual 393, 3) := by decide +kernel
theorem dX11_truth_49 : decode cX11_truth 49 = .ok (.iconst 0, 1) := by decide +kernel
theorem dX11_truth_50 : decode cX11_truth 50 = .ok (.invokevirtual 405, 3) := by decide +kernel
theorem dX11_truth_53 : decode cX11_truth 53 = .ok (.ireturn, 1) := by decide +kernel
theorem dX11_truth_54 : decode cX11_truth 54 = .ok (.aload_n 0, 1) := by decide +kernel
theorem dX11_truth_55 : decode cX11_truth 55 = .ok (.invokevirtual 393, 3) := by decide +kernel
theorem dX11_truth_58 : decode cX11_truth 58 = .ok (.invokevirtual 409, 3) := by decide +kernel
theorem dX11_truth_61 : decode cX11_truth 61 = .ok (.ireturn, 1) := by decide +kernel
theorem dX11_truth_62 : decode cX11_truth 62 = .ok (.aload_n 0, 1) := by decide +kernel
theorem dX11_truth_63 : decode cX11_truth 63 = .ok (.invokevirtual 393, 3) := by decide +kernel
theorem dX11_truth_66 : decode cX11_truth 66 = .ok (.invokevirtual 412, 3) := by decide +kernel
theorem dX11_truth_69 : decode cX11_truth 69 = .ok (.ireturn, 1) := by decide +kernel
theorem dX11_truth_70 : decode cX11_truth 70 = .ok (.aload_n 0, 1) := by decide +kernel
theorem dX11_truth_71 : decode cX11_truth 71 = .ok (.invokevirtual 393, 3) := by decide +kernel
theorem dX11_truth_74 : decode cX11_truth 74 = .ok (.getfield 397, 3) := by decide +kernel
theorem dX11_truth_77 : decode cX11_truth 77 = .ok (.ireturn, 1) := by decide +kernel
theorem dX11_truth_78 : decode cX11_truth 78 = .ok (.iconst (-1), 1) := by decide +kernel
theorem dX11_truth_79 : decode cX11_truth 79 = .ok (.ireturn, 1) := by decide +kernel
def wsPX11_truth : List Cond := .code yX11_truth cX11_truth 2 (some .int) :: ([.fieldLink RX11 397 "OptimaWorks$ClauseDesk" "clauses" "I"] ++ wsX00 ++ (wsV RX11 393 RX11 yX11_theClauses wsPX11_theClauses) ++ (wsV RX11 405 RX0 yX0_least wsPX0_least) ++ (wsV RX11 409 RX0 yX0_models wsPX0_models) ++ (wsV RX11 412 RX0 yX0_core wsPX0_core))
theorem iwsPX11_truth_in0 : ∀ w ∈ wsX00, w ∈ wsPX11_truth := fun _ h => List.mem_cons_of_mem _ (List.mem_append_left _ (List.mem_append_left _ (List.mem_append_left _ (List.mem_append_left _ (List.mem_append_right _ h)))))
theorem gwsPX11_truth_0 : GoodIn wsPX11_truth (wsV RX11 393 RX11 yX11_theClauses wsPX11_theClauses) := goodIn_sub (fun _ h => List.mem_cons_of_mem _ (List.mem_append_left _ (List.mem_append_left _ (List.mem_append_left _ (List.mem_append_right _ h))))) (by decide +kernel)
theorem gwsPX11_truth_1 : GoodIn wsPX11_truth (wsV RX11 405 RX0 yX0_least wsPX0_least) := goodIn_sub (fun _ h => List.mem_cons_of_mem _ (List.mem_append_left _ (List.mem_append_left _ (List.mem_append_right _ h)))) (by decide +kernel)
theorem gwsPX11_truth_2 : GoodIn wsPX11_truth (wsV RX11 409 RX0 yX0_models wsPX0_models) := goodIn_sub (fun _ h => List.mem_cons_of_mem _ (List.mem_append_left _ (List.mem_append_right _ h))) (by decide +kernel)
theorem gwsPX11_truth_3 : GoodIn wsPX11_truth (wsV RX11 412 RX0 yX0_core wsPX0_core) := goodIn_sub (fun _ h => List.mem_cons_of_mem _ (List.mem_append_right _ h)) (by decide +kernel)
set_option maxHeartbeats 4000000 in
set_option maxRecDepth 100000 in
/-- truth(what) -/
theorem p_X11_truth (l : Launch) (dC : Nat → ClassId) (dI : Nat → Nat → Nat) (h0 : Nat) (a : Nat → Nat) (wh : Int32) (sz : Nat) : Met l yX11_truth wsPX11_truth ({ frames := 3, cells := 6, slots := 8271, locals := 52 }) (va_Pc [.ref h0, .int wh] (fun U => U.heap.size = sz ∧ va_P (dC, dI) vwCl [(h0, .inr (11, [.ref (a 0), .ref (a 1), .ref (a 3), .ref (a 14), .int 0, .null, .null, .null, .null, .null, .null]))] U.heap ∧ va_K (dC, dI) vwCl [] U ∧ va_D (fun _ => True) [(h0, .inr (11, [.ref (a 0), .ref (a 1), .ref (a 3), .ref (a 14), .int 0, .null, .null, .null, .null, .null, .null]))] ∧ va_Nw (.methodLinkNest RX11 392 yX0_init RX11) U)) (va_Qi (fun (r : Int32) (u : Unit) => (((r).toInt = 0) ∧ (0 ≤ (wh).toInt ∧ (wh).toInt ≤ 4 ∧ ¬ (wh).toInt = 2)) ∨ (((r).toInt = 4096) ∧ ((wh).toInt = 2)) ∨ (r = (-1) ∧ ((wh).toInt < 0 ∨ 4 < (wh).toInt))) (fun (u : Unit) t => va_P (dC, dI) vwCl [] t.heap ∧ va_K (dC, dI) vwCl [] t ∧ va_D (va_A [(h0, .inr (11, [.ref (a 0), .ref (a 1), .ref (a 3), .ref (a 14), .int 0, .null, .null, .null, .null, .null, .null]))] sz) []) (va_A [(h0, .inr (11, [.ref (a 0), .ref (a 1), .ref (a 3), .ref (a 14), .int 0, .null, .null, .null, .null, .null, .null]))] sz)) 6 8271 (va_A [(h0, .inr (11, [.ref (a 0), .ref (a 1), .ref (a 3), .ref (a 14), .int 0, .null, .null, .null, .null, .null, .null]))] sz) := by
  refine Met.ofW (cc := cX11_truth) (maxL := 2) (ret := (some .int)) (by decide) rfl ?_
  intro p e s m args below meth c s₁ B hml hv
  obtain ⟨rfl, hsz, hP, hK, hD0, hnX11_392⟩ := hv
  have hx := B.exec
  have hb := B.bytes
  have hr := B.returns
  have hts := atoms_spec (ws := wsPX11_truth) B.pre
  have hown : s.vm.findClass RX11 = some m.cls := findClass_of_methodNamed B.named
  have hlocks := B.notSynchronized
  subst hsz
  have hD := hD0.self (sz := s.heap.size)
  generalize hAe : va_A [(h0, .inr (11, [.ref (a 0), .ref (a 1), .ref (a 3), .ref (a 14), .int 0, .null, .null, .null, .null, .null, .null]))] s.heap.size = A at hD ⊢
  have hA : ∀ q : Nat, s.heap.size ≤ q → A q := fun q h => by rw [← hAe]; exact Or.inr h
  have hS : va_S A s.heap s.heap [] := va_S.rf
  have hP : va_P (dC, dI) vwCl [(h0, .inr (11, [.ref (a 0), .ref (a 1), .ref (a 3), .ref (a 14), .int 0, .null, .null, .null, .null, .null, .null]))] s.heap := hP
  have hl := lv_entry ([.ref h0, .int wh]) (n := 2) (Nat.le_of_ble_eq_true rfl)
  rw [lg_entry_eq]
  generalize (lg_sl ([.ref h0, .int wh]) ++ List.replicate (2 - (lg_sl ([.ref h0, .int wh])).length) Slot.unset).toArray = ls at hl ⊢
  have hl : lv_has ls 2 [(0, .ref h0), (1, .int wh)] := hl
  refine lv_iload_n hx hb dX11_truth_0 rfl (lv_at hl 1 rfl) ?_
  by_cases s_1_0 : wh = 0
  · have ts_1_0 : (wh).toInt = 0 := toI_eq s_1_0 rfl (by decide)
    refine lv_tableIn (off := 35) (tgt := 36) hx hb dX11_truth_1 (by rw [s_1_0]; decide) (by rw [s_1_0]; decide) (by rw [s_1_0]; decide) (by decide) ?_
    refine lv_aload_n hx hb dX11_truth_36 rfl (lv_at hl 0 rfl) ?_
    have hPc := hP.sub (ws' := [(h0, .inr (11, [.ref (a 0), .ref (a 1), .ref (a 3), .ref (a 14), .int 0, .null, .null, .null, .null, .null, .null]))]) [0] rfl
    have hDc := hD.sub (ws' := [(h0, .inr (11, [.ref (a 0), .ref (a 1), .ref (a 3), .ref (a 14), .int 0, .null, .null, .null, .null, .null, .null]))]) [0] (by decide) rfl
    have hKc := hK.sub (tys' := []) [] rfl
    have hFc := va_free (wc := [(h0, .inr (11, [.ref (a 0), .ref (a 1), .ref (a 3), .ref (a 14), .int 0, .null, .null, .null, .null, .null, .null]))]) hD hS hA [0] rfl
    refine va_callr (va_runV (As := []) (rest := []) ⟨hx, hb, hml, hown, hts⟩ (p_X11_theClauses l dC dI h0 a s.heap.size) (cwV 0 hts gwsPX11_truth_0 rfl rfl rfl (by decide +kernel) ⟨by decide +kernel, by decide +kernel⟩) ⟨fun a U g mk q => by obtain ⟨q0, q1, qP, qK, qD, qhnX11_392⟩ := q; exact ⟨q0, q1, qP, va_K.moved (u := U) (U := U.calling g mk a) (Vm.Alike.refl U.vm) qK, qD, va_Nw.same (u := U) (U := U.calling g mk a) rfl rfl qhnX11_392⟩, va_recv hKc hPc (ci := 11) (q0 := 0) rfl rfl, fun U hU9 hW => ⟨rfl, by rw [hU9], by rw [hU9]; exact hPc, va_K.moved hW.alike hKc, hDc.weaken (fun _ _ _ _ => trivial), va_Nw.warmM hW hnX11_392⟩⟩ rfl rfl hl.1 rfl (lv_room (Nat.le_of_ble_eq_true rfl)) dX11_truth_37 ⟨by decide +kernel, by decide +kernel⟩) hS (fun q _ h => hFc q h) hFc (fun u a37 t H1 locs ht hvm hw hB hz1 hk1 hS => ?_)
    obtain ⟨aa37, kk37⟩ := u
    obtain ⟨hP1, hK1, hD1⟩ := hB
    rw [ht] at hP1
    have hK1 := va_K.moved hvm.symm hK1
    obtain ⟨hP, hD⟩ := va_join (wr := []) (w1 := [(h0, .inr (11, [.ref (a 0), .ref (a 1), .ref (a 3), .ref (a 14), .int 0, .null, .null, .null, .null, .ref a37, .null])), (a37, .inr (0, [.int 0, .ref (aa37 0), .ref (aa37 1), .ref (aa37 2), .ref (aa37 3), .ref (aa37 4), .int 0])), ((aa37 0), .inl ((kk37 0), 24, .inl (fun _ => 0))), ((aa37 1), .inl ((kk37 1), 24, .inl (fun _ => 0))), ((aa37 2), .inl ((kk37 2), 24, .inl (fun _ => 0))), ((aa37 3), .inl ((kk37 3), 4096, .inl (fun _ => 0))), ((aa37 4), .inl ((kk37 4), 4096, .inl (fun _ => 0)))]) hP hD [0] [] rfl rfl (by decide) (by decide) hk1 hFc hP1 hD1
    have hK := hK.app hK1
    generalize H1 = H at hP hS ⊢
    have hP : va_P (dC, dI) vwCl [(h0, .inr (11, [.ref (a 0), .ref (a 1), .ref (a 3), .ref (a 14), .int 0, .null, .null, .null, .null, .ref a37, .null])), (a37, .inr (0, [.int 0, .ref (aa37 0), .ref (aa37 1), .ref (aa37 2), .ref (aa37 3), .ref (aa37 4), .int 0])), ((aa37 0), .inl ((kk37 0), 24, .inl (fun _ => 0))), ((aa37 1), .inl ((kk37 1), 24, .inl (fun _ => 0))), ((aa37 2), .inl ((kk37 2), 24, .inl (fun _ => 0))), ((aa37 3), .inl ((kk37 3), 4096, .inl (fun _ => 0))), ((aa37 4), .inl ((kk37 4), 4096, .inl (fun _ => 0)))] H := hP
    have hD : va_D A [(h0, .inr (11, [.ref (a 0), .ref (a 1), .ref (a 3), .ref (a 14), .int 0, .null, .null, .null, .null, .ref a37, .null])), (a37, .inr (0, [.int 0, .ref (aa37 0), .ref (aa37 1), .ref (aa37 2), .ref (aa37 3), .ref (aa37 4), .int 0])), ((aa37 0), .inl ((kk37 0), 24, .inl (fun _ => 0))), ((aa37 1), .inl ((kk37 1), 24, .inl (fun _ => 0))), ((aa37 2), .inl ((kk37 2), 24, .inl (fun _ => 0))), ((aa37 3), .inl ((kk37 3), 4096, .inl (fun _ => 0))), ((aa37 4), .inl ((kk37 4), 4096, .inl (fun _ => 0)))] := hD
    have hK : va_K (dC, dI) vwCl [((kk37 0), .int), ((kk37 1), .int), ((kk37 2), .int), ((kk37 3), .int), ((kk37 4), .int)] s := hK
    refine W.widen (k := 6) (n := 8271) (by decide +kernel) (by decide +kernel) ?_
    refine lv_iconst (v := 1) hx hb dX11_truth_40 (by decide) ?_
    have hPc := hP.sub (ws' := [(a37, .inr (0, [.int 0, .ref (aa37 0), .ref (aa37 1), .ref (aa37 2), .ref (aa37 3), .ref (aa37 4), .int 0])), ((aa37 3), .inl ((kk37 3), 4096, .inl (fun _ => 0))), ((aa37 4), .inl ((kk37 4), 4096, .inl (fun _ => 0)))]) [1, 5, 6] rfl
    have hDc := hD.sub (ws' := [(a37, .inr (0, [.int 0, .ref (aa37 0), .ref (aa37 1), .ref (aa37 2), .ref (aa37 3), .ref (aa37 4), .int 0])), ((aa37 3), .inl ((kk37 3), 4096, .inl (fun _ => 0))), ((aa37 4), .inl ((kk37 4), 4096, .inl (fun _ => 0)))]) [1, 5, 6] (by decide) rfl
    have hKc := hK.sub (tys' := [((kk37 3), .int), ((kk37 4), .int)]) [3, 4] rfl
    have hFc := va_free (wc := [(a37, .inr (0, [.int 0, .ref (aa37 0), .ref (aa37 1), .ref (aa37 2), .ref (aa37 3), .ref (aa37 4), .int 0])), ((aa37 3), .inl ((kk37 3), 4096, .inl (fun _ => 0))), ((aa37 4), .inl ((kk37 4), 4096, .inl (fun _ => 0)))]) hD hS hA [1, 5, 6] rfl
    refine va_calli (va_runV (As := [.int 1]) (rest := []) ⟨hx, hb, hml, hown, hts⟩ (p_X0_least l dC dI a37 aa37 kk37 1 H.size) (cwV 1 hts gwsPX11_truth_1 rfl rfl rfl (by decide +kernel) ⟨by decide +kernel, by decide +kernel⟩) ⟨fun a U g mk q => by obtain ⟨q0, q1, qP, qK, qD⟩ := q; exact ⟨q0, q1, qP, va_K.moved (u := U) (U := U.calling g mk a) (Vm.Alike.refl U.vm) qK, qD⟩, va_recv hKc hPc (ci := 0) (q0 := 0) rfl rfl, fun U hU9 hW => ⟨rfl, by rw [hU9], by rw [hU9]; exact hPc, va_K.moved hW.alike hKc, hDc.weaken (fun _ _ _ _ => trivial)⟩⟩ rfl rfl hl.1 rfl (lv_room (Nat.le_of_ble_eq_true rfl)) dX11_truth_41 ⟨by decide +kernel, by decide +kernel⟩) hS (fun q _ h => hFc q h) hFc (fun r41 u t H1 locs ht hvm hw hB hz1 hk1 hS => ?_)
    obtain ⟨hP1, hK1, hD1⟩ := hB
    rw [ht] at hP1
    have hK1 := va_K.moved hvm.symm hK1
    obtain ⟨hP, hD⟩ := va_join (wr := [(h0, .inr (11, [.ref (a 0), .ref (a 1), .ref (a 3), .ref (a 14), .int 0, .null, .null, .null, .null, .ref a37, .null])), ((aa37 0), .inl ((kk37 0), 24, .inl (fun _ => 0))), ((aa37 1), .inl ((kk37 1), 24, .inl (fun _ => 0))), ((aa37 2), .inl ((kk37 2), 24, .inl (fun _ => 0)))]) (w1 := []) hP hD [1, 5, 6] [0, 2, 3, 4] rfl rfl (by decide) (by decide) hk1 hFc hP1 hD1
    generalize H1 = H at hP hS ⊢
    have hP : va_P (dC, dI) vwCl [(h0, .inr (11, [.ref (a 0), .ref (a 1), .ref (a 3), .ref (a 14), .int 0, .null, .null, .null, .null, .ref a37, .null])), ((aa37 0), .inl ((kk37 0), 24, .inl (fun _ => 0))), ((aa37 1), .inl ((kk37 1), 24, .inl (fun _ => 0))), ((aa37 2), .inl ((kk37 2), 24, .inl (fun _ => 0)))] H := hP
    have hD : va_D A [(h0, .inr (11, [.ref (a 0), .ref (a 1), .ref (a 3), .ref (a 14), .int 0, .null, .null, .null, .null, .ref a37, .null])), ((aa37 0), .inl ((kk37 0), 24, .inl (fun _ => 0))), ((aa37 1), .inl ((kk37 1), 24, .inl (fun _ => 0))), ((aa37 2), .inl ((kk37 2), 24, .inl (fun _ => 0)))] := hD
    have f41_0 := hw
    try dsimp only at f41_0
    refine W.widen (k := 6) (n := 8271) (by decide +kernel) (by decide +kernel) ?_
    exact W.iret (v := r41) hx hb hr (fun t ht hW => ⟨⟨r41, (), rfl, by first | (left; (refine ⟨?_, ?_⟩ <;> (first | rfl | assumption | trivial | omega | (simp []; done) | (simp; omega)))) | (right; left; (refine ⟨?_, ?_⟩ <;> (first | rfl | assumption | trivial | omega | (simp []; done) | (simp; omega)))) | (right; right; (refine ⟨?_, ?_⟩ <;> (first | rfl | assumption | trivial | omega | (simp []; done) | (simp; omega)))), by rw [ht]; exact hP.sub [] rfl, va_K.moved hW.alike (hK.sub [] rfl), hD.sub [] (by decide) rfl⟩, hS.F ht⟩) hS.2.2 dX11_truth_44
  · have ts_1_0 : ¬ (wh).toInt = 0 := toI_neq s_1_0 rfl (by decide)
    by_cases s_1_1 : wh = 1
    · have ts_1_1 : (wh).toInt = 1 := toI_eq s_1_1 rfl (by decide)
      refine lv_tableIn (off := 44) (tgt := 45) hx hb dX11_truth_1 (by rw [s_1_1]; decide) (by rw [s_1_1]; decide) (by rw [s_1_1]; decide) (by decide) ?_
      refine lv_aload_n hx hb dX11_truth_45 rfl (lv_at hl 0 rfl) ?_
      have hPc := hP.sub (ws' := [(h0, .inr (11, [.ref (a 0), .ref (a 1), .ref (a 3), .ref (a 14), .int 0, .null, .null, .null, .null, .null, .null]))]) [0] rfl
      have hDc := hD.sub (ws' := [(h0, .inr (11, [.ref (a 0), .ref (a 1), .ref (a 3), .ref (a 14), .int 0, .null, .null, .null, .null, .null, .null]))]) [0] (by decide) rfl
      have hKc := hK.sub (tys' := []) [] rfl
      have hFc := va_free (wc := [(h0, .inr (11, [.ref (a 0), .ref (a 1), .ref (a 3), .ref (a 14), .int 0, .null, .null, .null, .null, .null, .null]))]) hD hS hA [0] rfl
      refine va_callr (va_runV (As := []) (rest := []) ⟨hx, hb, hml, hown, hts⟩ (p_X11_theClauses l dC dI h0 a s.heap.size) (cwV 0 hts gwsPX11_truth_0 rfl rfl rfl (by decide +kernel) ⟨by decide +kernel, by decide +kernel⟩) ⟨fun a U g mk q => by obtain ⟨q0, q1, qP, qK, qD, qhnX11_392⟩ := q; exact ⟨q0, q1, qP, va_K.moved (u := U) (U := U.calling g mk a) (Vm.Alike.refl U.vm) qK, qD, va_Nw.same (u := U) (U := U.calling g mk a) rfl rfl qhnX11_392⟩, va_recv hKc hPc (ci := 11) (q0 := 0) rfl rfl, fun U hU9 hW => ⟨rfl, by rw [hU9], by rw [hU9]; exact hPc, va_K.moved hW.alike hKc, hDc.weaken (fun _ _ _ _ => trivial), va_Nw.warmM hW hnX11_392⟩⟩ rfl rfl hl.1 rfl (lv_room (Nat.le_of_ble_eq_true rfl)) dX11_truth_46 ⟨by decide +kernel, by decide +kernel⟩) hS (fun q _ h => hFc q h) hFc (fun u a46 t H1 locs ht hvm hw hB hz1 hk1 hS => ?_)
      obtain ⟨aa46, kk46⟩ := u
      obtain ⟨hP1, hK1, hD1⟩ := hB
      rw [ht] at hP1
      have hK1 := va_K.moved hvm.symm hK1
      obtain ⟨hP, hD⟩ := va_join (wr := []) (w1 := [(h0, .inr (11, [.ref (a 0), .ref (a 1), .ref (a 3), .ref (a 14), .int 0, .null, .null, .null, .null, .ref a46, .null])), (a46, .inr (0, [.int 0, .ref (aa46 0), .ref (aa46 1), .ref (aa46 2), .ref (aa46 3), .ref (aa46 4), .int 0])), ((aa46 0), .inl ((kk46 0), 24, .inl (fun _ => 0))), ((aa46 1), .inl ((kk46 1), 24, .inl (fun _ => 0))), ((aa46 2), .inl ((kk46 2), 24, .inl (fun _ => 0))), ((aa46 3), .inl ((kk46 3), 4096, .inl (fun _ => 0))), ((aa46 4), .inl ((kk46 4), 4096, .inl (fun _ => 0)))]) hP hD [0] [] rfl rfl (by decide) (by decide) hk1 hFc hP1 hD1
      have hK := hK.app hK1
      generalize H1 = H at hP hS ⊢
      have hP : va_P (dC, dI) vwCl [(h0, .inr (11, [.ref (a 0), .ref (a 1), .ref (a 3), .ref (a 14), .int 0, .null, .null, .null, .null, .ref a46, .null])), (a46, .inr (0, [.int 0, .ref (aa46 0), .ref (aa46 1), .ref (aa46 2), .ref (aa46 3), .ref (aa46 4), .int 0])), ((aa46 0), .inl ((kk46 0), 24, .inl (fun _ => 0))), ((aa46 1), .inl ((kk46 1), 24, .inl (fun _ => 0))), ((aa46 2), .inl ((kk46 2), 24, .inl (fun _ => 0))), ((aa46 3), .inl ((kk46 3), 4096, .inl (fun _ => 0))), ((aa46 4), .inl ((kk46 4), 4096, .inl (fun _ => 0)))] H := hP
      have hD : va_D A [(h0, .inr (11, [.ref (a 0), .ref (a 1), .ref (a 3), .ref (a 14), .int 0, .null, .null, .null, .null, .ref a46, .null])), (a46, .inr (0, [.int 0, .ref (aa46 0), .ref (aa46 1), .ref (aa46 2), .ref (aa46 3), .ref (aa46 4), .int 0])), ((aa46 0), .inl ((kk46 0), 24, .inl (fun _ => 0))), ((aa46 1), .inl ((kk46 1), 24, .inl (fun _ => 0))), ((aa46 2), .inl ((kk46 2), 24, .inl (fun _ => 0))), ((aa46 3), .inl ((kk46 3), 4096, .inl (fun _ => 0))), ((aa46 4), .inl ((kk46 4), 4096, .inl (fun _ => 0)))] := hD
      have hK : va_K (dC, dI) vwCl [((kk46 0), .int), ((kk46 1), .int), ((kk46 2), .int), ((kk46 3), .int), ((kk46 4), .int)] s := hK
      refine W.widen (k := 6) (n := 8271) (by decide +kernel) (by decide +kernel) ?_
      refine lv_iconst (v := 0) hx hb dX11_truth_49 (by decide) ?_
      have hPc := hP.sub (ws' := [(a46, .inr (0, [.int 0, .ref (aa46 0), .ref (aa46 1), .ref (aa46 2), .ref (aa46 3), .ref (aa46 4), .int 0])), ((aa46 3), .inl ((kk46 3), 4096, .inl (fun _ => 0))), ((aa46 4), .inl ((kk46 4), 4096, .inl (fun _ => 0)))]) [1, 5, 6] rfl
      have hDc := hD.sub (ws' := [(a46, .inr (0, [.int 0, .ref (aa46 0), .ref (aa46 1), .ref (aa46 2), .ref (aa46 3), .ref (aa46 4), .int 0])), ((aa46 3), .inl ((kk46 3), 4096, .inl (fun _ => 0))), ((aa46 4), .inl ((kk46 4), 4096, .inl (fun _ => 0)))]) [1, 5, 6] (by decide) rfl
      have hKc := hK.sub (tys' := [((kk46 3), .int), ((kk46 4), .int)]) [3, 4] rfl
      have hFc := va_free (wc := [(a46, .inr (0, [.int 0, .ref (aa46 0), .ref (aa46 1), .ref (aa46 2), .ref (aa46 3), .ref (aa46 4), .int 0])), ((aa46 3), .inl ((kk46 3), 4096, .inl (fun _ => 0))), ((aa46 4), .inl ((kk46 4), 4096, .inl (fun _ => 0)))]) hD hS hA [1, 5, 6] rfl
      refine va_calli (va_runV (As := [.int 0]) (rest := []) ⟨hx, hb, hml, hown, hts⟩ (p_X0_least l dC dI a46 aa46 kk46 0 H.size) (cwV 1 hts gwsPX11_truth_1 rfl rfl rfl (by decide +kernel) ⟨by decide +kernel, by decide +kernel⟩) ⟨fun a U g mk q => by obtain ⟨q0, q1, qP, qK, qD⟩ := q; exact ⟨q0, q1, qP, va_K.moved (u := U) (U := U.calling g mk a) (Vm.Alike.refl U.vm) qK, qD⟩, va_recv hKc hPc (ci := 0) (q0 := 0) rfl rfl, fun U hU9 hW => ⟨rfl, by rw [hU9], by rw [hU9]; exact hPc, va_K.moved hW.alike hKc, hDc.weaken (fun _ _ _ _ => trivial)⟩⟩ rfl rfl hl.1 rfl (lv_room (Nat.le_of_ble_eq_true rfl)) dX11_truth_50 ⟨by decide +kernel, by decide +kernel⟩) hS (fun q _ h => hFc q h) hFc (fun r50 u t H1 locs ht hvm hw hB hz1 hk1 hS => ?_)
      obtain ⟨hP1, hK1, hD1⟩ := hB
      rw [ht] at hP1
      have hK1 := va_K.moved hvm.symm hK1
      obtain ⟨hP, hD⟩ := va_join (wr := [(h0, .inr (11, [.ref (a 0), .ref (a 1), .ref (a 3), .ref (a 14), .int 0, .null, .null, .null, .null, .ref a46, .null])), ((aa46 0), .inl ((kk46 0), 24, .inl (fun _ => 0))), ((aa46 1), .inl ((kk46 1), 24, .inl (fun _ => 0))), ((aa46 2), .inl ((kk46 2), 24, .inl (fun _ => 0)))]) (w1 := []) hP hD [1, 5, 6] [0, 2, 3, 4] rfl rfl (by decide) (by decide) hk1 hFc hP1 hD1
      generalize H1 = H at hP hS ⊢
      have hP : va_P (dC, dI) vwCl [(h0, .inr (11, [.ref (a 0), .ref (a 1), .ref (a 3), .ref (a 14), .int 0, .null, .null, .null, .null, .ref a46, .null])), ((aa46 0), .inl ((kk46 0), 24, .inl (fun _ => 0))), ((aa46 1), .inl ((kk46 1), 24, .inl (fun _ => 0))), ((aa46 2), .inl ((kk46 2), 24, .inl (fun _ => 0)))] H := hP
      have hD : va_D A [(h0, .inr (11, [.ref (a 0), .ref (a 1), .ref (a 3), .ref (a 14), .int 0, .null, .null, .null, .null, .ref a46, .null])), ((aa46 0), .inl ((kk46 0), 24, .inl (fun _ => 0))), ((aa46 1), .inl ((kk46 1), 24, .inl (fun _ => 0))), ((aa46 2), .inl ((kk46 2), 24, .inl (fun _ => 0)))] := hD
      have f50_0 := hw
      try dsimp only at f50_0
      refine W.widen (k := 6) (n := 8271) (by decide +kernel) (by decide +kernel) ?_
      exact W.iret (v := r50) hx hb hr (fun t ht hW => ⟨⟨r50, (), rfl, by first | (left; (refine ⟨?_, ?_⟩ <;> (first | rfl | assumption | trivial | omega | (simp []; done) | (simp; omega)))) | (right; left; (refine ⟨?_, ?_⟩ <;> (first | rfl | assumption | trivial | omega | (simp []; done) | (simp; omega)))) | (right; right; (refine ⟨?_, ?_⟩ <;> (first | rfl | assumption | trivial | omega | (simp []; done) | (simp; omega)))), by rw [ht]; exact hP.sub [] rfl, va_K.moved hW.alike (hK.sub [] rfl), hD.sub [] (by decide) rfl⟩, hS.F ht⟩) hS.2.2 dX11_truth_53
    · have ts_1_1 : ¬ (wh).toInt = 1 := toI_neq s_1_1 rfl (by decide)
      by_cases s_1_2 : wh = 2
      · have ts_1_2 : (wh).toInt = 2 := toI_eq s_1_2 rfl (by decide)
        refine lv_tableIn (off := 53) (tgt := 54) hx hb dX11_truth_1 (by rw [s_1_2]; decide) (by rw [s_1_2]; decide) (by rw [s_1_2]; decide) (by decide) ?_
        refine lv_aload_n hx hb dX11_truth_54 rfl (lv_at hl 0 rfl) ?_
        have hPc := hP.sub (ws' := [(h0, .inr (11, [.ref (a 0), .ref (a 1), .ref (a 3), .ref (a 14), .int 0, .null, .null, .null, .null, .null, .null]))]) [0] rfl
        have hDc := hD.sub (ws' := [(h0, .inr (11, [.ref (a 0), .ref (a 1), .ref (a 3), .ref (a 14), .int 0, .null, .null, .null, .null, .null, .null]))]) [0] (by decide) rfl
        have hKc := hK.sub (tys' := []) [] rfl
        have hFc := va_free (wc := [(h0, .inr (11, [.ref (a 0), .ref (a 1), .ref (a 3), .ref (a 14), .int 0, .null, .null, .null, .null, .null, .null]))]) hD hS hA [0] rfl
        refine va_callr (va_runV (As := []) (rest := []) ⟨hx, hb, hml, hown, hts⟩ (p_X11_theClauses l dC dI h0 a s.heap.size) (cwV 0 hts gwsPX11_truth_0 rfl rfl rfl (by decide +kernel) ⟨by decide +kernel, by decide +kernel⟩) ⟨fun a U g mk q => by obtain ⟨q0, q1, qP, qK, qD, qhnX11_392⟩ := q; exact ⟨q0, q1, qP, va_K.moved (u := U) (U := U.calling g mk a) (Vm.Alike.refl U.vm) qK, qD, va_Nw.same (u := U) (U := U.calling g mk a) rfl rfl qhnX11_392⟩, va_recv hKc hPc (ci := 11) (q0 := 0) rfl rfl, fun U hU9 hW => ⟨rfl, by rw [hU9], by rw [hU9]; exact hPc, va_K.moved hW.alike hKc, hDc.weaken (fun _ _ _ _ => trivial), va_Nw.warmM hW hnX11_392⟩⟩ rfl rfl hl.1 rfl (lv_room (Nat.le_of_ble_eq_true rfl)) dX11_truth_55 ⟨by decide +kernel, by decide +kernel⟩) hS (fun q _ h => hFc q h) hFc (fun u a55 t H1 locs ht hvm hw hB hz1 hk1 hS => ?_)
        obtain ⟨aa55, kk55⟩ := u
        obtain ⟨hP1, hK1, hD1⟩ := hB
        rw [ht] at hP1
        have hK1 := va_K.moved hvm.symm hK1
        obtain ⟨hP, hD⟩ := va_join (wr := []) (w1 := [(h0, .inr (11, [.ref (a 0), .ref (a 1), .ref (a 3), .ref (a 14), .int 0, .null, .null, .null, .null, .ref a55, .null])), (a55, .inr (0, [.int 0, .ref (aa55 0), .ref (aa55 1), .ref (aa55 2), .ref (aa55 3), .ref (aa55 4), .int 0])), ((aa55 0), .inl ((kk55 0), 24, .inl (fun _ => 0))), ((aa55 1), .inl ((kk55 1), 24, .inl (fun _ => 0))), ((aa55 2), .inl ((kk55 2), 24, .inl (fun _ => 0))), ((aa55 3), .inl ((kk55 3), 4096, .inl (fun _ => 0))), ((aa55 4), .inl ((kk55 4), 4096, .inl (fun _ => 0)))]) hP hD [0] [] rfl rfl (by decide) (by decide) hk1 hFc hP1 hD1
        have hK := hK.app hK1
        generalize H1 = H at hP hS ⊢
        have hP : va_P (dC, dI) vwCl [(h0, .inr (11, [.ref (a 0), .ref (a 1), .ref (a 3), .ref (a 14), .int 0, .null, .null, .null, .null, .ref a55, .null])), (a55, .inr (0, [.int 0, .ref (aa55 0), .ref (aa55 1), .ref (aa55 2), .ref (aa55 3), .ref (aa55 4), .int 0])), ((aa55 0), .inl ((kk55 0), 24, .inl (fun _ => 0))), ((aa55 1), .inl ((kk55 1), 24, .inl (fun _ => 0))), ((aa55 2), .inl ((kk55 2), 24, .inl (fun _ => 0))), ((aa55 3), .inl ((kk55 3), 4096, .inl (fun _ => 0))), ((aa55 4), .inl ((kk55 4), 4096, .inl (fun _ => 0)))] H := hP
        have hD : va_D A [(h0, .inr (11, [.ref (a 0), .ref (a 1), .ref (a 3), .ref (a 14), .int 0, .null, .null, .null, .null, .ref a55, .null])), (a55, .inr (0, [.int 0, .ref (aa55 0), .ref (aa55 1), .ref (aa55 2), .ref (aa55 3), .ref (aa55 4), .int 0])), ((aa55 0), .inl ((kk55 0), 24, .inl (fun _ => 0))), ((aa55 1), .inl ((kk55 1), 24, .inl (fun _ => 0))), ((aa55 2), .inl ((kk55 2), 24, .inl (fun _ => 0))), ((aa55 3), .inl ((kk55 3), 4096, .inl (fun _ => 0))), ((aa55 4), .inl ((kk55 4), 4096, .inl (fun _ => 0)))] := hD
        have hK : va_K (dC, dI) vwCl [((kk55 0), .int), ((kk55 1), .int), ((kk55 2), .int), ((kk55 3), .int), ((kk55 4), .int)] s := hK
        refine W.widen (k := 6) (n := 8271) (by decide +kernel) (by decide +kernel) ?_
        have hPc := hP.sub (ws' := [(a55, .inr (0, [.int 0, .ref (aa55 0), .ref (aa55 1), .ref (aa55 2), .ref (aa55 3), .ref (aa55 4), .int 0])), ((aa55 3), .inl ((kk55 3), 4096, .inl (fun _ => 0)))]) [1, 5] rfl
        have hDc := hD.sub (ws' := [(a55, .inr (0, [.int 0, .ref (aa55 0), .ref (aa55 1), .ref (aa55 2), .ref (aa55 3), .ref (aa55 4), .int 0])), ((aa55 3), .inl ((kk55 3), 4096, .inl (fun _ => 0)))]) [1, 5] (by decide) rfl
        have hKc := hK.sub (tys' := [((kk55 3), .int)]) [3] rfl
        have hFc := va_free (wc := [(a55, .inr (0, [.int 0, .ref (aa55 0), .ref (aa55 1), .ref (aa55 2), .ref (aa55 3), .ref (aa55 4), .int 0])), ((aa55 3), .inl ((kk55 3), 4096, .inl (fun _ => 0)))]) hD hS hA [1, 5] rfl
        refine va_calli (va_runV (As := []) (rest := []) ⟨hx, hb, hml, hown, hts⟩ (p_X0_models l dC dI a55 aa55 kk55 H.size) (cwV 0 hts gwsPX11_truth_2 rfl rfl rfl (by decide +kernel) ⟨by decide +kernel, by decide +kernel⟩) ⟨fun a U g mk q => by obtain ⟨q0, q1, qP, qK, qD⟩ := q; exact ⟨q0, q1, qP, va_K.moved (u := U) (U := U.calling g mk a) (Vm.Alike.refl U.vm) qK, qD⟩, va_recv hKc hPc (ci := 0) (q0 := 0) rfl rfl, fun U hU9 hW => ⟨rfl, by rw [hU9], by rw [hU9]; exact hPc, va_K.moved hW.alike hKc, hDc.weaken (fun _ _ _ _ => trivial)⟩⟩ rfl rfl hl.1 rfl (lv_room (Nat.le_of_ble_eq_true rfl)) dX11_truth_58 ⟨by decide +kernel, by decide +kernel⟩) hS (fun q _ h => hFc q h) hFc (fun r58 u t H1 locs ht hvm hw hB hz1 hk1 hS => ?_)
        obtain ⟨hP1, hK1, hD1⟩ := hB
        rw [ht] at hP1
        have hK1 := va_K.moved hvm.symm hK1
        obtain ⟨hP, hD⟩ := va_join (wr := [(h0, .inr (11, [.ref (a 0), .ref (a 1), .ref (a 3), .ref (a 14), .int 0, .null, .null, .null, .null, .ref a55, .null])), ((aa55 0), .inl ((kk55 0), 24, .inl (fun _ => 0))), ((aa55 1), .inl ((kk55 1), 24, .inl (fun _ => 0))), ((aa55 2), .inl ((kk55 2), 24, .inl (fun _ => 0))), ((aa55 4), .inl ((kk55 4), 4096, .inl (fun _ => 0)))]) (w1 := []) hP hD [1, 5] [0, 2, 3, 4, 6] rfl rfl (by decide) (by decide) hk1 hFc hP1 hD1
        generalize H1 = H at hP hS ⊢
        have hP : va_P (dC, dI) vwCl [(h0, .inr (11, [.ref (a 0), .ref (a 1), .ref (a 3), .ref (a 14), .int 0, .null, .null, .null, .null, .ref a55, .null])), ((aa55 0), .inl ((kk55 0), 24, .inl (fun _ => 0))), ((aa55 1), .inl ((kk55 1), 24, .inl (fun _ => 0))), ((aa55 2), .inl ((kk55 2), 24, .inl (fun _ => 0))), ((aa55 4), .inl ((kk55 4), 4096, .inl (fun _ => 0)))] H := hP
        have hD : va_D A [(h0, .inr (11, [.ref (a 0), .ref (a 1), .ref (a 3), .ref (a 14), .int 0, .null, .null, .null, .null, .ref a55, .null])), ((aa55 0), .inl ((kk55 0), 24, .inl (fun _ => 0))), ((aa55 1), .inl ((kk55 1), 24, .inl (fun _ => 0))), ((aa55 2), .inl ((kk55 2), 24, .inl (fun _ => 0))), ((aa55 4), .inl ((kk55 4), 4096, .inl (fun _ => 0)))] := hD
        have f58_0 := hw
        try dsimp only at f58_0
        refine W.widen (k := 6) (n := 8271) (by decide +kernel) (by decide +kernel) ?_
        exact W.iret (v := r58) hx hb hr (fun t ht hW => ⟨⟨r58, (), rfl, by first | (left; (refine ⟨?_, ?_⟩ <;> (first | rfl | assumption | trivial | omega | (simp []; done) | (simp; omega)))) | (right; left; (refine ⟨?_, ?_⟩ <;> (first | rfl | assumption | trivial | omega | (simp []; done) | (simp; omega)))) | (right; right; (refine ⟨?_, ?_⟩ <;> (first | rfl | assumption | trivial | omega | (simp []; done) | (simp; omega)))), by rw [ht]; exact hP.sub [] rfl, va_K.moved hW.alike (hK.sub [] rfl), hD.sub [] (by decide) rfl⟩, hS.F ht⟩) hS.2.2 dX11_truth_61
      · have ts_1_2 : ¬ (wh).toInt = 2 := toI_neq s_1_2 rfl (by decide)
        by_cases s_1_3 : wh = 3
        · have ts_1_3 : (wh).toInt = 3 := toI_eq s_1_3 rfl (by decide)
          refine lv_tableIn (off := 61) (tgt := 62) hx hb dX11_truth_1 (by rw [s_1_3]; decide) (by rw [s_1_3]; decide) (by rw [s_1_3]; decide) (by decide) ?_
          refine lv_aload_n hx hb dX11_truth_62 rfl (lv_at hl 0 rfl) ?_
          have hPc := hP.sub (ws' := [(h0, .inr (11, [.ref (a 0), .ref (a 1), .ref (a 3), .ref (a 14), .int 0, .null, .null, .null, .null, .null, .null]))]) [0] rfl
          have hDc := hD.sub (ws' := [(h0, .inr (11, [.ref (a 0), .ref (a 1), .ref (a 3), .ref (a 14), .int 0, .null, .null, .null, .null, .null, .null]))]) [0] (by decide) rfl
          have hKc := hK.sub (tys' := []) [] rfl
          have hFc := va_free (wc := [(h0, .inr (11, [.ref (a 0), .ref (a 1), .ref (a 3), .ref (a 14), .int 0, .null, .null, .null, .null, .null, .null]))]) hD hS hA [0] rfl
          refine va_callr (va_runV (As := []) (rest := []) ⟨hx, hb, hml, hown, hts⟩ (p_X11_theClauses l dC dI h0 a s.heap.size) (cwV 0 hts gwsPX11_truth_0 rfl rfl rfl (by decide +kernel) ⟨by decide +kernel, by decide +kernel⟩) ⟨fun a U g mk q => by obtain ⟨q0, q1, qP, qK, qD, qhnX11_392⟩ := q; exact ⟨q0, q1, qP, va_K.moved (u := U) (U := U.calling g mk a) (Vm.Alike.refl U.vm) qK, qD, va_Nw.same (u := U) (U := U.calling g mk a) rfl rfl qhnX11_392⟩, va_recv hKc hPc (ci := 11) (q0 := 0) rfl rfl, fun U hU9 hW => ⟨rfl, by rw [hU9], by rw [hU9]; exact hPc, va_K.moved hW.alike hKc, hDc.weaken (fun _ _ _ _ => trivial), va_Nw.warmM hW hnX11_392⟩⟩ rfl rfl hl.1 rfl (lv_room (Nat.le_of_ble_eq_true rfl)) dX11_truth_63 ⟨by decide +kernel, by decide +kernel⟩) hS (fun q _ h => hFc q h) hFc (fun u a63 t H1 locs ht hvm hw hB hz1 hk1 hS => ?_)
          obtain ⟨aa63, kk63⟩ := u
          obtain ⟨hP1, hK1, hD1⟩ := hB
          rw [ht] at hP1
          have hK1 := va_K.moved hvm.symm hK1
          obtain ⟨hP, hD⟩ := va_join (wr := []) (w1 := [(h0, .inr (11, [.ref (a 0), .ref (a 1), .ref (a 3), .ref (a 14), .int 0, .null, .null, .null, .null, .ref a63, .null])), (a63, .inr (0, [.int 0, .ref (aa63 0), .ref (aa63 1), .ref (aa63 2), .ref (aa63 3), .ref (aa63 4), .int 0])), ((aa63 0), .inl ((kk63 0), 24, .inl (fun _ => 0))), ((aa63 1), .inl ((kk63 1), 24, .inl (fun _ => 0))), ((aa63 2), .inl ((kk63 2), 24, .inl (fun _ => 0))), ((aa63 3), .inl ((kk63 3), 4096, .inl (fun _ => 0))), ((aa63 4), .inl ((kk63 4), 4096, .inl (fun _ => 0)))]) hP hD [0] [] rfl rfl (by decide) (by decide) hk1 hFc hP1 hD1
          have hK := hK.app hK1
          generalize H1 = H at hP hS ⊢
          have hP : va_P (dC, dI) vwCl [(h0, .inr (11, [.ref (a 0), .ref (a 1), .ref (a 3), .ref (a 14), .int 0, .null, .null, .null, .null, .ref a63, .null])), (a63, .inr (0, [.int 0, .ref (aa63 0), .ref (aa63 1), .ref (aa63 2), .ref (aa63 3), .ref (aa63 4), .int 0])), ((aa63 0), .inl ((kk63 0), 24, .inl (fun _ => 0))), ((aa63 1), .inl ((kk63 1), 24, .inl (fun _ => 0))), ((aa63 2), .inl ((kk63 2), 24, .inl (fun _ => 0))), ((aa63 3), .inl ((kk63 3), 4096, .inl (fun _ => 0))), ((aa63 4), .inl ((kk63 4), 4096, .inl (fun _ => 0)))] H := hP
          have hD : va_D A [(h0, .inr (11, [.ref (a 0), .ref (a 1), .ref (a 3), .ref (a 14), .int 0, .null, .null, .null, .null, .ref a63, .null])), (a63, .inr (0, [.int 0, .ref (aa63 0), .ref (aa63 1), .ref (aa63 2), .ref (aa63 3), .ref (aa63 4), .int 0])), ((aa63 0), .inl ((kk63 0), 24, .inl (fun _ => 0))), ((aa63 1), .inl ((kk63 1), 24, .inl (fun _ => 0))), ((aa63 2), .inl ((kk63 2), 24, .inl (fun _ => 0))), ((aa63 3), .inl ((kk63 3), 4096, .inl (fun _ => 0))), ((aa63 4), .inl ((kk63 4), 4096, .inl (fun _ => 0)))] := hD
          have hK : va_K (dC, dI) vwCl [((kk63 0), .int), ((kk63 1), .int), ((kk63 2), .int), ((kk63 3), .int), ((kk63 4), .int)] s := hK
          refine W.widen (k := 6) (n := 8271) (by decide +kernel) (by decide +kernel) ?_
          have hPc := hP.sub (ws' := [(a63, .inr (0, [.int 0, .ref (aa63 0), .ref (aa63 1), .ref (aa63 2), .ref (aa63 3), .ref (aa63 4), .int 0])), ((aa63 3), .inl ((kk63 3), 4096, .inl (fun _ => 0)))]) [1, 5] rfl
          have hDc := hD.sub (ws' := [(a63, .inr (0, [.int 0, .ref (aa63 0), .ref (aa63 1), .ref (aa63 2), .ref (aa63 3), .ref (aa63 4), .int 0])), ((aa63 3), .inl ((kk63 3), 4096, .inl (fun _ => 0)))]) [1, 5] (by decide) rfl
          have hKc := hK.sub (tys' := [((kk63 3), .int)]) [3] rfl
          have hFc := va_free (wc := [(a63, .inr (0, [.int 0, .ref (aa63 0), .ref (aa63 1), .ref (aa63 2), .ref (aa63 3), .ref (aa63 4), .int 0])), ((aa63 3), .inl ((kk63 3), 4096, .inl (fun _ => 0)))]) hD hS hA [1, 5] rfl
          refine va_calli (va_runV (As := []) (rest := []) ⟨hx, hb, hml, hown, hts⟩ (p_X0_core l dC dI a63 aa63 kk63 H.size) (cwV 0 hts gwsPX11_truth_3 rfl rfl rfl (by decide +kernel) ⟨by decide +kernel, by decide +kernel⟩) ⟨fun a U g mk q => by obtain ⟨q0, q1, qP, qK, qD⟩ := q; exact ⟨q0, q1, qP, va_K.moved (u := U) (U := U.calling g mk a) (Vm.Alike.refl U.vm) qK, qD⟩, va_recv hKc hPc (ci := 0) (q0 := 0) rfl rfl, fun U hU9 hW => ⟨rfl, by rw [hU9], by rw [hU9]; exact hPc, va_K.moved hW.alike hKc, hDc.weaken (fun _ _ _ _ => trivial)⟩⟩ rfl rfl hl.1 rfl (lv_room (Nat.le_of_ble_eq_true rfl)) dX11_truth_66 ⟨by decide +kernel, by decide +kernel⟩) hS (fun q _ h => hFc q h) hFc (fun r66 u t H1 locs ht hvm hw hB hz1 hk1 hS => ?_)
          obtain ⟨hP1, hK1, hD1⟩ := hB
          rw [ht] at hP1
          have hK1 := va_K.moved hvm.symm hK1
          obtain ⟨hP, hD⟩ := va_join (wr := [(h0, .inr (11, [.ref (a 0), .ref (a 1), .ref (a 3), .ref (a 14), .int 0, .null, .null, .null, .null, .ref a63, .null])), ((aa63 0), .inl ((kk63 0), 24, .inl (fun _ => 0))), ((aa63 1), .inl ((kk63 1), 24, .inl (fun _ => 0))), ((aa63 2), .inl ((kk63 2), 24, .inl (fun _ => 0))), ((aa63 4), .inl ((kk63 4), 4096, .inl (fun _ => 0)))]) (w1 := []) hP hD [1, 5] [0, 2, 3, 4, 6] rfl rfl (by decide) (by decide) hk1 hFc hP1 hD1
          generalize H1 = H at hP hS ⊢
          have hP : va_P (dC, dI) vwCl [(h0, .inr (11, [.ref (a 0), .ref (a 1), .ref (a 3), .ref (a 14), .int 0, .null, .null, .null, .null, .ref a63, .null])), ((aa63 0), .inl ((kk63 0), 24, .inl (fun _ => 0))), ((aa63 1), .inl ((kk63 1), 24, .inl (fun _ => 0))), ((aa63 2), .inl ((kk63 2), 24, .inl (fun _ => 0))), ((aa63 4), .inl ((kk63 4), 4096, .inl (fun _ => 0)))] H := hP
          have hD : va_D A [(h0, .inr (11, [.ref (a 0), .ref (a 1), .ref (a 3), .ref (a 14), .int 0, .null, .null, .null, .null, .ref a63, .null])), ((aa63 0), .inl ((kk63 0), 24, .inl (fun _ => 0))), ((aa63 1), .inl ((kk63 1), 24, .inl (fun _ => 0))), ((aa63 2), .inl ((kk63 2), 24, .inl (fun _ => 0))), ((aa63 4), .inl ((kk63 4), 4096, .inl (fun _ => 0)))] := hD
          obtain rfl := hw
          refine W.widen (k := 6) (n := 8271) (by decide +kernel) (by decide +kernel) ?_
          exact W.iret (v := 0) hx hb hr (fun t ht hW => ⟨⟨0, (), rfl, by first | (left; (refine ⟨?_, ?_⟩ <;> (first | rfl | assumption | trivial | omega | (simp []; done) | (simp; omega)))) | (right; left; (refine ⟨?_, ?_⟩ <;> (first | rfl | assumption | trivial | omega | (simp []; done) | (simp; omega)))) | (right; right; (refine ⟨?_, ?_⟩ <;> (first | rfl | assumption | trivial | omega | (simp []; done) | (simp; omega)))), by rw [ht]; exact hP.sub [] rfl, va_K.moved hW.alike (hK.sub [] rfl), hD.sub [] (by decide) rfl⟩, hS.F ht⟩) hS.2.2 dX11_truth_69
        · have ts_1_3 : ¬ (wh).toInt = 3 := toI_neq s_1_3 rfl (by decide)
          by_cases s_1_4 : wh = 4
          · have ts_1_4 : (wh).toInt = 4 := toI_eq s_1_4 rfl (by decide)
            refine lv_tableIn (off := 69) (tgt := 70) hx hb dX11_truth_1 (by rw [s_1_4]; decide) (by rw [s_1_4]; decide) (by rw [s_1_4]; decide) (by decide) ?_
            refine lv_aload_n hx hb dX11_truth_70 rfl (lv_at hl 0 rfl) ?_
            have hPc := hP.sub (ws' := [(h0, .inr (11, [.ref (a 0), .ref (a 1), .ref (a 3), .ref (a 14), .int 0, .null, .null, .null, .null, .null, .null]))]) [0] rfl
            have hDc := hD.sub (ws' := [(h0, .inr (11, [.ref (a 0), .ref (a 1), .ref (a 3), .ref (a 14), .int 0, .null, .null, .null, .null, .null, .null]))]) [0] (by decide) rfl
            have hKc := hK.sub (tys' := []) [] rfl
            have hFc := va_free (wc := [(h0, .inr (11, [.ref (a 0), .ref (a 1), .ref (a 3), .ref (a 14), .int 0, .null, .null, .null, .null, .null, .null]))]) hD hS hA [0] rfl
            refine va_callr (va_runV (As := []) (rest := []) ⟨hx, hb, hml, hown, hts⟩ (p_X11_theClauses l dC dI h0 a s.heap.size) (cwV 0 hts gwsPX11_truth_0 rfl rfl rfl (by decide +kernel) ⟨by decide +kernel, by decide +kernel⟩) ⟨fun a U g mk q => by obtain ⟨q0, q1, qP, qK, qD, qhnX11_392⟩ := q; exact ⟨q0, q1, qP, va_K.moved (u := U) (U := U.calling g mk a) (Vm.Alike.refl U.vm) qK, qD, va_Nw.same (u := U) (U := U.calling g mk a) rfl rfl qhnX11_392⟩, va_recv hKc hPc (ci := 11) (q0 := 0) rfl rfl, fun U hU9 hW => ⟨rfl, by rw [hU9], by rw [hU9]; exact hPc, va_K.moved hW.alike hKc, hDc.weaken (fun _ _ _ _ => trivial), va_Nw.warmM hW hnX11_392⟩⟩ rfl rfl hl.1 rfl (lv_room (Nat.le_of_ble_eq_true rfl)) dX11_truth_71 ⟨by decide +kernel, by decide +kernel⟩) hS (fun q _ h => hFc q h) hFc (fun u a71 t H1 locs ht hvm hw hB hz1 hk1 hS => ?_)
            obtain ⟨aa71, kk71⟩ := u
            obtain ⟨hP1, hK1, hD1⟩ := hB
            rw [ht] at hP1
            have hK1 := va_K.moved hvm.symm hK1
            obtain ⟨hP, hD⟩ := va_join (wr := []) (w1 := [(h0, .inr (11, [.ref (a 0), .ref (a 1), .ref (a 3), .ref (a 14), .int 0, .null, .null, .null, .null, .ref a71, .null])), (a71, .inr (0, [.int 0, .ref (aa71 0), .ref (aa71 1), .ref (aa71 2), .ref (aa71 3), .ref (aa71 4), .int 0])), ((aa71 0), .inl ((kk71 0), 24, .inl (fun _ => 0))), ((aa71 1), .inl ((kk71 1), 24, .inl (fun _ => 0))), ((aa71 2), .inl ((kk71 2), 24, .inl (fun _ => 0))), ((aa71 3), .inl ((kk71 3), 4096, .inl (fun _ => 0))), ((aa71 4), .inl ((kk71 4), 4096, .inl (fun _ => 0)))]) hP hD [0] [] rfl rfl (by decide) (by decide) hk1 hFc hP1 hD1
            have hK := hK.app hK1
            generalize H1 = H at hP hS ⊢
            have hP : va_P (dC, dI) vwCl [(h0, .inr (11, [.ref (a 0), .ref (a 1), .ref (a 3), .ref (a 14), .int 0, .null, .null, .null, .null, .ref a71, .null])), (a71, .inr (0, [.int 0, .ref (aa71 0), .ref (aa71 1), .ref (aa71 2), .ref (aa71 3), .ref (aa71 4), .int 0])), ((aa71 0), .inl ((kk71 0), 24, .inl (fun _ => 0))), ((aa71 1), .inl ((kk71 1), 24, .inl (fun _ => 0))), ((aa71 2), .inl ((kk71 2), 24, .inl (fun _ => 0))), ((aa71 3), .inl ((kk71 3), 4096, .inl (fun _ => 0))), ((aa71 4), .inl ((kk71 4), 4096, .inl (fun _ => 0)))] H := hP
            have hD : va_D A [(h0, .inr (11, [.ref (a 0), .ref (a 1), .ref (a 3), .ref (a 14), .int 0, .null, .null, .null, .null, .ref a71, .null])), (a71, .inr (0, [.int 0, .ref (aa71 0), .ref (aa71 1), .ref (aa71 2), .ref (aa71 3), .ref (aa71 4), .int 0])), ((aa71 0), .inl ((kk71 0), 24, .inl (fun _ => 0))), ((aa71 1), .inl ((kk71 1), 24, .inl (fun _ => 0))), ((aa71 2), .inl ((kk71 2), 24, .inl (fun _ => 0))), ((aa71 3), .inl ((kk71 3), 4096, .inl (fun _ => 0))), ((aa71 4), .inl ((kk71 4), 4096, .inl (fun _ => 0)))] := hD
            have hK : va_K (dC, dI) vwCl [((kk71 0), .int), ((kk71 1), .int), ((kk71 2), .int), ((kk71 3), .int), ((kk71 4), .int)] s := hK
            refine W.widen (k := 6) (n := 8271) (by decide +kernel) (by decide +kernel) ?_
            refine va_get (D := (dC, dI)) (ci := 0) (v := .int 0) (C := RX0) (T := TX0) (N := 7) hx hb hts iwsPX11_truth_in0 hown hK hP 1 rfl rfl 0 (by decide) (hts (.fieldLink RX11 397 "OptimaWorks$ClauseDesk" "clauses" "I") (by decide +kernel)) (fun _ h9 => h9) rfl dX11_truth_74 ?_
            refine W.widen (k := 6) (n := 8271) (by decide +kernel) (by decide +kernel) ?_
            exact W.iret (v := 0) hx hb hr (fun t ht hW => ⟨⟨0, (), rfl, by first | (left; (refine ⟨?_, ?_⟩ <;> (first | rfl | assumption | trivial | omega | (simp []; done) | (simp; omega)))) | (right; left; (refine ⟨?_, ?_⟩ <;> (first | rfl | assumption | trivial | omega | (simp []; done) | (simp; omega)))) | (right; right; (refine ⟨?_, ?_⟩ <;> (first | rfl | assumption | trivial | omega | (simp []; done) | (simp; omega)))), by rw [ht]; exact hP.sub [] rfl, va_K.moved hW.alike (hK.sub [] rfl), hD.sub [] (by decide) rfl⟩, hS.F ht⟩) hS.2.2 dX11_truth_77
          · have ts_1_4 : ¬ (wh).toInt = 4 := toI_neq s_1_4 rfl (by decide)
            refine lv_tableOut (tgt := 78) hx hb dX11_truth_1 (by have := lv_neT s_1_0 (show Int32.toInt 0 = 0 by decide); have := lv_neT s_1_1 (show Int32.toInt 1 = 1 by decide); have := lv_neT s_1_2 (show Int32.toInt 2 = 2 by decide); have := lv_neT s_1_3 (show Int32.toInt 3 = 3 by decide); have := lv_neT s_1_4 (show Int32.toInt 4 = 4 by decide); omega) (by decide) ?_
            refine lv_iconst (v := (-1)) hx hb dX11_truth_78 (by decide) ?_
            refine W.widen (k := 6) (n := 8271) (by decide +kernel) (by decide +kernel) ?_
            exact W.iret (v := (-1)) hx hb hr (fun t ht hW => ⟨⟨(-1), (), rfl, by first | (left; (refine ⟨?_, ?_⟩ <;> (first | rfl | assumption | trivial | omega | (simp []; done) | (simp; omega)))) | (right; left; (refine ⟨?_, ?_⟩ <;> (first | rfl | assumption | trivial | omega | (simp []; done) | (simp; omega)))) | (right; right; (refine ⟨?_, ?_⟩ <;> (first | rfl | assumption | trivial | omega | (simp []; done) | (simp; omega)))), by rw [ht]; exact hP.sub [] rfl, va_K.moved hW.alike (hK.sub [] rfl), hD.sub [] (by decide) rfl⟩, hS.F ht⟩) hS.2.2 dX11_truth_79

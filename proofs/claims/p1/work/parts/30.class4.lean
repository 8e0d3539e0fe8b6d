theorem dX11_theNets_0 : decode cX11_theNets 0 = .ok (.aload_n 0, 1) := by decide +kernel
theorem dX11_theNets_1 : decode cX11_theNets 1 = .ok (.getfield 415, 3) := by decide +kernel
theorem dX11_theNets_4 : decode cX11_theNets 4 = .ok (.ifnonnull 14, 3) := by decide +kernel
theorem dX11_theNets_7 : decode cX11_theNets 7 = .ok (.aload_n 0, 1) := by decide +kernel
theorem dX11_theNets_8 : decode cX11_theNets 8 = .ok (.new 419, 3) := by decide +kernel
theorem dX11_theNets_11 : decode cX11_theNets 11 = .ok (.dup, 1) := by decide +kernel
theorem dX11_theNets_12 : decode cX11_theNets 12 = .ok (.invokespecial 421, 3) := by decide +kernel
theorem dX11_theNets_15 : decode cX11_theNets 15 = .ok (.putfield 415, 3) := by decide +kernel
theorem dX11_theNets_18 : decode cX11_theNets 18 = .ok (.aload_n 0, 1) := by decide +kernel
theorem dX11_theNets_19 : decode cX11_theNets 19 = .ok (.getfield 415, 3) := by decide +kernel
theorem dX11_theNets_22 : decode cX11_theNets 22 = .ok (.areturn, 1) := by decide +kernel
def wsPX11_theNets : List Cond := .code yX11_theNets cX11_theNets 1 (some (.object "OptimaWorks$NetDesk")) :: ([.fieldLink RX11 415 "OptimaWorks" "nets" "LOptimaWorks$NetDesk;", .classLink RX11 419 RX2, .instantiable RX2 14, .initialized RX2, .instanceMethod yX2_init] ++ wsX20 ++ wsX110 ++ (wsX2_init))
theorem iwsPX11_theNets_in2 : ∀ w ∈ wsX20, w ∈ wsPX11_theNets := fun _ h => List.mem_cons_of_mem _ (List.mem_append_left _ (List.mem_append_left _ (List.mem_append_right _ h)))
theorem iwsPX11_theNets_in11 : ∀ w ∈ wsX110, w ∈ wsPX11_theNets := fun _ h => List.mem_cons_of_mem _ (List.mem_append_left _ (List.mem_append_right _ h))
theorem gwsPX11_theNets_0 : GoodIn wsPX11_theNets (wsX2_init) := goodIn_sub (fun _ h => List.mem_cons_of_mem _ (List.mem_append_right _ h)) (by decide +kernel)
set_option maxHeartbeats 4000000 in
set_option maxRecDepth 100000 in
/-- theNets() on a fresh object: a desk comes -/
theorem p_X11_theNets (l : Launch) (dC : Nat → ClassId) (dI : Nat → Nat → Nat) (h0 : Nat) (a : Nat → Nat) (sz : Nat) : Met l yX11_theNets wsPX11_theNets ({ frames := 2, cells := 12, slots := 1478, locals := 32 }) (va_Pc [.ref h0] (fun U => U.heap.size = sz ∧ va_P (dC, dI) vwCl [(h0, .inr (11, [.ref (a 0), .ref (a 1), .ref (a 3), .ref (a 14), .int 0, .null, .null, .null, .null, .null, .null]))] U.heap ∧ va_K (dC, dI) vwCl [] U ∧ va_D (fun _ => True) [(h0, .inr (11, [.ref (a 0), .ref (a 1), .ref (a 3), .ref (a 14), .int 0, .null, .null, .null, .null, .null, .null]))] ∧ va_Nw (.methodLinkNest RX11 421 yX2_init RX11) U)) (va_Qr (fun (u : (Nat → Nat) × (Nat → ClassId)) => True) (fun (u : (Nat → Nat) × (Nat → ClassId)) ra t => va_P (dC, dI) vwCl [(h0, .inr (11, [.ref (a 0), .ref (a 1), .ref (a 3), .ref (a 14), .int 0, .null, .null, .null, .null, .null, .ref ra])), (ra, .inr (2, [.int 0, .ref ((u.1) 0), .ref ((u.1) 1), .ref ((u.1) 2), .ref ((u.1) 3), .int 0, .ref ((u.1) 4), .ref ((u.1) 5), .ref ((u.1) 6), .ref ((u.1) 7), .ref ((u.1) 8), .int 0, .ref ((u.1) 9), .ref ((u.1) 10)])), (((u.1) 0), .inl (((u.2) 0), 40, .inl (fun _ => 0))), (((u.1) 1), .inl (((u.2) 1), 40, .inl (fun _ => 0))), (((u.1) 2), .inl (((u.2) 2), 40, .inl (fun _ => 0))), (((u.1) 3), .inl (((u.2) 3), 40, .inl (fun _ => 0))), (((u.1) 4), .inl (((u.2) 4), 144, .inl (fun _ => 0))), (((u.1) 5), .inl (((u.2) 5), 12, .inl (fun _ => 0))), (((u.1) 6), .inl (((u.2) 6), 40, .inl (fun _ => 0))), (((u.1) 7), .inl (((u.2) 7), 12, .inl (fun _ => 0))), (((u.1) 8), .inl (((u.2) 8), 8, .inl (fun _ => 0))), (((u.1) 9), .inl (((u.2) 9), 64, .inl (fun _ => 0))), (((u.1) 10), .inl (((u.2) 10), 1024, .inl (fun _ => 0)))] t.heap ∧ va_K (dC, dI) vwCl [(((u.2) 0), .int), (((u.2) 1), .int), (((u.2) 2), .int), (((u.2) 3), .int), (((u.2) 4), .int), (((u.2) 5), .int), (((u.2) 6), .int), (((u.2) 7), .int), (((u.2) 8), .int), (((u.2) 9), .int), (((u.2) 10), .int)] t ∧ va_D (va_A [(h0, .inr (11, [.ref (a 0), .ref (a 1), .ref (a 3), .ref (a 14), .int 0, .null, .null, .null, .null, .null, .null]))] sz) [(h0, .inr (11, [.ref (a 0), .ref (a 1), .ref (a 3), .ref (a 14), .int 0, .null, .null, .null, .null, .null, .ref ra])), (ra, .inr (2, [.int 0, .ref ((u.1) 0), .ref ((u.1) 1), .ref ((u.1) 2), .ref ((u.1) 3), .int 0, .ref ((u.1) 4), .ref ((u.1) 5), .ref ((u.1) 6), .ref ((u.1) 7), .ref ((u.1) 8), .int 0, .ref ((u.1) 9), .ref ((u.1) 10)])), (((u.1) 0), .inl (((u.2) 0), 40, .inl (fun _ => 0))), (((u.1) 1), .inl (((u.2) 1), 40, .inl (fun _ => 0))), (((u.1) 2), .inl (((u.2) 2), 40, .inl (fun _ => 0))), (((u.1) 3), .inl (((u.2) 3), 40, .inl (fun _ => 0))), (((u.1) 4), .inl (((u.2) 4), 144, .inl (fun _ => 0))), (((u.1) 5), .inl (((u.2) 5), 12, .inl (fun _ => 0))), (((u.1) 6), .inl (((u.2) 6), 40, .inl (fun _ => 0))), (((u.1) 7), .inl (((u.2) 7), 12, .inl (fun _ => 0))), (((u.1) 8), .inl (((u.2) 8), 8, .inl (fun _ => 0))), (((u.1) 9), .inl (((u.2) 9), 64, .inl (fun _ => 0))), (((u.1) 10), .inl (((u.2) 10), 1024, .inl (fun _ => 0)))]) (va_A [(h0, .inr (11, [.ref (a 0), .ref (a 1), .ref (a 3), .ref (a 14), .int 0, .null, .null, .null, .null, .null, .null]))] sz)) 12 1478 (va_A [(h0, .inr (11, [.ref (a 0), .ref (a 1), .ref (a 3), .ref (a 14), .int 0, .null, .null, .null, .null, .null, .null]))] sz) := by
  refine Met.ofW (cc := cX11_theNets) (maxL := 1) (ret := (some (.object "OptimaWorks$NetDesk"))) (by decide) rfl ?_
  intro p e s m args below meth c s₁ B hml hv
  obtain ⟨rfl, hsz, hP, hK, hD0, hnX11_421⟩ := hv
  have hx := B.exec
  have hb := B.bytes
  have hr := B.returns
  have hts := atoms_spec (ws := wsPX11_theNets) B.pre
  have hown : s.vm.findClass RX11 = some m.cls := findClass_of_methodNamed B.named
  have hlocks := B.notSynchronized
  subst hsz
  have hD := hD0.self (sz := s.heap.size)
  generalize hAe : va_A [(h0, .inr (11, [.ref (a 0), .ref (a 1), .ref (a 3), .ref (a 14), .int 0, .null, .null, .null, .null, .null, .null]))] s.heap.size = A at hD ⊢
  have hA : ∀ q : Nat, s.heap.size ≤ q → A q := fun q h => by rw [← hAe]; exact Or.inr h
  have hS : va_S A s.heap s.heap [] := va_S.rf
  have hP : va_P (dC, dI) vwCl [(h0, .inr (11, [.ref (a 0), .ref (a 1), .ref (a 3), .ref (a 14), .int 0, .null, .null, .null, .null, .null, .null]))] s.heap := hP
  have hl := lv_entry ([.ref h0]) (n := 1) (Nat.le_of_ble_eq_true rfl)
  rw [lg_entry_eq]
  generalize (lg_sl ([.ref h0]) ++ List.replicate (1 - (lg_sl ([.ref h0])).length) Slot.unset).toArray = ls at hl ⊢
  have hl : lv_has ls 1 [(0, .ref h0)] := hl
  refine lv_aload_n hx hb dX11_theNets_0 rfl (lv_at hl 0 rfl) ?_
  refine va_get (D := (dC, dI)) (ci := 11) (v := .null) (C := RX11) (T := TX11) (N := 11) hx hb hts iwsPX11_theNets_in11 hown hK hP 0 rfl rfl 10 (by decide) (hts (.fieldLink RX11 415 "OptimaWorks" "nets" "LOptimaWorks$NetDesk;") (by decide +kernel)) (fun _ h9 => h9) rfl dX11_theNets_1 ?_
  refine lv_ifnonnullN hx hb dX11_theNets_4 ?_
  refine lv_aload_n hx hb dX11_theNets_7 rfl (lv_at hl 0 rfl) ?_
  refine va_new (ci := 2) (fs := [.int 0, .null, .null, .null, .null, .int 0, .null, .null, .null, .null, .null, .int 0, .null, .null]) (C := RX2) (T := TX2) (N := 14) hx hb hts iwsPX11_theNets_in2 tyX2 tyX2_ok hown (hts (.classLink RX11 419 RX2) (by decide +kernel)) (hts (.instantiable RX2 14) (by decide +kernel)) (hts (.initialized RX2) (by decide +kernel)) hK hP hD hS hA rfl (by decide +kernel) (by decide +kernel) (by decide +kernel) dX11_theNets_8 (fun q8 H hP hD hS => ?_)
  have hP : va_P (dC, dI) vwCl [(h0, .inr (11, [.ref (a 0), .ref (a 1), .ref (a 3), .ref (a 14), .int 0, .null, .null, .null, .null, .null, .null])), (q8, .inr (2, [.int 0, .null, .null, .null, .null, .int 0, .null, .null, .null, .null, .null, .int 0, .null, .null]))] H := hP
  have hD : va_D A [(h0, .inr (11, [.ref (a 0), .ref (a 1), .ref (a 3), .ref (a 14), .int 0, .null, .null, .null, .null, .null, .null])), (q8, .inr (2, [.int 0, .null, .null, .null, .null, .int 0, .null, .null, .null, .null, .null, .int 0, .null, .null]))] := hD
  refine W.widen (k := 1) (n := 14) (by decide +kernel) (by decide +kernel) ?_
  refine lv_dup hx hb dX11_theNets_11 rfl ?_
  have hPc := hP.sub (ws' := [(q8, .inr (2, [.int 0, .null, .null, .null, .null, .int 0, .null, .null, .null, .null, .null, .int 0, .null, .null]))]) [1] rfl
  have hDc := hD.sub (ws' := [(q8, .inr (2, [.int 0, .null, .null, .null, .null, .int 0, .null, .null, .null, .null, .null, .int 0, .null, .null]))]) [1] (by decide) rfl
  have hKc := hK.sub (tys' := []) [] rfl
  have hFc := va_free (wc := [(q8, .inr (2, [.int 0, .null, .null, .null, .null, .int 0, .null, .null, .null, .null, .null, .int 0, .null, .null]))]) hD hS hA [1] rfl
  refine va_callv (va_runIN (As := []) (rest := [.ref q8, .ref h0]) ⟨hx, hb, hml, hown, hts⟩ (c_X2_init l dC dI q8 H.size) ⟨va_cnB 0 hts gwsPX11_theNets_0 rfl rfl rfl hnX11_421 (hts (.initialized RX2) (by decide +kernel)) (by decide +kernel) ⟨by decide +kernel, by decide +kernel⟩, rfl, (hts (.instanceMethod yX2_init) (by decide +kernel))⟩ ⟨fun a U g mk q => by obtain ⟨q0, q1, qP, qK, qD⟩ := q; exact ⟨q0, q1, qP, va_K.moved (u := U) (U := U.calling g mk a) (Vm.Alike.refl U.vm) qK, qD⟩, fun U hU9 hW => ⟨rfl, by rw [hU9], by rw [hU9]; exact hPc, va_K.moved hW.alike hKc, hDc.weaken (fun _ _ _ _ => trivial)⟩⟩ rfl rfl hl.1 rfl (lv_room (Nat.le_of_ble_eq_true rfl)) dX11_theNets_12 ⟨by decide +kernel, by decide +kernel⟩) hS (fun q _ h => hFc q h) hFc (fun u t H1 locs ht hvm hw hB hz1 hk1 hS => ?_)
  obtain ⟨aa12, kk12⟩ := u
  obtain ⟨hP1, hK1, hD1⟩ := hB
  rw [ht] at hP1
  have hK1 := va_K.moved hvm.symm hK1
  obtain ⟨hP, hD⟩ := va_join (wr := [(h0, .inr (11, [.ref (a 0), .ref (a 1), .ref (a 3), .ref (a 14), .int 0, .null, .null, .null, .null, .null, .null]))]) (w1 := [(q8, .inr (2, [.int 0, .ref (aa12 0), .ref (aa12 1), .ref (aa12 2), .ref (aa12 3), .int 0, .ref (aa12 4), .ref (aa12 5), .ref (aa12 6), .ref (aa12 7), .ref (aa12 8), .int 0, .ref (aa12 9), .ref (aa12 10)])), ((aa12 0), .inl ((kk12 0), 40, .inl (fun _ => 0))), ((aa12 1), .inl ((kk12 1), 40, .inl (fun _ => 0))), ((aa12 2), .inl ((kk12 2), 40, .inl (fun _ => 0))), ((aa12 3), .inl ((kk12 3), 40, .inl (fun _ => 0))), ((aa12 4), .inl ((kk12 4), 144, .inl (fun _ => 0))), ((aa12 5), .inl ((kk12 5), 12, .inl (fun _ => 0))), ((aa12 6), .inl ((kk12 6), 40, .inl (fun _ => 0))), ((aa12 7), .inl ((kk12 7), 12, .inl (fun _ => 0))), ((aa12 8), .inl ((kk12 8), 8, .inl (fun _ => 0))), ((aa12 9), .inl ((kk12 9), 64, .inl (fun _ => 0))), ((aa12 10), .inl ((kk12 10), 1024, .inl (fun _ => 0)))]) hP hD [1] [0] rfl rfl (by decide) (by decide) hk1 hFc hP1 hD1
  have hK := hK.app hK1
  generalize H1 = H at hP hS ⊢
  have hP : va_P (dC, dI) vwCl [(h0, .inr (11, [.ref (a 0), .ref (a 1), .ref (a 3), .ref (a 14), .int 0, .null, .null, .null, .null, .null, .null])), (q8, .inr (2, [.int 0, .ref (aa12 0), .ref (aa12 1), .ref (aa12 2), .ref (aa12 3), .int 0, .ref (aa12 4), .ref (aa12 5), .ref (aa12 6), .ref (aa12 7), .ref (aa12 8), .int 0, .ref (aa12 9), .ref (aa12 10)])), ((aa12 0), .inl ((kk12 0), 40, .inl (fun _ => 0))), ((aa12 1), .inl ((kk12 1), 40, .inl (fun _ => 0))), ((aa12 2), .inl ((kk12 2), 40, .inl (fun _ => 0))), ((aa12 3), .inl ((kk12 3), 40, .inl (fun _ => 0))), ((aa12 4), .inl ((kk12 4), 144, .inl (fun _ => 0))), ((aa12 5), .inl ((kk12 5), 12, .inl (fun _ => 0))), ((aa12 6), .inl ((kk12 6), 40, .inl (fun _ => 0))), ((aa12 7), .inl ((kk12 7), 12, .inl (fun _ => 0))), ((aa12 8), .inl ((kk12 8), 8, .inl (fun _ => 0))), ((aa12 9), .inl ((kk12 9), 64, .inl (fun _ => 0))), ((aa12 10), .inl ((kk12 10), 1024, .inl (fun _ => 0)))] H := hP
  have hD : va_D A [(h0, .inr (11, [.ref (a 0), .ref (a 1), .ref (a 3), .ref (a 14), .int 0, .null, .null, .null, .null, .null, .null])), (q8, .inr (2, [.int 0, .ref (aa12 0), .ref (aa12 1), .ref (aa12 2), .ref (aa12 3), .int 0, .ref (aa12 4), .ref (aa12 5), .ref (aa12 6), .ref (aa12 7), .ref (aa12 8), .int 0, .ref (aa12 9), .ref (aa12 10)])), ((aa12 0), .inl ((kk12 0), 40, .inl (fun _ => 0))), ((aa12 1), .inl ((kk12 1), 40, .inl (fun _ => 0))), ((aa12 2), .inl ((kk12 2), 40, .inl (fun _ => 0))), ((aa12 3), .inl ((kk12 3), 40, .inl (fun _ => 0))), ((aa12 4), .inl ((kk12 4), 144, .inl (fun _ => 0))), ((aa12 5), .inl ((kk12 5), 12, .inl (fun _ => 0))), ((aa12 6), .inl ((kk12 6), 40, .inl (fun _ => 0))), ((aa12 7), .inl ((kk12 7), 12, .inl (fun _ => 0))), ((aa12 8), .inl ((kk12 8), 8, .inl (fun _ => 0))), ((aa12 9), .inl ((kk12 9), 64, .inl (fun _ => 0))), ((aa12 10), .inl ((kk12 10), 1024, .inl (fun _ => 0)))] := hD
  have hK : va_K (dC, dI) vwCl [((kk12 0), .int), ((kk12 1), .int), ((kk12 2), .int), ((kk12 3), .int), ((kk12 4), .int), ((kk12 5), .int), ((kk12 6), .int), ((kk12 7), .int), ((kk12 8), .int), ((kk12 9), .int), ((kk12 10), .int)] s := hK
  refine W.widen (k := 12) (n := 1478) (by decide +kernel) (by decide +kernel) ?_
  refine va_put (D := (dC, dI)) (ci := 11) (v := .ref q8) (ty := .object "OptimaWorks$NetDesk") (C := RX11) (T := TX11) (N := 11) hx hb hts iwsPX11_theNets_in11 tyX11 tyX11_ok nmX11 hown hK hP hD hS 0 rfl rfl 10 (by decide) (hts (.fieldLink RX11 415 "OptimaWorks" "nets" "LOptimaWorks$NetDesk;") (by decide +kernel)) (fun _ h9 => h9) rfl (by decide +kernel) rfl rfl (Nat.le_of_ble_eq_true rfl) dX11_theNets_15 (fun H locs hP hD hS => ?_)
  have hP : va_P (dC, dI) vwCl [(h0, .inr (11, [.ref (a 0), .ref (a 1), .ref (a 3), .ref (a 14), .int 0, .null, .null, .null, .null, .null, .ref q8])), (q8, .inr (2, [.int 0, .ref (aa12 0), .ref (aa12 1), .ref (aa12 2), .ref (aa12 3), .int 0, .ref (aa12 4), .ref (aa12 5), .ref (aa12 6), .ref (aa12 7), .ref (aa12 8), .int 0, .ref (aa12 9), .ref (aa12 10)])), ((aa12 0), .inl ((kk12 0), 40, .inl (fun _ => 0))), ((aa12 1), .inl ((kk12 1), 40, .inl (fun _ => 0))), ((aa12 2), .inl ((kk12 2), 40, .inl (fun _ => 0))), ((aa12 3), .inl ((kk12 3), 40, .inl (fun _ => 0))), ((aa12 4), .inl ((kk12 4), 144, .inl (fun _ => 0))), ((aa12 5), .inl ((kk12 5), 12, .inl (fun _ => 0))), ((aa12 6), .inl ((kk12 6), 40, .inl (fun _ => 0))), ((aa12 7), .inl ((kk12 7), 12, .inl (fun _ => 0))), ((aa12 8), .inl ((kk12 8), 8, .inl (fun _ => 0))), ((aa12 9), .inl ((kk12 9), 64, .inl (fun _ => 0))), ((aa12 10), .inl ((kk12 10), 1024, .inl (fun _ => 0)))] H := hP
  have hD : va_D A [(h0, .inr (11, [.ref (a 0), .ref (a 1), .ref (a 3), .ref (a 14), .int 0, .null, .null, .null, .null, .null, .ref q8])), (q8, .inr (2, [.int 0, .ref (aa12 0), .ref (aa12 1), .ref (aa12 2), .ref (aa12 3), .int 0, .ref (aa12 4), .ref (aa12 5), .ref (aa12 6), .ref (aa12 7), .ref (aa12 8), .int 0, .ref (aa12 9), .ref (aa12 10)])), ((aa12 0), .inl ((kk12 0), 40, .inl (fun _ => 0))), ((aa12 1), .inl ((kk12 1), 40, .inl (fun _ => 0))), ((aa12 2), .inl ((kk12 2), 40, .inl (fun _ => 0))), ((aa12 3), .inl ((kk12 3), 40, .inl (fun _ => 0))), ((aa12 4), .inl ((kk12 4), 144, .inl (fun _ => 0))), ((aa12 5), .inl ((kk12 5), 12, .inl (fun _ => 0))), ((aa12 6), .inl ((kk12 6), 40, .inl (fun _ => 0))), ((aa12 7), .inl ((kk12 7), 12, .inl (fun _ => 0))), ((aa12 8), .inl ((kk12 8), 8, .inl (fun _ => 0))), ((aa12 9), .inl ((kk12 9), 64, .inl (fun _ => 0))), ((aa12 10), .inl ((kk12 10), 1024, .inl (fun _ => 0)))] := hD
  refine lv_aload_n hx hb dX11_theNets_18 rfl (lv_at hl 0 rfl) ?_
  refine va_get (D := (dC, dI)) (ci := 11) (v := .ref q8) (C := RX11) (T := TX11) (N := 11) hx hb hts iwsPX11_theNets_in11 hown hK hP 0 rfl rfl 10 (by decide) (hts (.fieldLink RX11 415 "OptimaWorks" "nets" "LOptimaWorks$NetDesk;") (by decide +kernel)) (fun _ h9 => h9) rfl dX11_theNets_19 ?_
  refine W.widen (k := 12) (n := 1478) (by decide +kernel) (by decide +kernel) ?_
  exact W.aret hx hb hr (Or.inl ⟨_, rfl⟩) (Or.inr ⟨_, rfl⟩) (fun t ht hW => ⟨⟨(aa12, kk12), _, rfl, trivial, by rw [ht]; exact hP.sub [0, 1, 2, 3, 4, 5, 6, 7, 8, 9, 10, 11, 12] rfl, va_K.moved hW.alike (hK.sub [0, 1, 2, 3, 4, 5, 6, 7, 8, 9, 10] rfl), hD.sub [0, 1, 2, 3, 4, 5, 6, 7, 8, 9, 10, 11, 12] (by decide) rfl⟩, hS.F ht⟩) hS.2.2 dX11_theNets_22
theorem dX11_isNode_0 : decode cX11_isNode 0 = .ok (.iload_n 0, 1) := by decide +kernel
theorem dX11_isNode_1 : decode cX11_isNode 1 = .ok (.ifCond .lt 13, 3) := by decide +kernel
theorem dX11_isNode_4 : decode cX11_isNode 4 = .ok (.iload_n 0, 1) := by decide +kernel
theorem dX11_isNode_5 : decode cX11_isNode 5 = .ok (.bipush 12, 2) := by decide +kernel
theorem dX11_isNode_7 : decode cX11_isNode 7 = .ok (.if_icmp .ge 7, 3) := by decide +kernel
theorem dX11_isNode_10 : decode cX11_isNode 10 = .ok (.iconst 1, 1) := by decide +kernel
theorem dX11_isNode_11 : decode cX11_isNode 11 = .ok (.goto 4, 3) := by decide +kernel
theorem dX11_isNode_14 : decode cX11_isNode 14 = .ok (.iconst 0, 1) := by decide +kernel
theorem dX11_isNode_15 : decode cX11_isNode 15 = .ok (.ireturn, 1) := by decide +kernel
def wsPX11_isNode : List Cond := .code yX11_isNode cX11_isNode 1 (some .boolean) :: ([])
set_option maxHeartbeats 4000000 in
set_option maxRecDepth 100000 in
/-- isNode(n) -/
theorem p_X11_isNode (l : Launch) (dC : Nat → ClassId) (dI : Nat → Nat → Nat) (np : Int32) (sz : Nat) : Met l yX11_isNode wsPX11_isNode ({ frames := 0, cells := 0, slots := 0, locals := 0 }) (va_Pc [.int np] (fun U => U.heap.size = sz ∧ va_P (dC, dI) vwCl [] U.heap ∧ va_K (dC, dI) vwCl [] U ∧ va_D (fun _ => True) [])) (va_Qi (fun (r : Int32) (u : Unit) => (r = 1 ∧ (0 ≤ (np).toInt ∧ (np).toInt < 12)) ∨ (r = 0 ∧ ((np).toInt < 0 ∨ 12 ≤ (np).toInt))) (fun (u : Unit) t => va_P (dC, dI) vwCl [] t.heap ∧ va_K (dC, dI) vwCl [] t ∧ va_D (va_A [] sz) []) (va_A [] sz)) 0 0 (va_A [] sz) := by
  refine Met.ofW (cc := cX11_isNode) (maxL := 1) (ret := (some .boolean)) (by decide) rfl ?_
  intro p e s m args below meth c s₁ B hml hv
  obtain ⟨rfl, hsz, hP, hK, hD0⟩ := hv
  have hx := B.exec
  have hb := B.bytes
  have hr := B.returns
  have hts := atoms_spec (ws := wsPX11_isNode) B.pre
  have hown : s.vm.findClass RX11 = some m.cls := findClass_of_methodNamed B.named
  have hlocks := B.notSynchronized
  subst hsz
  have hD := hD0.self (sz := s.heap.size)
  generalize hAe : va_A [] s.heap.size = A at hD ⊢
  have hA : ∀ q : Nat, s.heap.size ≤ q → A q := fun q h => by rw [← hAe]; exact Or.inr h
  have hS : va_S A s.heap s.heap [] := va_S.rf
  have hP : va_P (dC, dI) vwCl [] s.heap := hP
  have hl := lv_entry ([.int np]) (n := 1) (Nat.le_of_ble_eq_true rfl)
  rw [lg_entry_eq]
  generalize (lg_sl ([.int np]) ++ List.replicate (1 - (lg_sl ([.int np])).length) Slot.unset).toArray = ls at hl ⊢
  have hl : lv_has ls 1 [(0, .int np)] := hl
  refine lv_iload_n hx hb dX11_isNode_0 rfl (lv_at hl 0 rfl) ?_
  refine lv_if_lt (tgt := 14) hx hb dX11_isNode_1 (by decide) (fun c_1 => ?_) (fun c_1 => ?_)
  · have t_1 : (np).toInt < 0 := toI_lt c_1 rfl (by decide)
    refine lv_iconst (v := 0) hx hb dX11_isNode_14 (by decide) ?_
    refine W.widen (k := 0) (n := 0) (by decide +kernel) (by decide +kernel) ?_
    exact W.zret (v := 0) hx hb hr rfl (fun t ht hW => ⟨⟨0, (), rfl, by first | (left; (refine ⟨?_, ?_⟩ <;> (first | rfl | assumption | trivial | omega | (simp [c_1]; done) | (simp; omega)))) | (right; (refine ⟨?_, ?_⟩ <;> (first | rfl | assumption | trivial | omega | (simp [c_1]; done) | (simp; omega)))), by rw [ht]; exact hP.sub [] rfl, va_K.moved hW.alike (hK.sub [] rfl), hD.sub [] (by decide) rfl⟩, hS.F ht⟩) hS.2.2 dX11_isNode_15
  · have t_1 : ¬ (np).toInt < 0 := toI_nlt c_1 rfl (by decide)
    refine lv_iload_n hx hb dX11_isNode_4 rfl (lv_at hl 0 rfl) ?_
    refine lv_bipush (v := 12) hx hb dX11_isNode_5 (by decide) ?_
    refine lv_icmp_ge (tgt := 14) hx hb dX11_isNode_7 (by decide) (fun c_7 => ?_) (fun c_7 => ?_)
    · have t_7 : (np).toInt ≥ 12 := toI_ge c_7 rfl (by decide)
      refine lv_iconst (v := 0) hx hb dX11_isNode_14 (by decide) ?_
      refine W.widen (k := 0) (n := 0) (by decide +kernel) (by decide +kernel) ?_
      exact W.zret (v := 0) hx hb hr rfl (fun t ht hW => ⟨⟨0, (), rfl, by first | (left; (refine ⟨?_, ?_⟩ <;> (first | rfl | assumption | trivial | omega | (simp [c_1, c_7]; done) | (simp; omega)))) | (right; (refine ⟨?_, ?_⟩ <;> (first | rfl | assumption | trivial | omega | (simp [c_1, c_7]; done) | (simp; omega)))), by rw [ht]; exact hP.sub [] rfl, va_K.moved hW.alike (hK.sub [] rfl), hD.sub [] (by decide) rfl⟩, hS.F ht⟩) hS.2.2 dX11_isNode_15
    · have t_7 : ¬ (np).toInt ≥ 12 := toI_nge c_7 rfl (by decide)
      refine lv_iconst (v := 1) hx hb dX11_isNode_10 (by decide) ?_
      refine lv_goto (tgt := 15) hx hb dX11_isNode_11 (by decide) ?_
      refine W.widen (k := 0) (n := 0) (by decide +kernel) (by decide +kernel) ?_
      exact W.zret (v := 1) hx hb hr rfl (fun t ht hW => ⟨⟨1, (), rfl, by first | (left; (refine ⟨?_, ?_⟩ <;> (first | rfl | assumption | trivial | omega | (simp [c_1, c_7]; done) | (simp; omega)))) | (right; (refine ⟨?_, ?_⟩ <;> (first | rfl | assumption | trivial | omega | (simp [c_1, c_7]; done) | (simp; omega)))), by rw [ht]; exact hP.sub [] rfl, va_K.moved hW.alike (hK.sub [] rfl), hD.sub [] (by decide) rfl⟩, hS.F ht⟩) hS.2.2 dX11_isNode_15
theorem dX11_needNodes_0 : decode cX11_needNodes 0 = .ok (.iload_n 0, 1) := by decide +kernel
theorem dX11_needNodes_1 : decode cX11_needNodes 1 = .ok (.invokestatic 422, 3) := by decide +kernel
theorem dX11_needNodes_4 : decode cX11_needNodes 4 = .ok (.ifCond .eq 10, 3) := by decide +kernel
theorem dX11_needNodes_7 : decode cX11_needNodes 7 = .ok (.iload_n 1, 1) := by decide +kernel
theorem dX11_needNodes_8 : decode cX11_needNodes 8 = .ok (.invokestatic 422, 3) := by decide +kernel
theorem dX11_needNodes_11 : decode cX11_needNodes 11 = .ok (.ifCond .ne 11, 3) := by decide +kernel
theorem dX11_needNodes_14 : decode cX11_needNodes 14 = .ok (.new 93, 3) := by decide +kernel
theorem dX11_needNodes_17 : decode cX11_needNodes 17 = .ok (.dup, 1) := by decide +kernel
theorem dX11_needNodes_18 : decode cX11_needNodes 18 = .ok (.invokespecial 95, 3) := by decide +kernel
theorem dX11_needNodes_21 : decode cX11_needNodes 21 = .ok (.athrow, 1) := by decide +kernel
theorem dX11_needNodes_22 : decode cX11_needNodes 22 = .ok (.iload_n 0, 1) := by decide +kernel
theorem dX11_needNodes_23 : decode cX11_needNodes 23 = .ok (.iload_n 1, 1) := by decide +kernel
theorem dX11_needNodes_24 : decode cX11_needNodes 24 = .ok (.if_icmp .ne 11, 3) := by decide +kernel
theorem dX11_needNodes_27 : decode cX11_needNodes 27 = .ok (.new 77, 3) := by decide +kernel
theorem dX11_needNodes_30 : decode cX11_needNodes 30 = .ok (.dup, 1) := by decide +kernel
theorem dX11_needNodes_31 : decode cX11_needNodes 31 = .ok (.invokespecial 79, 3) := by decide +kernel
theorem dX11_needNodes_34 : decode cX11_needNodes 34 = .ok (.athrow, 1) := by decide +kernel
theorem dX11_needNodes_35 : decode cX11_needNodes 35 = .ok (.return_, 1) := by decide +kernel
def wsPX11_needNodes : List Cond := .code yX11_needNodes cX11_needNodes 2 none :: ([.classLink RX11 77 "java/lang/IllegalArgumentException", .initialized "java/lang/IllegalArgumentException", .classLink RX11 93 "java/lang/IndexOutOfBoundsException", .initialized "java/lang/IndexOutOfBoundsException"] ++ (va_wsS RX11 422 yX11_isNode wsPX11_isNode) ++ ((vx_at0 RX11 79 "java/lang/IllegalArgumentException" ["java/lang/RuntimeException", "java/lang/Exception"]).filter goodWord) ++ ((vx_at0 RX11 95 "java/lang/IndexOutOfBoundsException" ["java/lang/RuntimeException", "java/lang/Exception"]).filter goodWord))
theorem gwsPX11_needNodes_0 : GoodIn wsPX11_needNodes (va_wsS RX11 422 yX11_isNode wsPX11_isNode) := goodIn_sub (fun _ h => List.mem_cons_of_mem _ (List.mem_append_left _ (List.mem_append_left _ (List.mem_append_right _ h)))) (by decide +kernel)
set_option maxHeartbeats 4000000 in
set_option maxRecDepth 100000 in
/-- needNodes(s, t) -/
theorem p_X11_needNodes (l : Launch) (hst : l.stackTraces = false) (dC : Nat → ClassId) (dI : Nat → Nat → Nat) (ns : Int32) (nt : Int32) (sz : Nat) : vx_Met l yX11_needNodes wsPX11_needNodes ({ frames := 6, cells := 1, slots := 6, locals := 81 }) (va_Pc [.int ns, .int nt] (fun U => U.heap.size = sz ∧ va_P (dC, dI) vwCl [] U.heap ∧ va_K (dC, dI) vwCl [] U ∧ va_D (fun _ => True) [] ∧ vx_Zq Bundle.tN "UNASSIGNED_STACK" Bundle.steD (va_A [] sz) U U.heap ∧ vx_Zq Bundle.tN "SUPPRESSED_SENTINEL" Bundle.listD (va_A [] sz) U U.heap ∧ (∀ w ∈ ngX11_79, va_Nw w U) ∧ (∀ w ∈ ngX11_95, va_Nw w U))) (va_Qv (fun (u : Unit) => (0 ≤ (ns).toInt ∧ (ns).toInt < 12 ∧ 0 ≤ (nt).toInt ∧ (nt).toInt < 12 ∧ ¬ (ns).toInt = (nt).toInt)) (fun (u : Unit) t => va_P (dC, dI) vwCl [] t.heap ∧ va_K (dC, dI) vwCl [] t ∧ va_D (va_A [] sz) []) (va_A [] sz)) (vx_X (fun n : String => (n = "java/lang/IndexOutOfBoundsException" ∧ ((ns).toInt < 0 ∨ 12 ≤ (ns).toInt ∨ (nt).toInt < 0 ∨ 12 ≤ (nt).toInt)) ∨ (n = "java/lang/IllegalArgumentException" ∧ (0 ≤ (ns).toInt ∧ (ns).toInt < 12 ∧ 0 ≤ (nt).toInt ∧ (nt).toInt < 12 ∧ (ns).toInt = (nt).toInt))) (fun E n t => E = n) (va_A [] sz)) 1 6 (va_A [] sz) := by
  refine vx_ofW (cc := cX11_needNodes) (maxL := 2) (ret := none) (by decide) rfl ?_
  intro p e s m args below meth c s₁ B hml htab hv
  obtain ⟨rfl, hsz, hP, hK, hD0, hU, hN, hngX11_79, hngX11_95⟩ := hv
  have hx := B.exec
  have hb := B.bytes
  have hr := B.returns
  have hts := atoms_spec (ws := wsPX11_needNodes) B.pre
  have hown : s.vm.findClass RX11 = some m.cls := findClass_of_methodNamed B.named
  have hlocks := B.notSynchronized
  subst hsz
  have hD := hD0.self (sz := s.heap.size)
  generalize hAe : va_A [] s.heap.size = A at hD hU hN ⊢
  have hA : ∀ q : Nat, s.heap.size ≤ q → A q := fun q h => by rw [← hAe]; exact Or.inr h
  have hS : va_S A s.heap s.heap [] := va_S.rf
  have hP : va_P (dC, dI) vwCl [] s.heap := hP
  have hl := lv_entry ([.int ns, .int nt]) (n := 2) (Nat.le_of_ble_eq_true rfl)
  rw [lg_entry_eq]
  generalize (lg_sl ([.int ns, .int nt]) ++ List.replicate (2 - (lg_sl ([.int ns, .int nt])).length) Slot.unset).toArray = ls at hl ⊢
  have hl : lv_has ls 2 [(0, .int ns), (1, .int nt)] := hl
  refine lv_iload_n hx hb dX11_needNodes_0 rfl (lv_at hl 0 rfl) ?_
  have hPc := hP.sub (ws' := []) [] rfl
  have hDc := hD.sub (ws' := []) [] (by decide) rfl
  have hKc := hK.sub (tys' := []) [] rfl
  have hFc := va_free (wc := []) hD hS hA [] rfl
  refine va_calli (va_runS (As := [.int ns]) (rest := []) ⟨hx, hb, hml, hown, hts⟩ (p_X11_isNode l dC dI ns s.heap.size) (va_cwS 1 hts gwsPX11_needNodes_0 rfl rfl rfl (by decide +kernel) ⟨by decide +kernel, by decide +kernel⟩) ⟨fun a U g mk q => by obtain ⟨q0, q1, qP, qK, qD⟩ := q; exact ⟨q0, q1, qP, va_K.moved (u := U) (U := U.calling g mk a) (Vm.Alike.refl U.vm) qK, qD⟩, fun U hU9 hW => ⟨rfl, by rw [hU9], by rw [hU9]; exact hPc, va_K.moved hW.alike hKc, hDc.weaken (fun _ _ _ _ => trivial)⟩⟩ rfl rfl hl.1 rfl (lv_room (Nat.le_of_ble_eq_true rfl)) dX11_needNodes_1 ⟨by decide +kernel, by decide +kernel⟩) hS (fun q _ h => hFc q h) hFc (fun r1 u t H1 locs ht hvm hw hB hz1 hk1 hS => ?_)
  obtain ⟨hP1, hK1, hD1⟩ := hB
  rw [ht] at hP1
  have hK1 := va_K.moved hvm.symm hK1
  obtain ⟨hP, hD⟩ := va_join (wr := []) (w1 := []) hP hD [] [] rfl rfl (by decide) (by decide) hk1 hFc hP1 hD1
  generalize H1 = H at hP hS ⊢
  have hP : va_P (dC, dI) vwCl [] H := hP
  have hD : va_D A [] := hD
  rcases hw with ⟨rfl, f1_0⟩ | ⟨rfl, f1_0⟩
  · refine lv_if_eq (tgt := 14) hx hb dX11_needNodes_4 (by decide) (fun c9 => absurd c9 (by decide)) (fun _ => ?_)
    refine lv_iload_n hx hb dX11_needNodes_7 rfl (lv_at hl 1 rfl) ?_
    have hPc := hP.sub (ws' := []) [] rfl
    have hDc := hD.sub (ws' := []) [] (by decide) rfl
    have hKc := hK.sub (tys' := []) [] rfl
    have hFc := va_free (wc := []) hD hS hA [] rfl
    refine va_calli (va_runS (As := [.int nt]) (rest := []) ⟨hx, hb, hml, hown, hts⟩ (p_X11_isNode l dC dI nt H.size) (va_cwS 1 hts gwsPX11_needNodes_0 rfl rfl rfl (by decide +kernel) ⟨by decide +kernel, by decide +kernel⟩) ⟨fun a U g mk q => by obtain ⟨q0, q1, qP, qK, qD⟩ := q; exact ⟨q0, q1, qP, va_K.moved (u := U) (U := U.calling g mk a) (Vm.Alike.refl U.vm) qK, qD⟩, fun U hU9 hW => ⟨rfl, by rw [hU9], by rw [hU9]; exact hPc, va_K.moved hW.alike hKc, hDc.weaken (fun _ _ _ _ => trivial)⟩⟩ rfl rfl hl.1 rfl (lv_room (Nat.le_of_ble_eq_true rfl)) dX11_needNodes_8 ⟨by decide +kernel, by decide +kernel⟩) hS (fun q _ h => hFc q h) hFc (fun r8 u t H1 locs ht hvm hw hB hz1 hk1 hS => ?_)
    obtain ⟨hP1, hK1, hD1⟩ := hB
    rw [ht] at hP1
    have hK1 := va_K.moved hvm.symm hK1
    obtain ⟨hP, hD⟩ := va_join (wr := []) (w1 := []) hP hD [] [] rfl rfl (by decide) (by decide) hk1 hFc hP1 hD1
    generalize H1 = H at hP hS ⊢
    have hP : va_P (dC, dI) vwCl [] H := hP
    have hD : va_D A [] := hD
    rcases hw with ⟨rfl, f8_0⟩ | ⟨rfl, f8_0⟩
    · refine lv_if_ne (tgt := 22) hx hb dX11_needNodes_11 (by decide) (fun _ => ?_) (fun c9 => absurd c9 (by decide))
      refine lv_iload_n hx hb dX11_needNodes_22 rfl (lv_at hl 0 rfl) ?_
      refine lv_iload_n hx hb dX11_needNodes_23 rfl (lv_at hl 1 rfl) ?_
      refine lv_icmp_ne (tgt := 35) hx hb dX11_needNodes_24 (by decide) (fun c_24 => ?_) (fun c_24 => ?_)
      · have t_24 : (ns).toInt ≠ (nt).toInt := toI_ne c_24 rfl rfl
        refine vx_ret ?_
        refine W.widen (k := 1) (n := 6) (by decide +kernel) (by decide +kernel) ?_
        exact W.vret hx hb hr (fun t ht hW => ⟨⟨(), rfl, by (first | rfl | assumption | trivial | omega | (simp [c_24]; done) | (simp; omega)), by rw [ht]; exact hP.sub [] rfl, va_K.moved hW.alike (hK.sub [] rfl), hD.sub [] (by decide) rfl⟩, hS.F ht⟩) hS.2.2 dX11_needNodes_35
      · have t_24 : (ns).toInt = (nt).toInt := toI_nne c_24 rfl rfl
        exact vx_throw0 (own := RX11) (cls := "java/lang/IllegalArgumentException") (names := ["java/lang/RuntimeException", "java/lang/Exception"]) (ik := 77) (ic := 79) (A := A) hx hb hst hown (by decide +kernel) (by decide +kernel) (hts (.classLink RX11 77 "java/lang/IllegalArgumentException") (by decide +kernel)) (hts (.initialized "java/lang/IllegalArgumentException") (by decide +kernel)) (vx_hat (B := ngX11_79) (fun w h => hts w (List.mem_cons_of_mem _ (List.mem_append_left _ (List.mem_append_right _ h)))) (fun _ h => h) (fun w h => va_Nw.use (ngX11_79_ot w h) (hngX11_79 w h))) (by decide +kernel) hU hN hS (by rw [hml]; exact hl.1) dX11_needNodes_27 dX11_needNodes_30 dX11_needNodes_31 dX11_needNodes_34 (fun x hx9 => (htab x hx9).elim) (by decide +kernel) (Nat.le_of_ble_eq_true rfl) (by decide +kernel) (by decide +kernel) hlocks (fun t hvm hz hk => ⟨"java/lang/IllegalArgumentException", Or.inr ⟨rfl, by omega⟩, rfl, ⟨Nat.le_trans hS.1 hz, fun q h1 h2 => (hk q (Nat.lt_of_lt_of_le h1 hS.1)).trans (hS.2.1 q h1 h2)⟩⟩) hS.2.2 (by decide +kernel) (by decide +kernel)
    · refine lv_if_ne (tgt := 22) hx hb dX11_needNodes_11 (by decide) (fun c9 => absurd c9 (by decide)) (fun _ => ?_)
      exact vx_throw0 (own := RX11) (cls := "java/lang/IndexOutOfBoundsException") (names := ["java/lang/RuntimeException", "java/lang/Exception"]) (ik := 93) (ic := 95) (A := A) hx hb hst hown (by decide +kernel) (by decide +kernel) (hts (.classLink RX11 93 "java/lang/IndexOutOfBoundsException") (by decide +kernel)) (hts (.initialized "java/lang/IndexOutOfBoundsException") (by decide +kernel)) (vx_hat (B := ngX11_95) (fun w h => hts w (List.mem_cons_of_mem _ (List.mem_append_right _ h))) (fun _ h => h) (fun w h => va_Nw.use (ngX11_95_ot w h) (hngX11_95 w h))) (by decide +kernel) hU hN hS (by rw [hml]; exact hl.1) dX11_needNodes_14 dX11_needNodes_17 dX11_needNodes_18 dX11_needNodes_21 (fun x hx9 => (htab x hx9).elim) (by decide +kernel) (Nat.le_of_ble_eq_true rfl) (by decide +kernel) (by decide +kernel) hlocks (fun t hvm hz hk => ⟨"java/lang/IndexOutOfBoundsException", Or.inl ⟨rfl, by omega⟩, rfl, ⟨Nat.le_trans hS.1 hz, fun q h1 h2 => (hk q (Nat.lt_of_lt_of_le h1 hS.1)).trans (hS.2.1 q h1 h2)⟩⟩) hS.2.2 (by decide +kernel) (by decide +kernel)
  · refine lv_if_eq (tgt := 14) hx hb dX11_needNodes_4 (by decide) (fun _ => ?_) (fun c9 => absurd (by decide) c9)
    exact vx_throw0 (own := RX11) (cls := "java/lang/IndexOutOfBoundsException") (names := ["java/lang/RuntimeException", "java/lang/Exception"]) (ik := 93) (ic := 95) (A := A) hx hb hst hown (by decide +kernel) (by decide +kernel) (hts (.classLink RX11 93 "java/lang/IndexOutOfBoundsException") (by decide +kernel)) (hts (.initialized "java/lang/IndexOutOfBoundsException") (by decide +kernel)) (vx_hat (B := ngX11_95) (fun w h => hts w (List.mem_cons_of_mem _ (List.mem_append_right _ h))) (fun _ h => h) (fun w h => va_Nw.use (ngX11_95_ot w h) (hngX11_95 w h))) (by decide +kernel) hU hN hS (by rw [hml]; exact hl.1) dX11_needNodes_14 dX11_needNodes_17 dX11_needNodes_18 dX11_needNodes_21 (fun x hx9 => (htab x hx9).elim) (by decide +kernel) (Nat.le_of_ble_eq_true rfl) (by decide +kernel) (by decide +kernel) hlocks (fun t hvm hz hk => ⟨"java/lang/IndexOutOfBoundsException", Or.inl ⟨rfl, by omega⟩, rfl, ⟨Nat.le_trans hS.1 hz, fun q h1 h2 => (hk q (Nat.lt_of_lt_of_le h1 hS.1)).trans (hS.2.1 q h1 h2)⟩⟩) hS.2.2 (by decide +kernel) (by decide +kernel)
theorem dX2_addArc_0 : decode cX2_addArc 0 = .ok (.aload_n 0, 1) := by decide +kernel
theorem dX2_addArc_1 : decode cX2_addArc 1 = .ok (.getfield 11, 3) := by decide +kernel
theorem dX2_addArc_4 : decode cX2_addArc 4 = .ok (.aload_n 0, 1) := by decide +kernel
theorem dX2_addArc_5 : decode cX2_addArc 5 = .ok (.getfield 45, 3) := by decide +kernel
theorem dX2_addArc_8 : decode cX2_addArc 8 = .ok (.iload_n 1, 1) := by decide +kernel
theorem dX2_addArc_9 : decode cX2_addArc 9 = .ok (.iastore, 1) := by decide +kernel
theorem dX2_addArc_10 : decode cX2_addArc 10 = .ok (.aload_n 0, 1) := by decide +kernel
theorem dX2_addArc_11 : decode cX2_addArc 11 = .ok (.getfield 15, 3) := by decide +kernel
theorem dX2_addArc_14 : decode cX2_addArc 14 = .ok (.aload_n 0, 1) := by decide +kernel
theorem dX2_addArc_15 : decode cX2_addArc 15 = .ok (.getfield 45, 3) := by decide +kernel
theorem dX2_addArc_18 : decode cX2_addArc 18 = .ok (.iload_n 2, 1) := by decide +kernel
theorem dX2_addArc_19 : decode cX2_addArc 19 = .ok (.iastore, 1) := by decide +kernel
theorem dX2_addArc_20 : decode cX2_addArc 20 = .ok (.aload_n 0, 1) := by decide +kernel
theorem dX2_addArc_21 : decode cX2_addArc 21 = .ok (.getfield 18, 3) := by decide +kernel
theorem dX2_addArc_24 : decode cX2_addArc 24 = .ok (.aload_n 0, 1) := by decide +kernel
theorem dX2_addArc_25 : decode cX2_addArc 25 = .ok (.getfield 45, 3) := by decide +kernel
theorem dX2_addArc_28 : decode cX2_addArc 28 = .ok (.iload_n 3, 1) := by decide +kernel
theorem dX2_addArc_29 : decode cX2_addArc 29 = .ok (.iastore, 1) := by decide +kernel
theorem dX2_addArc_30 : decode cX2_addArc 30 = .ok (.aload_n 0, 1) := by decide +kernel
theorem dX2_addArc_31 : decode cX2_addArc 31 = .ok (.getfield 21, 3) := by decide +kernel
theorem dX2_addArc_34 : decode cX2_addArc 34 = .ok (.aload_n 0, 1) := by decide +kernel
theorem dX2_addArc_35 : decode cX2_addArc 35 = .ok (.getfield 45, 3) := by decide +kernel
theorem dX2_addArc_38 : decode cX2_addArc 38 = .ok (.iload 4, 2) := by decide +kernel
theorem dX2_addArc_40 : decode cX2_addArc 40 = .ok (.iastore, 1) := by decide +kernel
theorem dX2_addArc_41 : decode cX2_addArc 41 = .ok (.aload_n 0, 1) := by decide +kernel
theorem dX2_addArc_42 : decode cX2_addArc 42 = .ok (.dup, 1) := by decide +kernel
theorem dX2_addArc_43 : decode cX2_addArc 43 = .ok (.getfield 45, 3) := by decide +kernel
theorem dX2_addArc_46 : decode cX2_addArc 46 = .ok (.iconst 1, 1) := by decide +kernel
theorem dX2_addArc_47 : decode cX2_addArc 47 = .ok (.iadd, 1) := by decide +kernel
theorem dX2_addArc_48 : decode cX2_addArc 48 = .ok (.putfield 45, 3) := by decide +kernel
theorem dX2_addArc_51 : decode cX2_addArc 51 = .ok (.aload_n 0, 1) := by decide +kernel
theorem dX2_addArc_52 : decode cX2_addArc 52 = .ok (.getfield 45, 3) := by decide +kernel
theorem dX2_addArc_55 : decode cX2_addArc 55 = .ok (.iconst 1, 1) := by decide +kernel
theorem dX2_addArc_56 : decode cX2_addArc 56 = .ok (.isub, 1) := by decide +kernel
theorem dX2_addArc_57 : decode cX2_addArc 57 = .ok (.ireturn, 1) := by decide +kernel
def wsPX2_addArc : List Cond := .code yX2_addArc cX2_addArc 5 (some .int) :: ([.fieldLink RX2 11 "OptimaWorks$NetDesk" "from" "[I", .fieldLink RX2 45 "OptimaWorks$NetDesk" "arcs" "I", .fieldLink RX2 15 "OptimaWorks$NetDesk" "to" "[I", .fieldLink RX2 18 "OptimaWorks$NetDesk" "room" "[I", .fieldLink RX2 21 "OptimaWorks$NetDesk" "cost" "[I"] ++ wsX20)
theorem iwsPX2_addArc_in2 : ∀ w ∈ wsX20, w ∈ wsPX2_addArc := fun _ h => List.mem_cons_of_mem _ (List.mem_append_right _ h)
set_option maxHeartbeats 4000000 in
set_option maxRecDepth 100000 in
/-- addArc(..) on a fresh desk -/
theorem p_X2_addArc (l : Launch) (dC : Nat → ClassId) (dI : Nat → Nat → Nat) (d0 : Nat) (bb : Nat → Nat) (kd : Nat → ClassId) (qf : Int32) (qt : Int32) (qr : Int32) (qc : Int32) (sz : Nat) : Met l yX2_addArc wsPX2_addArc ({ frames := 0, cells := 0, slots := 0, locals := 0 }) (va_Pc [.ref d0, .int qf, .int qt, .int qr, .int qc] (fun U => U.heap.size = sz ∧ va_P (dC, dI) vwCl [(d0, .inr (2, [.int 0, .ref (bb 0), .ref (bb 1), .ref (bb 2), .ref (bb 3), .int 0, .ref (bb 4), .ref (bb 5), .ref (bb 6), .ref (bb 7), .ref (bb 8), .int 0, .ref (bb 9), .ref (bb 10)])), ((bb 0), .inl ((kd 0), 40, .inl (fun _ => 0))), ((bb 1), .inl ((kd 1), 40, .inl (fun _ => 0))), ((bb 2), .inl ((kd 2), 40, .inl (fun _ => 0))), ((bb 3), .inl ((kd 3), 40, .inl (fun _ => 0)))] U.heap ∧ va_K (dC, dI) vwCl [((kd 0), .int), ((kd 1), .int), ((kd 2), .int), ((kd 3), .int)] U ∧ va_D (fun _ => True) [(d0, .inr (2, [.int 0, .ref (bb 0), .ref (bb 1), .ref (bb 2), .ref (bb 3), .int 0, .ref (bb 4), .ref (bb 5), .ref (bb 6), .ref (bb 7), .ref (bb 8), .int 0, .ref (bb 9), .ref (bb 10)])), ((bb 0), .inl ((kd 0), 40, .inl (fun _ => 0))), ((bb 1), .inl ((kd 1), 40, .inl (fun _ => 0))), ((bb 2), .inl ((kd 2), 40, .inl (fun _ => 0))), ((bb 3), .inl ((kd 3), 40, .inl (fun _ => 0)))])) (va_Qi (fun (r : Int32) (u : Unit) => r = 0) (fun (u : Unit) t => va_P (dC, dI) vwCl [] t.heap ∧ va_K (dC, dI) vwCl [] t ∧ va_D (va_A [(d0, .inr (2, [.int 0, .ref (bb 0), .ref (bb 1), .ref (bb 2), .ref (bb 3), .int 0, .ref (bb 4), .ref (bb 5), .ref (bb 6), .ref (bb 7), .ref (bb 8), .int 0, .ref (bb 9), .ref (bb 10)])), ((bb 0), .inl ((kd 0), 40, .inl (fun _ => 0))), ((bb 1), .inl ((kd 1), 40, .inl (fun _ => 0))), ((bb 2), .inl ((kd 2), 40, .inl (fun _ => 0))), ((bb 3), .inl ((kd 3), 40, .inl (fun _ => 0)))] sz) []) (va_A [(d0, .inr (2, [.int 0, .ref (bb 0), .ref (bb 1), .ref (bb 2), .ref (bb 3), .int 0, .ref (bb 4), .ref (bb 5), .ref (bb 6), .ref (bb 7), .ref (bb 8), .int 0, .ref (bb 9), .ref (bb 10)])), ((bb 0), .inl ((kd 0), 40, .inl (fun _ => 0))), ((bb 1), .inl ((kd 1), 40, .inl (fun _ => 0))), ((bb 2), .inl ((kd 2), 40, .inl (fun _ => 0))), ((bb 3), .inl ((kd 3), 40, .inl (fun _ => 0)))] sz)) 0 0 (va_A [(d0, .inr (2, [.int 0, .ref (bb 0), .ref (bb 1), .ref (bb 2), .ref (bb 3), .int 0, .ref (bb 4), .ref (bb 5), .ref (bb 6), .ref (bb 7), .ref (bb 8), .int 0, .ref (bb 9), .ref (bb 10)])), ((bb 0), .inl ((kd 0), 40, .inl (fun _ => 0))), ((bb 1), .inl ((kd 1), 40, .inl (fun _ => 0))), ((bb 2), .inl ((kd 2), 40, .inl (fun _ => 0))), ((bb 3), .inl ((kd 3), 40, .inl (fun _ => 0)))] sz) := by
  refine Met.ofW (cc := cX2_addArc) (maxL := 5) (ret := (some .int)) (by decide) rfl ?_
  intro p e s m args below meth c s₁ B hml hv
  obtain ⟨rfl, hsz, hP, hK, hD0⟩ := hv
  have hx := B.exec
  have hb := B.bytes
  have hr := B.returns
  have hts := atoms_spec (ws := wsPX2_addArc) B.pre
  have hown : s.vm.findClass RX2 = some m.cls := findClass_of_methodNamed B.named
  have hlocks := B.notSynchronized
  subst hsz
  have hD := hD0.self (sz := s.heap.size)
  generalize hAe : va_A [(d0, .inr (2, [.int 0, .ref (bb 0), .ref (bb 1), .ref (bb 2), .ref (bb 3), .int 0, .ref (bb 4), .ref (bb 5), .ref (bb 6), .ref (bb 7), .ref (bb 8), .int 0, .ref (bb 9), .ref (bb 10)])), ((bb 0), .inl ((kd 0), 40, .inl (fun _ => 0))), ((bb 1), .inl ((kd 1), 40, .inl (fun _ => 0))), ((bb 2), .inl ((kd 2), 40, .inl (fun _ => 0))), ((bb 3), .inl ((kd 3), 40, .inl (fun _ => 0)))] s.heap.size = A at hD ⊢
  have hA : ∀ q : Nat, s.heap.size ≤ q → A q := fun q h => by rw [← hAe]; exact Or.inr h
  have hS : va_S A s.heap s.heap [] := va_S.rf
  have hP : va_P (dC, dI) vwCl [(d0, .inr (2, [.int 0, .ref (bb 0), .ref (bb 1), .ref (bb 2), .ref (bb 3), .int 0, .ref (bb 4), .ref (bb 5), .ref (bb 6), .ref (bb 7), .ref (bb 8), .int 0, .ref (bb 9), .ref (bb 10)])), ((bb 0), .inl ((kd 0), 40, .inl (fun _ => 0))), ((bb 1), .inl ((kd 1), 40, .inl (fun _ => 0))), ((bb 2), .inl ((kd 2), 40, .inl (fun _ => 0))), ((bb 3), .inl ((kd 3), 40, .inl (fun _ => 0)))] s.heap := hP
  have hl := lv_entry ([.ref d0, .int qf, .int qt, .int qr, .int qc]) (n := 5) (Nat.le_of_ble_eq_true rfl)
  rw [lg_entry_eq]
  generalize (lg_sl ([.ref d0, .int qf, .int qt, .int qr, .int qc]) ++ List.replicate (5 - (lg_sl ([.ref d0, .int qf, .int qt, .int qr, .int qc])).length) Slot.unset).toArray = ls at hl ⊢
  have hl : lv_has ls 5 [(0, .ref d0), (1, .int qf), (2, .int qt), (3, .int qr), (4, .int qc)] := hl
  refine lv_aload_n hx hb dX2_addArc_0 rfl (lv_at hl 0 rfl) ?_
  refine va_get (D := (dC, dI)) (ci := 2) (v := .ref (bb 0)) (C := RX2) (T := TX2) (N := 14) hx hb hts iwsPX2_addArc_in2 hown hK hP 0 rfl rfl 1 (by decide) (hts (.fieldLink RX2 11 "OptimaWorks$NetDesk" "from" "[I") (by decide +kernel)) (fun _ h9 => h9) rfl dX2_addArc_1 ?_
  refine lv_aload_n hx hb dX2_addArc_4 rfl (lv_at hl 0 rfl) ?_
  refine va_get (D := (dC, dI)) (ci := 2) (v := .int 0) (C := RX2) (T := TX2) (N := 14) hx hb hts iwsPX2_addArc_in2 hown hK hP 0 rfl rfl 0 (by decide) (hts (.fieldLink RX2 45 "OptimaWorks$NetDesk" "arcs" "I") (by decide +kernel)) (fun _ h9 => h9) rfl dX2_addArc_5 ?_
  refine lv_iload_n hx hb dX2_addArc_8 rfl (lv_at hl 1 rfl) ?_
  refine va_iast hx hb hK hP hD hS 1 0 rfl rfl (show ¬ ((0 : Int32) < 0 ∨ 40 ≤ (0 : Int32).toNatClampNeg) by decide) dX2_addArc_9 (fun H locs hP hD hS => ?_)
  have hP : va_P (dC, dI) vwCl [(d0, .inr (2, [.int 0, .ref (bb 0), .ref (bb 1), .ref (bb 2), .ref (bb 3), .int 0, .ref (bb 4), .ref (bb 5), .ref (bb 6), .ref (bb 7), .ref (bb 8), .int 0, .ref (bb 9), .ref (bb 10)])), ((bb 0), .inl ((kd 0), 40, .inl (upd (fun _ => 0) (0 : Int32).toNatClampNeg qf))), ((bb 1), .inl ((kd 1), 40, .inl (fun _ => 0))), ((bb 2), .inl ((kd 2), 40, .inl (fun _ => 0))), ((bb 3), .inl ((kd 3), 40, .inl (fun _ => 0)))] H := hP
  have hD : va_D A [(d0, .inr (2, [.int 0, .ref (bb 0), .ref (bb 1), .ref (bb 2), .ref (bb 3), .int 0, .ref (bb 4), .ref (bb 5), .ref (bb 6), .ref (bb 7), .ref (bb 8), .int 0, .ref (bb 9), .ref (bb 10)])), ((bb 0), .inl ((kd 0), 40, .inl (upd (fun _ => 0) (0 : Int32).toNatClampNeg qf))), ((bb 1), .inl ((kd 1), 40, .inl (fun _ => 0))), ((bb 2), .inl ((kd 2), 40, .inl (fun _ => 0))), ((bb 3), .inl ((kd 3), 40, .inl (fun _ => 0)))] := hD
  refine lv_aload_n hx hb dX2_addArc_10 rfl (lv_at hl 0 rfl) ?_
  refine va_get (D := (dC, dI)) (ci := 2) (v := .ref (bb 1)) (C := RX2) (T := TX2) (N := 14) hx hb hts iwsPX2_addArc_in2 hown hK hP 0 rfl rfl 2 (by decide) (hts (.fieldLink RX2 15 "OptimaWorks$NetDesk" "to" "[I") (by decide +kernel)) (fun _ h9 => h9) rfl dX2_addArc_11 ?_
  refine lv_aload_n hx hb dX2_addArc_14 rfl (lv_at hl 0 rfl) ?_
  refine va_get (D := (dC, dI)) (ci := 2) (v := .int 0) (C := RX2) (T := TX2) (N := 14) hx hb hts iwsPX2_addArc_in2 hown hK hP 0 rfl rfl 0 (by decide) (hts (.fieldLink RX2 45 "OptimaWorks$NetDesk" "arcs" "I") (by decide +kernel)) (fun _ h9 => h9) rfl dX2_addArc_15 ?_
  refine lv_iload_n hx hb dX2_addArc_18 rfl (lv_at hl 2 rfl) ?_
  refine va_iast hx hb hK hP hD hS 2 1 rfl rfl (show ¬ ((0 : Int32) < 0 ∨ 40 ≤ (0 : Int32).toNatClampNeg) by decide) dX2_addArc_19 (fun H locs hP hD hS => ?_)
  have hP : va_P (dC, dI) vwCl [(d0, .inr (2, [.int 0, .ref (bb 0), .ref (bb 1), .ref (bb 2), .ref (bb 3), .int 0, .ref (bb 4), .ref (bb 5), .ref (bb 6), .ref (bb 7), .ref (bb 8), .int 0, .ref (bb 9), .ref (bb 10)])), ((bb 0), .inl ((kd 0), 40, .inl (upd (fun _ => 0) (0 : Int32).toNatClampNeg qf))), ((bb 1), .inl ((kd 1), 40, .inl (upd (fun _ => 0) (0 : Int32).toNatClampNeg qt))), ((bb 2), .inl ((kd 2), 40, .inl (fun _ => 0))), ((bb 3), .inl ((kd 3), 40, .inl (fun _ => 0)))] H := hP
  have hD : va_D A [(d0, .inr (2, [.int 0, .ref (bb 0), .ref (bb 1), .ref (bb 2), .ref (bb 3), .int 0, .ref (bb 4), .ref (bb 5), .ref (bb 6), .ref (bb 7), .ref (bb 8), .int 0, .ref (bb 9), .ref (bb 10)])), ((bb 0), .inl ((kd 0), 40, .inl (upd (fun _ => 0) (0 : Int32).toNatClampNeg qf))), ((bb 1), .inl ((kd 1), 40, .inl (upd (fun _ => 0) (0 : Int32).toNatClampNeg qt))), ((bb 2), .inl ((kd 2), 40, .inl (fun _ => 0))), ((bb 3), .inl ((kd 3), 40, .inl (fun _ => 0)))] := hD
  refine lv_aload_n hx hb dX2_addArc_20 rfl (lv_at hl 0 rfl) ?_
  refine va_get (D := (dC, dI)) (ci := 2) (v := .ref (bb 2)) (C := RX2) (T := TX2) (N := 14) hx hb hts iwsPX2_addArc_in2 hown hK hP 0 rfl rfl 3 (by decide) (hts (.fieldLink RX2 18 "OptimaWorks$NetDesk" "room" "[I") (by decide +kernel)) (fun _ h9 => h9) rfl dX2_addArc_21 ?_
  refine lv_aload_n hx hb dX2_addArc_24 rfl (lv_at hl 0 rfl) ?_
  refine va_get (D := (dC, dI)) (ci := 2) (v := .int 0) (C := RX2) (T := TX2) (N := 14) hx hb hts iwsPX2_addArc_in2 hown hK hP 0 rfl rfl 0 (by decide) (hts (.fieldLink RX2 45 "OptimaWorks$NetDesk" "arcs" "I") (by decide +kernel)) (fun _ h9 => h9) rfl dX2_addArc_25 ?_
  refine lv_iload_n hx hb dX2_addArc_28 rfl (lv_at hl 3 rfl) ?_
  refine va_iast hx hb hK hP hD hS 3 2 rfl rfl (show ¬ ((0 : Int32) < 0 ∨ 40 ≤ (0 : Int32).toNatClampNeg) by decide) dX2_addArc_29 (fun H locs hP hD hS => ?_)
  have hP : va_P (dC, dI) vwCl [(d0, .inr (2, [.int 0, .ref (bb 0), .ref (bb 1), .ref (bb 2), .ref (bb 3), .int 0, .ref (bb 4), .ref (bb 5), .ref (bb 6), .ref (bb 7), .ref (bb 8), .int 0, .ref (bb 9), .ref (bb 10)])), ((bb 0), .inl ((kd 0), 40, .inl (upd (fun _ => 0) (0 : Int32).toNatClampNeg qf))), ((bb 1), .inl ((kd 1), 40, .inl (upd (fun _ => 0) (0 : Int32).toNatClampNeg qt))), ((bb 2), .inl ((kd 2), 40, .inl (upd (fun _ => 0) (0 : Int32).toNatClampNeg qr))), ((bb 3), .inl ((kd 3), 40, .inl (fun _ => 0)))] H := hP
  have hD : va_D A [(d0, .inr (2, [.int 0, .ref (bb 0), .ref (bb 1), .ref (bb 2), .ref (bb 3), .int 0, .ref (bb 4), .ref (bb 5), .ref (bb 6), .ref (bb 7), .ref (bb 8), .int 0, .ref (bb 9), .ref (bb 10)])), ((bb 0), .inl ((kd 0), 40, .inl (upd (fun _ => 0) (0 : Int32).toNatClampNeg qf))), ((bb 1), .inl ((kd 1), 40, .inl (upd (fun _ => 0) (0 : Int32).toNatClampNeg qt))), ((bb 2), .inl ((kd 2), 40, .inl (upd (fun _ => 0) (0 : Int32).toNatClampNeg qr))), ((bb 3), .inl ((kd 3), 40, .inl (fun _ => 0)))] := hD
  refine lv_aload_n hx hb dX2_addArc_30 rfl (lv_at hl 0 rfl) ?_
  refine va_get (D := (dC, dI)) (ci := 2) (v := .ref (bb 3)) (C := RX2) (T := TX2) (N := 14) hx hb hts iwsPX2_addArc_in2 hown hK hP 0 rfl rfl 4 (by decide) (hts (.fieldLink RX2 21 "OptimaWorks$NetDesk" "cost" "[I") (by decide +kernel)) (fun _ h9 => h9) rfl dX2_addArc_31 ?_
  refine lv_aload_n hx hb dX2_addArc_34 rfl (lv_at hl 0 rfl) ?_
  refine va_get (D := (dC, dI)) (ci := 2) (v := .int 0) (C := RX2) (T := TX2) (N := 14) hx hb hts iwsPX2_addArc_in2 hown hK hP 0 rfl rfl 0 (by decide) (hts (.fieldLink RX2 45 "OptimaWorks$NetDesk" "arcs" "I") (by decide +kernel)) (fun _ h9 => h9) rfl dX2_addArc_35 ?_
  refine lv_iload hx hb dX2_addArc_38 (lv_at hl 4 rfl) ?_
  refine va_iast hx hb hK hP hD hS 4 3 rfl rfl (show ¬ ((0 : Int32) < 0 ∨ 40 ≤ (0 : Int32).toNatClampNeg) by decide) dX2_addArc_40 (fun H locs hP hD hS => ?_)
  have hP : va_P (dC, dI) vwCl [(d0, .inr (2, [.int 0, .ref (bb 0), .ref (bb 1), .ref (bb 2), .ref (bb 3), .int 0, .ref (bb 4), .ref (bb 5), .ref (bb 6), .ref (bb 7), .ref (bb 8), .int 0, .ref (bb 9), .ref (bb 10)])), ((bb 0), .inl ((kd 0), 40, .inl (upd (fun _ => 0) (0 : Int32).toNatClampNeg qf))), ((bb 1), .inl ((kd 1), 40, .inl (upd (fun _ => 0) (0 : Int32).toNatClampNeg qt))), ((bb 2), .inl ((kd 2), 40, .inl (upd (fun _ => 0) (0 : Int32).toNatClampNeg qr))), ((bb 3), .inl ((kd 3), 40, .inl (upd (fun _ => 0) (0 : Int32).toNatClampNeg qc)))] H := hP
  have hD : va_D A [(d0, .inr (2, [.int 0, .ref (bb 0), .ref (bb 1), .ref (bb 2), .ref (bb 3), .int 0, .ref (bb 4), .ref (bb 5), .ref (bb 6), .ref (bb 7), .ref (bb 8), .int 0, .ref (bb 9), .ref (bb 10)])), ((bb 0), .inl ((kd 0), 40, .inl (upd (fun _ => 0) (0 : Int32).toNatClampNeg qf))), ((bb 1), .inl ((kd 1), 40, .inl (upd (fun _ => 0) (0 : Int32).toNatClampNeg qt))), ((bb 2), .inl ((kd 2), 40, .inl (upd (fun _ => 0) (0 : Int32).toNatClampNeg qr))), ((bb 3), .inl ((kd 3), 40, .inl (upd (fun _ => 0) (0 : Int32).toNatClampNeg qc)))] := hD
  refine lv_aload_n hx hb dX2_addArc_41 rfl (lv_at hl 0 rfl) ?_
  refine lv_dup hx hb dX2_addArc_42 rfl ?_
  refine va_get (D := (dC, dI)) (ci := 2) (v := .int 0) (C := RX2) (T := TX2) (N := 14) hx hb hts iwsPX2_addArc_in2 hown hK hP 0 rfl rfl 0 (by decide) (hts (.fieldLink RX2 45 "OptimaWorks$NetDesk" "arcs" "I") (by decide +kernel)) (fun _ h9 => h9) rfl dX2_addArc_43 ?_
  refine lv_iconst (v := 1) hx hb dX2_addArc_46 (by decide) ?_
  refine lv_iadd hx hb dX2_addArc_47 ?_
  refine lv_topi (fun y1 hy1 => ?_)
  obtain rfl : 1 = y1 := (hy1.trans (by decide)).symm
  refine va_put (D := (dC, dI)) (ci := 2) (v := .int 1) (ty := .int) (C := RX2) (T := TX2) (N := 14) hx hb hts iwsPX2_addArc_in2 tyX2 tyX2_ok nmX2 hown hK hP hD hS 0 rfl rfl 0 (by decide) (hts (.fieldLink RX2 45 "OptimaWorks$NetDesk" "arcs" "I") (by decide +kernel)) (fun _ h9 => h9) rfl (by decide +kernel) rfl rfl (Nat.le_of_ble_eq_true rfl) dX2_addArc_48 (fun H locs hP hD hS => ?_)
  have hP : va_P (dC, dI) vwCl [(d0, .inr (2, [.int 1, .ref (bb 0), .ref (bb 1), .ref (bb 2), .ref (bb 3), .int 0, .ref (bb 4), .ref (bb 5), .ref (bb 6), .ref (bb 7), .ref (bb 8), .int 0, .ref (bb 9), .ref (bb 10)])), ((bb 0), .inl ((kd 0), 40, .inl (upd (fun _ => 0) (0 : Int32).toNatClampNeg qf))), ((bb 1), .inl ((kd 1), 40, .inl (upd (fun _ => 0) (0 : Int32).toNatClampNeg qt))), ((bb 2), .inl ((kd 2), 40, .inl (upd (fun _ => 0) (0 : Int32).toNatClampNeg qr))), ((bb 3), .inl ((kd 3), 40, .inl (upd (fun _ => 0) (0 : Int32).toNatClampNeg qc)))] H := hP
  have hD : va_D A [(d0, .inr (2, [.int 1, .ref (bb 0), .ref (bb 1), .ref (bb 2), .ref (bb 3), .int 0, .ref (bb 4), .ref (bb 5), .ref (bb 6), .ref (bb 7), .ref (bb 8), .int 0, .ref (bb 9), .ref (bb 10)])), ((bb 0), .inl ((kd 0), 40, .inl (upd (fun _ => 0) (0 : Int32).toNatClampNeg qf))), ((bb 1), .inl ((kd 1), 40, .inl (upd (fun _ => 0) (0 : Int32).toNatClampNeg qt))), ((bb 2), .inl ((kd 2), 40, .inl (upd (fun _ => 0) (0 : Int32).toNatClampNeg qr))), ((bb 3), .inl ((kd 3), 40, .inl (upd (fun _ => 0) (0 : Int32).toNatClampNeg qc)))] := hD
  refine lv_aload_n hx hb dX2_addArc_51 rfl (lv_at hl 0 rfl) ?_
  refine va_get (D := (dC, dI)) (ci := 2) (v := .int 1) (C := RX2) (T := TX2) (N := 14) hx hb hts iwsPX2_addArc_in2 hown hK hP 0 rfl rfl 0 (by decide) (hts (.fieldLink RX2 45 "OptimaWorks$NetDesk" "arcs" "I") (by decide +kernel)) (fun _ h9 => h9) rfl dX2_addArc_52 ?_
  refine lv_iconst (v := 1) hx hb dX2_addArc_55 (by decide) ?_
  refine lv_isub hx hb dX2_addArc_56 ?_
  refine lv_topi (fun y2 hy2 => ?_)
  obtain rfl : 0 = y2 := (hy2.trans (by decide)).symm
  refine W.widen (k := 0) (n := 0) (by decide +kernel) (by decide +kernel) ?_
  exact W.iret (v := 0) hx hb hr (fun t ht hW => ⟨⟨0, (), rfl, by (first | rfl | assumption | trivial | omega | (simp []; done) | (simp; omega)), by rw [ht]; exact hP.sub [] rfl, va_K.moved hW.alike (hK.sub [] rfl), hD.sub [] (by decide) rfl⟩, hS.F ht⟩) hS.2.2 dX2_addArc_57
theorem dX11_arc_0 : decode cX11_arc 0 = .ok (.iload_n 3, 1) := by decide +kernel
theorem dX11_arc_1 : decode cX11_arc 1 = .ok (.ifCond .lt 27, 3) := by decide +kernel
theorem dX11_arc_4 : decode cX11_arc 4 = .ok (.iload_n 3, 1) := by decide +kernel
theorem dX11_arc_5 : decode cX11_arc 5 = .ok (.sipush 1000, 3) := by decide +kernel
theorem dX11_arc_8 : decode cX11_arc 8 = .ok (.if_icmp .gt 20, 3) := by decide +kernel
theorem dX11_arc_11 : decode cX11_arc 11 = .ok (.iload 4, 2) := by decide +kernel
theorem dX11_arc_13 : decode cX11_arc 13 = .ok (.ifCond .lt 15, 3) := by decide +kernel
theorem dX11_arc_16 : decode cX11_arc 16 = .ok (.iload 4, 2) := by decide +kernel
theorem dX11_arc_18 : decode cX11_arc 18 = .ok (.sipush 1000, 3) := by decide +kernel
theorem dX11_arc_21 : decode cX11_arc 21 = .ok (.if_icmp .gt 7, 3) := by decide +kernel
theorem dX11_arc_24 : decode cX11_arc 24 = .ok (.iconst 1, 1) := by decide +kernel
theorem dX11_arc_25 : decode cX11_arc 25 = .ok (.goto 4, 3) := by decide +kernel
theorem dX11_arc_28 : decode cX11_arc 28 = .ok (.iconst 0, 1) := by decide +kernel
theorem dX11_arc_29 : decode cX11_arc 29 = .ok (.istore 5, 2) := by decide +kernel
theorem dX11_arc_31 : decode cX11_arc 31 = .ok (.iload_n 1, 1) := by decide +kernel
theorem dX11_arc_32 : decode cX11_arc 32 = .ok (.invokestatic 422, 3) := by decide +kernel
theorem dX11_arc_35 : decode cX11_arc 35 = .ok (.ifCond .eq 20, 3) := by decide +kernel
theorem dX11_arc_38 : decode cX11_arc 38 = .ok (.iload_n 2, 1) := by decide +kernel
theorem dX11_arc_39 : decode cX11_arc 39 = .ok (.invokestatic 422, 3) := by decide +kernel
theorem dX11_arc_42 : decode cX11_arc 42 = .ok (.ifCond .eq 13, 3) := by decide +kernel
theorem dX11_arc_45 : decode cX11_arc 45 = .ok (.iload 5, 2) := by decide +kernel
theorem dX11_arc_47 : decode cX11_arc 47 = .ok (.ifCond .eq 8, 3) := by decide +kernel
theorem dX11_arc_50 : decode cX11_arc 50 = .ok (.iload_n 1, 1) := by decide +kernel
theorem dX11_arc_51 : decode cX11_arc 51 = .ok (.iload_n 2, 1) := by decide +kernel
theorem dX11_arc_52 : decode cX11_arc 52 = .ok (.if_icmp .ne 11, 3) := by decide +kernel
theorem dX11_arc_55 : decode cX11_arc 55 = .ok (.new 77, 3) := by decide +kernel
theorem dX11_arc_58 : decode cX11_arc 58 = .ok (.dup, 1) := by decide +kernel
theorem dX11_arc_59 : decode cX11_arc 59 = .ok (.invokespecial 79, 3) := by decide +kernel
theorem dX11_arc_62 : decode cX11_arc 62 = .ok (.athrow, 1) := by decide +kernel
theorem dX11_arc_63 : decode cX11_arc 63 = .ok (.aload_n 0, 1) := by decide +kernel
theorem dX11_arc_64 : decode cX11_arc 64 = .ok (.invokevirtual 425, 3) := by decide +kernel
theorem dX11_arc_67 : decode cX11_arc 67 = .ok (.getfield 429, 3) := by decide +kernel
theorem dX11_arc_70 : decode cX11_arc 70 = .ok (.bipush 40, 2) := by decide +kernel
theorem dX11_arc_72 : decode cX11_arc 72 = .ok (.if_icmp .lt 11, 3) := by decide +kernel
theorem dX11_arc_83 : decode cX11_arc 83 = .ok (.aload_n 0, 1) := by decide +kernel
theorem dX11_arc_84 : decode cX11_arc 84 = .ok (.getfield 415, 3) := by decide +kernel
theorem dX11_arc_87 : decode cX11_arc 87 = .ok (.iload_n 1, 1) := by decide +kernel
theorem dX11_arc_88 : decode cX11_arc 88 = .ok (.iload_n 2, 1) := by decide +kernel
theorem dX11_arc_89 : decode cX11_arc 89 = .ok (.iload_n 3, 1) := by decide +kernel
theorem dX11_arc_90 : decode cX11_arc 90 = .ok (.iload 4, 2) := by decide +kernel
theorem dX11_arc_92 : decode cX11_arc 92 = .ok (.invokevirtual 432, 3) := by decide +kernel
theorem dX11_arc_95 : decode cX11_arc 95 = .ok (.ireturn, 1) := by decide +kernel
def wsPX11_arc : List Cond := .code yX11_arc cX11_arc 6 (some .int) :: ([.classLink RX11 77 "java/lang/IllegalArgumentException", .initialized "java/lang/IllegalArgumentException", .fieldLink RX11 429 "OptimaWorks$NetDesk" "arcs" "I", .fieldLink RX11 415 "OptimaWorks" "nets" "LOptimaWorks$NetDesk;"] ++ wsX20 ++ wsX110 ++ (va_wsS RX11 422 yX11_isNode wsPX11_isNode) ++ ((vx_at0 RX11 79 "java/lang/IllegalArgumentException" ["java/lang/RuntimeException", "java/lang/Exception"]).filter goodWord) ++ (wsV RX11 425 RX11 yX11_theNets wsPX11_theNets) ++ (wsV RX11 432 RX2 yX2_addArc wsPX2_addArc))
theorem iwsPX11_arc_in2 : ∀ w ∈ wsX20, w ∈ wsPX11_arc := fun _ h => List.mem_cons_of_mem _ (List.mem_append_left _ (List.mem_append_left _ (List.mem_append_left _ (List.mem_append_left _ (List.mem_append_left _ (List.mem_append_right _ h))))))
theorem iwsPX11_arc_in11 : ∀ w ∈ wsX110, w ∈ wsPX11_arc := fun _ h => List.mem_cons_of_mem _ (List.mem_append_left _ (List.mem_append_left _ (List.mem_append_left _ (List.mem_append_left _ (List.mem_append_right _ h)))))
theorem gwsPX11_arc_0 : GoodIn wsPX11_arc (va_wsS RX11 422 yX11_isNode wsPX11_isNode) := goodIn_sub (fun _ h => List.mem_cons_of_mem _ (List.mem_append_left _ (List.mem_append_left _ (List.mem_append_left _ (List.mem_append_right _ h))))) (by decide +kernel)
theorem gwsPX11_arc_2 : GoodIn wsPX11_arc (wsV RX11 425 RX11 yX11_theNets wsPX11_theNets) := goodIn_sub (fun _ h => List.mem_cons_of_mem _ (List.mem_append_left _ (List.mem_append_right _ h))) (by decide +kernel)
theorem gwsPX11_arc_3 : GoodIn wsPX11_arc (wsV RX11 432 RX2 yX2_addArc wsPX2_addArc) := goodIn_sub (fun _ h => List.mem_cons_of_mem _ (List.mem_append_right _ h)) (by decide +kernel)
set_option maxHeartbeats 4000000 in
set_option maxRecDepth 100000 in
/-- arc(..) -/
theorem p_X11_arc (l : Launch) (hst : l.stackTraces = false) (dC : Nat → ClassId) (dI : Nat → Nat → Nat) (h0 : Nat) (a : Nat → Nat) (qf : Int32) (qt : Int32) (qr : Int32) (qc : Int32) (sz : Nat) : vx_Met l yX11_arc wsPX11_arc ({ frames := 6, cells := 13, slots := 1484, locals := 81 }) (va_Pc [.ref h0, .int qf, .int qt, .int qr, .int qc] (fun U => U.heap.size = sz ∧ va_P (dC, dI) vwCl [(h0, .inr (11, [.ref (a 0), .ref (a 1), .ref (a 3), .ref (a 14), .int 0, .null, .null, .null, .null, .null, .null]))] U.heap ∧ va_K (dC, dI) vwCl [] U ∧ va_D (fun _ => True) [(h0, .inr (11, [.ref (a 0), .ref (a 1), .ref (a 3), .ref (a 14), .int 0, .null, .null, .null, .null, .null, .null]))] ∧ vx_Zq Bundle.tN "UNASSIGNED_STACK" Bundle.steD (va_A [(h0, .inr (11, [.ref (a 0), .ref (a 1), .ref (a 3), .ref (a 14), .int 0, .null, .null, .null, .null, .null, .null]))] sz) U U.heap ∧ vx_Zq Bundle.tN "SUPPRESSED_SENTINEL" Bundle.listD (va_A [(h0, .inr (11, [.ref (a 0), .ref (a 1), .ref (a 3), .ref (a 14), .int 0, .null, .null, .null, .null, .null, .null]))] sz) U U.heap ∧ (∀ w ∈ ngX11_79, va_Nw w U) ∧ va_Nw (.methodLinkNest RX11 421 yX2_init RX11) U)) (va_Qi (fun (r : Int32) (u : Unit) => r = 0 ∧ (0 ≤ (qf).toInt ∧ (qf).toInt < 12 ∧ 0 ≤ (qt).toInt ∧ (qt).toInt < 12 ∧ ¬ (qf).toInt = (qt).toInt ∧ 0 ≤ (qr).toInt ∧ (qr).toInt ≤ 1000 ∧ 0 ≤ (qc).toInt ∧ (qc).toInt ≤ 1000)) (fun (u : Unit) t => va_P (dC, dI) vwCl [] t.heap ∧ va_K (dC, dI) vwCl [] t ∧ va_D (va_A [(h0, .inr (11, [.ref (a 0), .ref (a 1), .ref (a 3), .ref (a 14), .int 0, .null, .null, .null, .null, .null, .null]))] sz) []) (va_A [(h0, .inr (11, [.ref (a 0), .ref (a 1), .ref (a 3), .ref (a 14), .int 0, .null, .null, .null, .null, .null, .null]))] sz)) (vx_X (fun n : String => (n = "java/lang/IllegalArgumentException" ∧ ((qf).toInt < 0 ∨ 12 ≤ (qf).toInt ∨ (qt).toInt < 0 ∨ 12 ≤ (qt).toInt ∨ (qf).toInt = (qt).toInt ∨ (qr).toInt < 0 ∨ 1000 < (qr).toInt ∨ (qc).toInt < 0 ∨ 1000 < (qc).toInt))) (fun E n t => E = n) (va_A [(h0, .inr (11, [.ref (a 0), .ref (a 1), .ref (a 3), .ref (a 14), .int 0, .null, .null, .null, .null, .null, .null]))] sz)) 13 1484 (va_A [(h0, .inr (11, [.ref (a 0), .ref (a 1), .ref (a 3), .ref (a 14), .int 0, .null, .null, .null, .null, .null, .null]))] sz) := by
  refine vx_ofW (cc := cX11_arc) (maxL := 6) (ret := (some .int)) (by decide) rfl ?_
  intro p e s m args below meth c s₁ B hml htab hv
  obtain ⟨rfl, hsz, hP, hK, hD0, hU, hN, hngX11_79, hnX11_421⟩ := hv
  have hx := B.exec
  have hb := B.bytes
  have hr := B.returns
  have hts := atoms_spec (ws := wsPX11_arc) B.pre
  have hown : s.vm.findClass RX11 = some m.cls := findClass_of_methodNamed B.named
  have hlocks := B.notSynchronized
  subst hsz
  have hD := hD0.self (sz := s.heap.size)
  generalize hAe : va_A [(h0, .inr (11, [.ref (a 0), .ref (a 1), .ref (a 3), .ref (a 14), .int 0, .null, .null, .null, .null, .null, .null]))] s.heap.size = A at hD hU hN ⊢
  have hA : ∀ q : Nat, s.heap.size ≤ q → A q := fun q h => by rw [← hAe]; exact Or.inr h
  have hS : va_S A s.heap s.heap [] := va_S.rf
  have hP : va_P (dC, dI) vwCl [(h0, .inr (11, [.ref (a 0), .ref (a 1), .ref (a 3), .ref (a 14), .int 0, .null, .null, .null, .null, .null, .null]))] s.heap := hP
  have hl := lv_entry ([.ref h0, .int qf, .int qt, .int qr, .int qc]) (n := 6) (Nat.le_of_ble_eq_true rfl)
  rw [lg_entry_eq]
  generalize (lg_sl ([.ref h0, .int qf, .int qt, .int qr, .int qc]) ++ List.replicate (6 - (lg_sl ([.ref h0, .int qf, .int qt, .int qr, .int qc])).length) Slot.unset).toArray = ls at hl ⊢
  have hl : lv_has ls 6 [(0, .ref h0), (1, .int qf), (2, .int qt), (3, .int qr), (4, .int qc)] := hl
  refine lv_iload_n hx hb dX11_arc_0 rfl (lv_at hl 3 rfl) ?_
  refine lv_if_lt (tgt := 28) hx hb dX11_arc_1 (by decide) (fun c_1 => ?_) (fun c_1 => ?_)
  · have t_1 : (qr).toInt < 0 := toI_lt c_1 rfl (by decide)
    refine lv_iconst (v := 0) hx hb dX11_arc_28 (by decide) ?_
    refine lv_istore (lv' := [(5, .int 0), (0, .ref h0), (1, .int qf), (2, .int qt), (3, .int qr), (4, .int qc)]) hx hb dX11_arc_29 hl (by decide) rfl (fun ls hl => ?_)
    refine lv_iload_n hx hb dX11_arc_31 rfl (lv_at hl 2 rfl) ?_
    have hPc := hP.sub (ws' := []) [] rfl
    have hDc := hD.sub (ws' := []) [] (by decide) rfl
    have hKc := hK.sub (tys' := []) [] rfl
    have hFc := va_free (wc := []) hD hS hA [] rfl
    refine va_calli (va_runS (As := [.int qf]) (rest := []) ⟨hx, hb, hml, hown, hts⟩ (p_X11_isNode l dC dI qf s.heap.size) (va_cwS 1 hts gwsPX11_arc_0 rfl rfl rfl (by decide +kernel) ⟨by decide +kernel, by decide +kernel⟩) ⟨fun a U g mk q => by obtain ⟨q0, q1, qP, qK, qD⟩ := q; exact ⟨q0, q1, qP, va_K.moved (u := U) (U := U.calling g mk a) (Vm.Alike.refl U.vm) qK, qD⟩, fun U hU9 hW => ⟨rfl, by rw [hU9], by rw [hU9]; exact hPc, va_K.moved hW.alike hKc, hDc.weaken (fun _ _ _ _ => trivial)⟩⟩ rfl rfl hl.1 rfl (lv_room (Nat.le_of_ble_eq_true rfl)) dX11_arc_32 ⟨by decide +kernel, by decide +kernel⟩) hS (fun q _ h => hFc q h) hFc (fun r32 u t H1 locs ht hvm hw hB hz1 hk1 hS => ?_)
    obtain ⟨hP1, hK1, hD1⟩ := hB
    rw [ht] at hP1
    have hK1 := va_K.moved hvm.symm hK1
    obtain ⟨hP, hD⟩ := va_join (wr := [(h0, .inr (11, [.ref (a 0), .ref (a 1), .ref (a 3), .ref (a 14), .int 0, .null, .null, .null, .null, .null, .null]))]) (w1 := []) hP hD [] [0] rfl rfl (by decide) (by decide) hk1 hFc hP1 hD1
    generalize H1 = H at hP hS ⊢
    have hP : va_P (dC, dI) vwCl [(h0, .inr (11, [.ref (a 0), .ref (a 1), .ref (a 3), .ref (a 14), .int 0, .null, .null, .null, .null, .null, .null]))] H := hP
    have hD : va_D A [(h0, .inr (11, [.ref (a 0), .ref (a 1), .ref (a 3), .ref (a 14), .int 0, .null, .null, .null, .null, .null, .null]))] := hD
    rcases hw with ⟨rfl, f32_0⟩ | ⟨rfl, f32_0⟩
    · refine lv_if_eq (tgt := 55) hx hb dX11_arc_35 (by decide) (fun c9 => absurd c9 (by decide)) (fun _ => ?_)
      refine lv_iload_n hx hb dX11_arc_38 rfl (lv_at hl 3 rfl) ?_
      have hPc := hP.sub (ws' := []) [] rfl
      have hDc := hD.sub (ws' := []) [] (by decide) rfl
      have hKc := hK.sub (tys' := []) [] rfl
      have hFc := va_free (wc := []) hD hS hA [] rfl
      refine va_calli (va_runS (As := [.int qt]) (rest := []) ⟨hx, hb, hml, hown, hts⟩ (p_X11_isNode l dC dI qt H.size) (va_cwS 1 hts gwsPX11_arc_0 rfl rfl rfl (by decide +kernel) ⟨by decide +kernel, by decide +kernel⟩) ⟨fun a U g mk q => by obtain ⟨q0, q1, qP, qK, qD⟩ := q; exact ⟨q0, q1, qP, va_K.moved (u := U) (U := U.calling g mk a) (Vm.Alike.refl U.vm) qK, qD⟩, fun U hU9 hW => ⟨rfl, by rw [hU9], by rw [hU9]; exact hPc, va_K.moved hW.alike hKc, hDc.weaken (fun _ _ _ _ => trivial)⟩⟩ rfl rfl hl.1 rfl (lv_room (Nat.le_of_ble_eq_true rfl)) dX11_arc_39 ⟨by decide +kernel, by decide +kernel⟩) hS (fun q _ h => hFc q h) hFc (fun r39 u t H1 locs ht hvm hw hB hz1 hk1 hS => ?_)
      obtain ⟨hP1, hK1, hD1⟩ := hB
      rw [ht] at hP1
      have hK1 := va_K.moved hvm.symm hK1
      obtain ⟨hP, hD⟩ := va_join (wr := [(h0, .inr (11, [.ref (a 0), .ref (a 1), .ref (a 3), .ref (a 14), .int 0, .null, .null, .null, .null, .null, .null]))]) (w1 := []) hP hD [] [0] rfl rfl (by decide) (by decide) hk1 hFc hP1 hD1
      generalize H1 = H at hP hS ⊢
      have hP : va_P (dC, dI) vwCl [(h0, .inr (11, [.ref (a 0), .ref (a 1), .ref (a 3), .ref (a 14), .int 0, .null, .null, .null, .null, .null, .null]))] H := hP
      have hD : va_D A [(h0, .inr (11, [.ref (a 0), .ref (a 1), .ref (a 3), .ref (a 14), .int 0, .null, .null, .null, .null, .null, .null]))] := hD
      rcases hw with ⟨rfl, f39_0⟩ | ⟨rfl, f39_0⟩
      · refine lv_if_eq (tgt := 55) hx hb dX11_arc_42 (by decide) (fun c9 => absurd c9 (by decide)) (fun _ => ?_)
        refine lv_iload hx hb dX11_arc_45 (lv_at hl 0 rfl) ?_
        refine lv_if_eq (tgt := 55) hx hb dX11_arc_47 (by decide) (fun _ => ?_) (fun c9 => absurd (by decide) c9)
        exact vx_throw0 (own := RX11) (cls := "java/lang/IllegalArgumentException") (names := ["java/lang/RuntimeException", "java/lang/Exception"]) (ik := 77) (ic := 79) (A := A) hx hb hst hown (by decide +kernel) (by decide +kernel) (hts (.classLink RX11 77 "java/lang/IllegalArgumentException") (by decide +kernel)) (hts (.initialized "java/lang/IllegalArgumentException") (by decide +kernel)) (vx_hat (B := ngX11_79) (fun w h => hts w (List.mem_cons_of_mem _ (List.mem_append_left _ (List.mem_append_left _ (List.mem_append_right _ h))))) (fun _ h => h) (fun w h => va_Nw.use (ngX11_79_ot w h) (hngX11_79 w h))) (by decide +kernel) hU hN hS (by rw [hml]; exact hl.1) dX11_arc_55 dX11_arc_58 dX11_arc_59 dX11_arc_62 (fun x hx9 => (htab x hx9).elim) (by decide +kernel) (Nat.le_of_ble_eq_true rfl) (by decide +kernel) (by decide +kernel) hlocks (fun t hvm hz hk => ⟨"java/lang/IllegalArgumentException", ⟨rfl, by omega⟩, rfl, ⟨Nat.le_trans hS.1 hz, fun q h1 h2 => (hk q (Nat.lt_of_lt_of_le h1 hS.1)).trans (hS.2.1 q h1 h2)⟩⟩) hS.2.2 (by decide +kernel) (by decide +kernel)
      · refine lv_if_eq (tgt := 55) hx hb dX11_arc_42 (by decide) (fun _ => ?_) (fun c9 => absurd (by decide) c9)
        exact vx_throw0 (own := RX11) (cls := "java/lang/IllegalArgumentException") (names := ["java/lang/RuntimeException", "java/lang/Exception"]) (ik := 77) (ic := 79) (A := A) hx hb hst hown (by decide +kernel) (by decide +kernel) (hts (.classLink RX11 77 "java/lang/IllegalArgumentException") (by decide +kernel)) (hts (.initialized "java/lang/IllegalArgumentException") (by decide +kernel)) (vx_hat (B := ngX11_79) (fun w h => hts w (List.mem_cons_of_mem _ (List.mem_append_left _ (List.mem_append_left _ (List.mem_append_right _ h))))) (fun _ h => h) (fun w h => va_Nw.use (ngX11_79_ot w h) (hngX11_79 w h))) (by decide +kernel) hU hN hS (by rw [hml]; exact hl.1) dX11_arc_55 dX11_arc_58 dX11_arc_59 dX11_arc_62 (fun x hx9 => (htab x hx9).elim) (by decide +kernel) (Nat.le_of_ble_eq_true rfl) (by decide +kernel) (by decide +kernel) hlocks (fun t hvm hz hk => ⟨"java/lang/IllegalArgumentException", ⟨rfl, by omega⟩, rfl, ⟨Nat.le_trans hS.1 hz, fun q h1 h2 => (hk q (Nat.lt_of_lt_of_le h1 hS.1)).trans (hS.2.1 q h1 h2)⟩⟩) hS.2.2 (by decide +kernel) (by decide +kernel)
    · refine lv_if_eq (tgt := 55) hx hb dX11_arc_35 (by decide) (fun _ => ?_) (fun c9 => absurd (by decide) c9)
      exact vx_throw0 (own := RX11) (cls := "java/lang/IllegalArgumentException") (names := ["java/lang/RuntimeException", "java/lang/Exception"]) (ik := 77) (ic := 79) (A := A) hx hb hst hown (by decide +kernel) (by decide +kernel) (hts (.classLink RX11 77 "java/lang/IllegalArgumentException") (by decide +kernel)) (hts (.initialized "java/lang/IllegalArgumentException") (by decide +kernel)) (vx_hat (B := ngX11_79) (fun w h => hts w (List.mem_cons_of_mem _ (List.mem_append_left _ (List.mem_append_left _ (List.mem_append_right _ h))))) (fun _ h => h) (fun w h => va_Nw.use (ngX11_79_ot w h) (hngX11_79 w h))) (by decide +kernel) hU hN hS (by rw [hml]; exact hl.1) dX11_arc_55 dX11_arc_58 dX11_arc_59 dX11_arc_62 (fun x hx9 => (htab x hx9).elim) (by decide +kernel) (Nat.le_of_ble_eq_true rfl) (by decide +kernel) (by decide +kernel) hlocks (fun t hvm hz hk => ⟨"java/lang/IllegalArgumentException", ⟨rfl, by omega⟩, rfl, ⟨Nat.le_trans hS.1 hz, fun q h1 h2 => (hk q (Nat.lt_of_lt_of_le h1 hS.1)).trans (hS.2.1 q h1 h2)⟩⟩) hS.2.2 (by decide +kernel) (by decide +kernel)
  · have t_1 : ¬ (qr).toInt < 0 := toI_nlt c_1 rfl (by decide)
    refine lv_iload_n hx hb dX11_arc_4 rfl (lv_at hl 3 rfl) ?_
    refine lv_sipush (v := 1000) hx hb dX11_arc_5 (by decide) ?_
    refine lv_icmp_gt (tgt := 28) hx hb dX11_arc_8 (by decide) (fun c_8 => ?_) (fun c_8 => ?_)
    · have t_8 : (qr).toInt > 1000 := toI_gt c_8 rfl (by decide)
      refine lv_iconst (v := 0) hx hb dX11_arc_28 (by decide) ?_
      refine lv_istore (lv' := [(5, .int 0), (0, .ref h0), (1, .int qf), (2, .int qt), (3, .int qr), (4, .int qc)]) hx hb dX11_arc_29 hl (by decide) rfl (fun ls hl => ?_)
      refine lv_iload_n hx hb dX11_arc_31 rfl (lv_at hl 2 rfl) ?_
      have hPc := hP.sub (ws' := []) [] rfl
      have hDc := hD.sub (ws' := []) [] (by decide) rfl
      have hKc := hK.sub (tys' := []) [] rfl
      have hFc := va_free (wc := []) hD hS hA [] rfl
      refine va_calli (va_runS (As := [.int qf]) (rest := []) ⟨hx, hb, hml, hown, hts⟩ (p_X11_isNode l dC dI qf s.heap.size) (va_cwS 1 hts gwsPX11_arc_0 rfl rfl rfl (by decide +kernel) ⟨by decide +kernel, by decide +kernel⟩) ⟨fun a U g mk q => by obtain ⟨q0, q1, qP, qK, qD⟩ := q; exact ⟨q0, q1, qP, va_K.moved (u := U) (U := U.calling g mk a) (Vm.Alike.refl U.vm) qK, qD⟩, fun U hU9 hW => ⟨rfl, by rw [hU9], by rw [hU9]; exact hPc, va_K.moved hW.alike hKc, hDc.weaken (fun _ _ _ _ => trivial)⟩⟩ rfl rfl hl.1 rfl (lv_room (Nat.le_of_ble_eq_true rfl)) dX11_arc_32 ⟨by decide +kernel, by decide +kernel⟩) hS (fun q _ h => hFc q h) hFc (fun r32_1 u t H1 locs ht hvm hw hB hz1 hk1 hS => ?_)
      obtain ⟨hP1, hK1, hD1⟩ := hB
      rw [ht] at hP1
      have hK1 := va_K.moved hvm.symm hK1
      obtain ⟨hP, hD⟩ := va_join (wr := [(h0, .inr (11, [.ref (a 0), .ref (a 1), .ref (a 3), .ref (a 14), .int 0, .null, .null, .null, .null, .null, .null]))]) (w1 := []) hP hD [] [0] rfl rfl (by decide) (by decide) hk1 hFc hP1 hD1
      generalize H1 = H at hP hS ⊢
      have hP : va_P (dC, dI) vwCl [(h0, .inr (11, [.ref (a 0), .ref (a 1), .ref (a 3), .ref (a 14), .int 0, .null, .null, .null, .null, .null, .null]))] H := hP
      have hD : va_D A [(h0, .inr (11, [.ref (a 0), .ref (a 1), .ref (a 3), .ref (a 14), .int 0, .null, .null, .null, .null, .null, .null]))] := hD
      rcases hw with ⟨rfl, f32_1_0⟩ | ⟨rfl, f32_1_0⟩
      · refine lv_if_eq (tgt := 55) hx hb dX11_arc_35 (by decide) (fun c9 => absurd c9 (by decide)) (fun _ => ?_)
        refine lv_iload_n hx hb dX11_arc_38 rfl (lv_at hl 3 rfl) ?_
        have hPc := hP.sub (ws' := []) [] rfl
        have hDc := hD.sub (ws' := []) [] (by decide) rfl
        have hKc := hK.sub (tys' := []) [] rfl
        have hFc := va_free (wc := []) hD hS hA [] rfl
        refine va_calli (va_runS (As := [.int qt]) (rest := []) ⟨hx, hb, hml, hown, hts⟩ (p_X11_isNode l dC dI qt H.size) (va_cwS 1 hts gwsPX11_arc_0 rfl rfl rfl (by decide +kernel) ⟨by decide +kernel, by decide +kernel⟩) ⟨fun a U g mk q => by obtain ⟨q0, q1, qP, qK, qD⟩ := q; exact ⟨q0, q1, qP, va_K.moved (u := U) (U := U.calling g mk a) (Vm.Alike.refl U.vm) qK, qD⟩, fun U hU9 hW => ⟨rfl, by rw [hU9], by rw [hU9]; exact hPc, va_K.moved hW.alike hKc, hDc.weaken (fun _ _ _ _ => trivial)⟩⟩ rfl rfl hl.1 rfl (lv_room (Nat.le_of_ble_eq_true rfl)) dX11_arc_39 ⟨by decide +kernel, by decide +kernel⟩) hS (fun q _ h => hFc q h) hFc (fun r39_1 u t H1 locs ht hvm hw hB hz1 hk1 hS => ?_)
        obtain ⟨hP1, hK1, hD1⟩ := hB
        rw [ht] at hP1
        have hK1 := va_K.moved hvm.symm hK1
        obtain ⟨hP, hD⟩ := va_join (wr := [(h0, .inr (11, [.ref (a 0), .ref (a 1), .ref (a 3), .ref (a 14), .int 0, .null, .null, .null, .null, .null, .null]))]) (w1 := []) hP hD [] [0] rfl rfl (by decide) (by decide) hk1 hFc hP1 hD1
        generalize H1 = H at hP hS ⊢
        have hP : va_P (dC, dI) vwCl [(h0, .inr (11, [.ref (a 0), .ref (a 1), .ref (a 3), .ref (a 14), .int 0, .null, .null, .null, .null, .null, .null]))] H := hP
        have hD : va_D A [(h0, .inr (11, [.ref (a 0), .ref (a 1), .ref (a 3), .ref (a 14), .int 0, .null, .null, .null, .null, .null, .null]))] := hD
        rcases hw with ⟨rfl, f39_1_0⟩ | ⟨rfl, f39_1_0⟩
        · refine lv_if_eq (tgt := 55) hx hb dX11_arc_42 (by decide) (fun c9 => absurd c9 (by decide)) (fun _ => ?_)
          refine lv_iload hx hb dX11_arc_45 (lv_at hl 0 rfl) ?_
          refine lv_if_eq (tgt := 55) hx hb dX11_arc_47 (by decide) (fun _ => ?_) (fun c9 => absurd (by decide) c9)
          exact vx_throw0 (own := RX11) (cls := "java/lang/IllegalArgumentException") (names := ["java/lang/RuntimeException", "java/lang/Exception"]) (ik := 77) (ic := 79) (A := A) hx hb hst hown (by decide +kernel) (by decide +kernel) (hts (.classLink RX11 77 "java/lang/IllegalArgumentException") (by decide +kernel)) (hts (.initialized "java/lang/IllegalArgumentException") (by decide +kernel)) (vx_hat (B := ngX11_79) (fun w h => hts w (List.mem_cons_of_mem _ (List.mem_append_left _ (List.mem_append_left _ (List.mem_append_right _ h))))) (fun _ h => h) (fun w h => va_Nw.use (ngX11_79_ot w h) (hngX11_79 w h))) (by decide +kernel) hU hN hS (by rw [hml]; exact hl.1) dX11_arc_55 dX11_arc_58 dX11_arc_59 dX11_arc_62 (fun x hx9 => (htab x hx9).elim) (by decide +kernel) (Nat.le_of_ble_eq_true rfl) (by decide +kernel) (by decide +kernel) hlocks (fun t hvm hz hk => ⟨"java/lang/IllegalArgumentException", ⟨rfl, by omega⟩, rfl, ⟨Nat.le_trans hS.1 hz, fun q h1 h2 => (hk q (Nat.lt_of_lt_of_le h1 hS.1)).trans (hS.2.1 q h1 h2)⟩⟩) hS.2.2 (by decide +kernel) (by decide +kernel)
        · refine lv_if_eq (tgt := 55) hx hb dX11_arc_42 (by decide) (fun _ => ?_) (fun c9 => absurd (by decide) c9)
          exact vx_throw0 (own := RX11) (cls := "java/lang/IllegalArgumentException") (names := ["java/lang/RuntimeException", "java/lang/Exception"]) (ik := 77) (ic := 79) (A := A) hx hb hst hown (by decide +kernel) (by decide +kernel) (hts (.classLink RX11 77 "java/lang/IllegalArgumentException") (by decide +kernel)) (hts (.initialized "java/lang/IllegalArgumentException") (by decide +kernel)) (vx_hat (B := ngX11_79) (fun w h => hts w (List.mem_cons_of_mem _ (List.mem_append_left _ (List.mem_append_left _ (List.mem_append_right _ h))))) (fun _ h => h) (fun w h => va_Nw.use (ngX11_79_ot w h) (hngX11_79 w h))) (by decide +kernel) hU hN hS (by rw [hml]; exact hl.1) dX11_arc_55 dX11_arc_58 dX11_arc_59 dX11_arc_62 (fun x hx9 => (htab x hx9).elim) (by decide +kernel) (Nat.le_of_ble_eq_true rfl) (by decide +kernel) (by decide +kernel) hlocks (fun t hvm hz hk => ⟨"java/lang/IllegalArgumentException", ⟨rfl, by omega⟩, rfl, ⟨Nat.le_trans hS.1 hz, fun q h1 h2 => (hk q (Nat.lt_of_lt_of_le h1 hS.1)).trans (hS.2.1 q h1 h2)⟩⟩) hS.2.2 (by decide +kernel) (by decide +kernel)
      · refine lv_if_eq (tgt := 55) hx hb dX11_arc_35 (by decide) (fun _ => ?_) (fun c9 => absurd (by decide) c9)
        exact vx_throw0 (own := RX11) (cls := "java/lang/IllegalArgumentException") (names := ["java/lang/RuntimeException", "java/lang/Exception"]) (ik := 77) (ic := 79) (A := A) hx hb hst hown (by decide +kernel) (by decide +kernel) (hts (.classLink RX11 77 "java/lang/IllegalArgumentException") (by decide +kernel)) (hts (.initialized "java/lang/IllegalArgumentException") (by decide +kernel)) (vx_hat (B := ngX11_79) (fun w h => hts w (List.mem_cons_of_mem _ (List.mem_append_left _ (List.mem_append_left _ (List.mem_append_right _ h))))) (fun _ h => h) (fun w h => va_Nw.use (ngX11_79_ot w h) (hngX11_79 w h))) (by decide +kernel) hU hN hS (by rw [hml]; exact hl.1) dX11_arc_55 dX11_arc_58 dX11_arc_59 dX11_arc_62 (fun x hx9 => (htab x hx9).elim) (by decide +kernel) (Nat.le_of_ble_eq_true rfl) (by decide +kernel) (by decide +kernel) hlocks (fun t hvm hz hk => ⟨"java/lang/IllegalArgumentException", ⟨rfl, by omega⟩, rfl, ⟨Nat.le_trans hS.1 hz, fun q h1 h2 => (hk q (Nat.lt_of_lt_of_le h1 hS.1)).trans (hS.2.1 q h1 h2)⟩⟩) hS.2.2 (by decide +kernel) (by decide +kernel)
    · have t_8 : ¬ (qr).toInt > 1000 := toI_ngt c_8 rfl (by decide)
      refine lv_iload hx hb dX11_arc_11 (lv_at hl 4 rfl) ?_
      refine lv_if_lt (tgt := 28) hx hb dX11_arc_13 (by decide) (fun c_13 => ?_) (fun c_13 => ?_)
      · have t_13 : (qc).toInt < 0 := toI_lt c_13 rfl (by decide)
        refine lv_iconst (v := 0) hx hb dX11_arc_28 (by decide) ?_
        refine lv_istore (lv' := [(5, .int 0), (0, .ref h0), (1, .int qf), (2, .int qt), (3, .int qr), (4, .int qc)]) hx hb dX11_arc_29 hl (by decide) rfl (fun ls hl => ?_)
        refine lv_iload_n hx hb dX11_arc_31 rfl (lv_at hl 2 rfl) ?_
        have hPc := hP.sub (ws' := []) [] rfl
        have hDc := hD.sub (ws' := []) [] (by decide) rfl
        have hKc := hK.sub (tys' := []) [] rfl
        have hFc := va_free (wc := []) hD hS hA [] rfl
        refine va_calli (va_runS (As := [.int qf]) (rest := []) ⟨hx, hb, hml, hown, hts⟩ (p_X11_isNode l dC dI qf s.heap.size) (va_cwS 1 hts gwsPX11_arc_0 rfl rfl rfl (by decide +kernel) ⟨by decide +kernel, by decide +kernel⟩) ⟨fun a U g mk q => by obtain ⟨q0, q1, qP, qK, qD⟩ := q; exact ⟨q0, q1, qP, va_K.moved (u := U) (U := U.calling g mk a) (Vm.Alike.refl U.vm) qK, qD⟩, fun U hU9 hW => ⟨rfl, by rw [hU9], by rw [hU9]; exact hPc, va_K.moved hW.alike hKc, hDc.weaken (fun _ _ _ _ => trivial)⟩⟩ rfl rfl hl.1 rfl (lv_room (Nat.le_of_ble_eq_true rfl)) dX11_arc_32 ⟨by decide +kernel, by decide +kernel⟩) hS (fun q _ h => hFc q h) hFc (fun r32_2 u t H1 locs ht hvm hw hB hz1 hk1 hS => ?_)
        obtain ⟨hP1, hK1, hD1⟩ := hB
        rw [ht] at hP1
        have hK1 := va_K.moved hvm.symm hK1
        obtain ⟨hP, hD⟩ := va_join (wr := [(h0, .inr (11, [.ref (a 0), .ref (a 1), .ref (a 3), .ref (a 14), .int 0, .null, .null, .null, .null, .null, .null]))]) (w1 := []) hP hD [] [0] rfl rfl (by decide) (by decide) hk1 hFc hP1 hD1
        generalize H1 = H at hP hS ⊢
        have hP : va_P (dC, dI) vwCl [(h0, .inr (11, [.ref (a 0), .ref (a 1), .ref (a 3), .ref (a 14), .int 0, .null, .null, .null, .null, .null, .null]))] H := hP
        have hD : va_D A [(h0, .inr (11, [.ref (a 0), .ref (a 1), .ref (a 3), .ref (a 14), .int 0, .null, .null, .null, .null, .null, .null]))] := hD
        rcases hw with ⟨rfl, f32_2_0⟩ | ⟨rfl, f32_2_0⟩
        · refine lv_if_eq (tgt := 55) hx hb dX11_arc_35 (by decide) (fun c9 => absurd c9 (by decide)) (fun _ => ?_)
          refine lv_iload_n hx hb dX11_arc_38 rfl (lv_at hl 3 rfl) ?_
          have hPc := hP.sub (ws' := []) [] rfl
          have hDc := hD.sub (ws' := []) [] (by decide) rfl
          have hKc := hK.sub (tys' := []) [] rfl
          have hFc := va_free (wc := []) hD hS hA [] rfl
          refine va_calli (va_runS (As := [.int qt]) (rest := []) ⟨hx, hb, hml, hown, hts⟩ (p_X11_isNode l dC dI qt H.size) (va_cwS 1 hts gwsPX11_arc_0 rfl rfl rfl (by decide +kernel) ⟨by decide +kernel, by decide +kernel⟩) ⟨fun a U g mk q => by obtain ⟨q0, q1, qP, qK, qD⟩ := q; exact ⟨q0, q1, qP, va_K.moved (u := U) (U := U.calling g mk a) (Vm.Alike.refl U.vm) qK, qD⟩, fun U hU9 hW => ⟨rfl, by rw [hU9], by rw [hU9]; exact hPc, va_K.moved hW.alike hKc, hDc.weaken (fun _ _ _ _ => trivial)⟩⟩ rfl rfl hl.1 rfl (lv_room (Nat.le_of_ble_eq_true rfl)) dX11_arc_39 ⟨by decide +kernel, by decide +kernel⟩) hS (fun q _ h => hFc q h) hFc (fun r39_2 u t H1 locs ht hvm hw hB hz1 hk1 hS => ?_)
          obtain ⟨hP1, hK1, hD1⟩ := hB
          rw [ht] at hP1
          have hK1 := va_K.moved hvm.symm hK1
          obtain ⟨hP, hD⟩ := va_join (wr := [(h0, .inr (11, [.ref (a 0), .ref (a 1), .ref (a 3), .ref (a 14), .int 0, .null, .null, .null, .null, .null, .null]))]) (w1 := []) hP hD [] [0] rfl rfl (by decide) (by decide) hk1 hFc hP1 hD1
          generalize H1 = H at hP hS ⊢
          have hP : va_P (dC, dI) vwCl [(h0, .inr (11, [.ref (a 0), .ref (a 1), .ref (a 3), .ref (a 14), .int 0, .null, .null, .null, .null, .null, .null]))] H := hP
          have hD : va_D A [(h0, .inr (11, [.ref (a 0), .ref (a 1), .ref (a 3), .ref (a 14), .int 0, .null, .null, .null, .null, .null, .null]))] := hD
          rcases hw with ⟨rfl, f39_2_0⟩ | ⟨rfl, f39_2_0⟩
          · refine lv_if_eq (tgt := 55) hx hb dX11_arc_42 (by decide) (fun c9 => absurd c9 (by decide)) (fun _ => ?_)
            refine lv_iload hx hb dX11_arc_45 (lv_at hl 0 rfl) ?_
            refine lv_if_eq (tgt := 55) hx hb dX11_arc_47 (by decide) (fun _ => ?_) (fun c9 => absurd (by decide) c9)
            exact vx_throw0 (own := RX11) (cls := "java/lang/IllegalArgumentException") (names := ["java/lang/RuntimeException", "java/lang/Exception"]) (ik := 77) (ic := 79) (A := A) hx hb hst hown (by decide +kernel) (by decide +kernel) (hts (.classLink RX11 77 "java/lang/IllegalArgumentException") (by decide +kernel)) (hts (.initialized "java/lang/IllegalArgumentException") (by decide +kernel)) (vx_hat (B := ngX11_79) (fun w h => hts w (List.mem_cons_of_mem _ (List.mem_append_left _ (List.mem_append_left _ (List.mem_append_right _ h))))) (fun _ h => h) (fun w h => va_Nw.use (ngX11_79_ot w h) (hngX11_79 w h))) (by decide +kernel) hU hN hS (by rw [hml]; exact hl.1) dX11_arc_55 dX11_arc_58 dX11_arc_59 dX11_arc_62 (fun x hx9 => (htab x hx9).elim) (by decide +kernel) (Nat.le_of_ble_eq_true rfl) (by decide +kernel) (by decide +kernel) hlocks (fun t hvm hz hk => ⟨"java/lang/IllegalArgumentException", ⟨rfl, by omega⟩, rfl, ⟨Nat.le_trans hS.1 hz, fun q h1 h2 => (hk q (Nat.lt_of_lt_of_le h1 hS.1)).trans (hS.2.1 q h1 h2)⟩⟩) hS.2.2 (by decide +kernel) (by decide +kernel)
          · refine lv_if_eq (tgt := 55) hx hb dX11_arc_42 (by decide) (fun _ => ?_) (fun c9 => absurd (by decide) c9)
            exact vx_throw0 (own := RX11) (cls := "java/lang/IllegalArgumentException") (names := ["java/lang/RuntimeException", "java/lang/Exception"]) (ik := 77) (ic := 79) (A := A) hx hb hst hown (by decide +kernel) (by decide +kernel) (hts (.classLink RX11 77 "java/lang/IllegalArgumentException") (by decide +kernel)) (hts (.initialized "java/lang/IllegalArgumentException") (by decide +kernel)) (vx_hat (B := ngX11_79) (fun w h => hts w (List.mem_cons_of_mem _ (List.mem_append_left _ (List.mem_append_left _ (List.mem_append_right _ h))))) (fun _ h => h) (fun w h => va_Nw.use (ngX11_79_ot w h) (hngX11_79 w h))) (by decide +kernel) hU hN hS (by rw [hml]; exact hl.1) dX11_arc_55 dX11_arc_58 dX11_arc_59 dX11_arc_62 (fun x hx9 => (htab x hx9).elim) (by decide +kernel) (Nat.le_of_ble_eq_true rfl) (by decide +kernel) (by decide +kernel) hlocks (fun t hvm hz hk => ⟨"java/lang/IllegalArgumentException", ⟨rfl, by omega⟩, rfl, ⟨Nat.le_trans hS.1 hz, fun q h1 h2 => (hk q (Nat.lt_of_lt_of_le h1 hS.1)).trans (hS.2.1 q h1 h2)⟩⟩) hS.2.2 (by decide +kernel) (by decide +kernel)
        · refine lv_if_eq (tgt := 55) hx hb dX11_arc_35 (by decide) (fun _ => ?_) (fun c9 => absurd (by decide) c9)
          exact vx_throw0 (own := RX11) (cls := "java/lang/IllegalArgumentException") (names := ["java/lang/RuntimeException", "java/lang/Exception"]) (ik := 77) (ic := 79) (A := A) hx hb hst hown (by decide +kernel) (by decide +kernel) (hts (.classLink RX11 77 "java/lang/IllegalArgumentException") (by decide +kernel)) (hts (.initialized "java/lang/IllegalArgumentException") (by decide +kernel)) (vx_hat (B := ngX11_79) (fun w h => hts w (List.mem_cons_of_mem _ (List.mem_append_left _ (List.mem_append_left _ (List.mem_append_right _ h))))) (fun _ h => h) (fun w h => va_Nw.use (ngX11_79_ot w h) (hngX11_79 w h))) (by decide +kernel) hU hN hS (by rw [hml]; exact hl.1) dX11_arc_55 dX11_arc_58 dX11_arc_59 dX11_arc_62 (fun x hx9 => (htab x hx9).elim) (by decide +kernel) (Nat.le_of_ble_eq_true rfl) (by decide +kernel) (by decide +kernel) hlocks (fun t hvm hz hk => ⟨"java/lang/IllegalArgumentException", ⟨rfl, by omega⟩, rfl, ⟨Nat.le_trans hS.1 hz, fun q h1 h2 => (hk q (Nat.lt_of_lt_of_le h1 hS.1)).trans (hS.2.1 q h1 h2)⟩⟩) hS.2.2 (by decide +kernel) (by decide +kernel)
      · have t_13 : ¬ (qc).toInt < 0 := toI_nlt c_13 rfl (by decide)
        refine lv_iload hx hb dX11_arc_16 (lv_at hl 4 rfl) ?_
        refine lv_sipush (v := 1000) hx hb dX11_arc_18 (by decide) ?_
        refine lv_icmp_gt (tgt := 28) hx hb dX11_arc_21 (by decide) (fun c_21 => ?_) (fun c_21 => ?_)
        · have t_21 : (qc).toInt > 1000 := toI_gt c_21 rfl (by decide)
          refine lv_iconst (v := 0) hx hb dX11_arc_28 (by decide) ?_
          refine lv_istore (lv' := [(5, .int 0), (0, .ref h0), (1, .int qf), (2, .int qt), (3, .int qr), (4, .int qc)]) hx hb dX11_arc_29 hl (by decide) rfl (fun ls hl => ?_)
          refine lv_iload_n hx hb dX11_arc_31 rfl (lv_at hl 2 rfl) ?_
          have hPc := hP.sub (ws' := []) [] rfl
          have hDc := hD.sub (ws' := []) [] (by decide) rfl
          have hKc := hK.sub (tys' := []) [] rfl
          have hFc := va_free (wc := []) hD hS hA [] rfl
          refine va_calli (va_runS (As := [.int qf]) (rest := []) ⟨hx, hb, hml, hown, hts⟩ (p_X11_isNode l dC dI qf s.heap.size) (va_cwS 1 hts gwsPX11_arc_0 rfl rfl rfl (by decide +kernel) ⟨by decide +kernel, by decide +kernel⟩) ⟨fun a U g mk q => by obtain ⟨q0, q1, qP, qK, qD⟩ := q; exact ⟨q0, q1, qP, va_K.moved (u := U) (U := U.calling g mk a) (Vm.Alike.refl U.vm) qK, qD⟩, fun U hU9 hW => ⟨rfl, by rw [hU9], by rw [hU9]; exact hPc, va_K.moved hW.alike hKc, hDc.weaken (fun _ _ _ _ => trivial)⟩⟩ rfl rfl hl.1 rfl (lv_room (Nat.le_of_ble_eq_true rfl)) dX11_arc_32 ⟨by decide +kernel, by decide +kernel⟩) hS (fun q _ h => hFc q h) hFc (fun r32_3 u t H1 locs ht hvm hw hB hz1 hk1 hS => ?_)
          obtain ⟨hP1, hK1, hD1⟩ := hB
          rw [ht] at hP1
          have hK1 := va_K.moved hvm.symm hK1
          obtain ⟨hP, hD⟩ := va_join (wr := [(h0, .inr (11, [.ref (a 0), .ref (a 1), .ref (a 3), .ref (a 14), .int 0, .null, .null, .null, .null, .null, .null]))]) (w1 := []) hP hD [] [0] rfl rfl (by decide) (by decide) hk1 hFc hP1 hD1
          generalize H1 = H at hP hS ⊢
          have hP : va_P (dC, dI) vwCl [(h0, .inr (11, [.ref (a 0), .ref (a 1), .ref (a 3), .ref (a 14), .int 0, .null, .null, .null, .null, .null, .null]))] H := hP
          have hD : va_D A [(h0, .inr (11, [.ref (a 0), .ref (a 1), .ref (a 3), .ref (a 14), .int 0, .null, .null, .null, .null, .null, .null]))] := hD
          rcases hw with ⟨rfl, f32_3_0⟩ | ⟨rfl, f32_3_0⟩
          · refine lv_if_eq (tgt := 55) hx hb dX11_arc_35 (by decide) (fun c9 => absurd c9 (by decide)) (fun _ => ?_)
            refine lv_iload_n hx hb dX11_arc_38 rfl (lv_at hl 3 rfl) ?_
            have hPc := hP.sub (ws' := []) [] rfl
            have hDc := hD.sub (ws' := []) [] (by decide) rfl
            have hKc := hK.sub (tys' := []) [] rfl
            have hFc := va_free (wc := []) hD hS hA [] rfl
            refine va_calli (va_runS (As := [.int qt]) (rest := []) ⟨hx, hb, hml, hown, hts⟩ (p_X11_isNode l dC dI qt H.size) (va_cwS 1 hts gwsPX11_arc_0 rfl rfl rfl (by decide +kernel) ⟨by decide +kernel, by decide +kernel⟩) ⟨fun a U g mk q => by obtain ⟨q0, q1, qP, qK, qD⟩ := q; exact ⟨q0, q1, qP, va_K.moved (u := U) (U := U.calling g mk a) (Vm.Alike.refl U.vm) qK, qD⟩, fun U hU9 hW => ⟨rfl, by rw [hU9], by rw [hU9]; exact hPc, va_K.moved hW.alike hKc, hDc.weaken (fun _ _ _ _ => trivial)⟩⟩ rfl rfl hl.1 rfl (lv_room (Nat.le_of_ble_eq_true rfl)) dX11_arc_39 ⟨by decide +kernel, by decide +kernel⟩) hS (fun q _ h => hFc q h) hFc (fun r39_3 u t H1 locs ht hvm hw hB hz1 hk1 hS => ?_)
            obtain ⟨hP1, hK1, hD1⟩ := hB
            rw [ht] at hP1
            have hK1 := va_K.moved hvm.symm hK1
            obtain ⟨hP, hD⟩ := va_join (wr := [(h0, .inr (11, [.ref (a 0), .ref (a 1), .ref (a 3), .ref (a 14), .int 0, .null, .null, .null, .null, .null, .null]))]) (w1 := []) hP hD [] [0] rfl rfl (by decide) (by decide) hk1 hFc hP1 hD1
            generalize H1 = H at hP hS ⊢
            have hP : va_P (dC, dI) vwCl [(h0, .inr (11, [.ref (a 0), .ref (a 1), .ref (a 3), .ref (a 14), .int 0, .null, .null, .null, .null, .null, .null]))] H := hP
            have hD : va_D A [(h0, .inr (11, [.ref (a 0), .ref (a 1), .ref (a 3), .ref (a 14), .int 0, .null, .null, .null, .null, .null, .null]))] := hD
            rcases hw with ⟨rfl, f39_3_0⟩ | ⟨rfl, f39_3_0⟩
            · refine lv_if_eq (tgt := 55) hx hb dX11_arc_42 (by decide) (fun c9 => absurd c9 (by decide)) (fun _ => ?_)
              refine lv_iload hx hb dX11_arc_45 (lv_at hl 0 rfl) ?_
              refine lv_if_eq (tgt := 55) hx hb dX11_arc_47 (by decide) (fun _ => ?_) (fun c9 => absurd (by decide) c9)
              exact vx_throw0 (own := RX11) (cls := "java/lang/IllegalArgumentException") (names := ["java/lang/RuntimeException", "java/lang/Exception"]) (ik := 77) (ic := 79) (A := A) hx hb hst hown (by decide +kernel) (by decide +kernel) (hts (.classLink RX11 77 "java/lang/IllegalArgumentException") (by decide +kernel)) (hts (.initialized "java/lang/IllegalArgumentException") (by decide +kernel)) (vx_hat (B := ngX11_79) (fun w h => hts w (List.mem_cons_of_mem _ (List.mem_append_left _ (List.mem_append_left _ (List.mem_append_right _ h))))) (fun _ h => h) (fun w h => va_Nw.use (ngX11_79_ot w h) (hngX11_79 w h))) (by decide +kernel) hU hN hS (by rw [hml]; exact hl.1) dX11_arc_55 dX11_arc_58 dX11_arc_59 dX11_arc_62 (fun x hx9 => (htab x hx9).elim) (by decide +kernel) (Nat.le_of_ble_eq_true rfl) (by decide +kernel) (by decide +kernel) hlocks (fun t hvm hz hk => ⟨"java/lang/IllegalArgumentException", ⟨rfl, by omega⟩, rfl, ⟨Nat.le_trans hS.1 hz, fun q h1 h2 => (hk q (Nat.lt_of_lt_of_le h1 hS.1)).trans (hS.2.1 q h1 h2)⟩⟩) hS.2.2 (by decide +kernel) (by decide +kernel)
            · refine lv_if_eq (tgt := 55) hx hb dX11_arc_42 (by decide) (fun _ => ?_) (fun c9 => absurd (by decide) c9)
              exact vx_throw0 (own := RX11) (cls := "java/lang/IllegalArgumentException") (names := ["java/lang/RuntimeException", "java/lang/Exception"]) (ik := 77) (ic := 79) (A := A) hx hb hst hown (by decide +kernel) (by decide +kernel) (hts (.classLink RX11 77 "java/lang/IllegalArgumentException") (by decide +kernel)) (hts (.initialized "java/lang/IllegalArgumentException") (by decide +kernel)) (vx_hat (B := ngX11_79) (fun w h => hts w (List.mem_cons_of_mem _ (List.mem_append_left _ (List.mem_append_left _ (List.mem_append_right _ h))))) (fun _ h => h) (fun w h => va_Nw.use (ngX11_79_ot w h) (hngX11_79 w h))) (by decide +kernel) hU hN hS (by rw [hml]; exact hl.1) dX11_arc_55 dX11_arc_58 dX11_arc_59 dX11_arc_62 (fun x hx9 => (htab x hx9).elim) (by decide +kernel) (Nat.le_of_ble_eq_true rfl) (by decide +kernel) (by decide +kernel) hlocks (fun t hvm hz hk => ⟨"java/lang/IllegalArgumentException", ⟨rfl, by omega⟩, rfl, ⟨Nat.le_trans hS.1 hz, fun q h1 h2 => (hk q (Nat.lt_of_lt_of_le h1 hS.1)).trans (hS.2.1 q h1 h2)⟩⟩) hS.2.2 (by decide +kernel) (by decide +kernel)
          · refine lv_if_eq (tgt := 55) hx hb dX11_arc_35 (by decide) (fun _ => ?_) (fun c9 => absurd (by decide) c9)
            exact vx_throw0 (own := RX11) (cls := "java/lang/IllegalArgumentException") (names := ["java/lang/RuntimeException", "java/lang/Exception"]) (ik := 77) (ic := 79) (A := A) hx hb hst hown (by decide +kernel) (by decide +kernel) (hts (.classLink RX11 77 "java/lang/IllegalArgumentException") (by decide +kernel)) (hts (.initialized "java/lang/IllegalArgumentException") (by decide +kernel)) (vx_hat (B := ngX11_79) (fun w h => hts w (List.mem_cons_of_mem _ (List.mem_append_left _ (List.mem_append_left _ (List.mem_append_right _ h))))) (fun _ h => h) (fun w h => va_Nw.use (ngX11_79_ot w h) (hngX11_79 w h))) (by decide +kernel) hU hN hS (by rw [hml]; exact hl.1) dX11_arc_55 dX11_arc_58 dX11_arc_59 dX11_arc_62 (fun x hx9 => (htab x hx9).elim) (by decide +kernel) (Nat.le_of_ble_eq_true rfl) (by decide +kernel) (by decide +kernel) hlocks (fun t hvm hz hk => ⟨"java/lang/IllegalArgumentException", ⟨rfl, by omega⟩, rfl, ⟨Nat.le_trans hS.1 hz, fun q h1 h2 => (hk q (Nat.lt_of_lt_of_le h1 hS.1)).trans (hS.2.1 q h1 h2)⟩⟩) hS.2.2 (by decide +kernel) (by decide +kernel)
        · have t_21 : ¬ (qc).toInt > 1000 := toI_ngt c_21 rfl (by decide)
          refine lv_iconst (v := 1) hx hb dX11_arc_24 (by decide) ?_
          refine lv_goto (tgt := 29) hx hb dX11_arc_25 (by decide) ?_
          refine lv_istore (lv' := [(5, .int 1), (0, .ref h0), (1, .int qf), (2, .int qt), (3, .int qr), (4, .int qc)]) hx hb dX11_arc_29 hl (by decide) rfl (fun ls hl => ?_)
          refine lv_iload_n hx hb dX11_arc_31 rfl (lv_at hl 2 rfl) ?_
          have hPc := hP.sub (ws' := []) [] rfl
          have hDc := hD.sub (ws' := []) [] (by decide) rfl
          have hKc := hK.sub (tys' := []) [] rfl
          have hFc := va_free (wc := []) hD hS hA [] rfl
          refine va_calli (va_runS (As := [.int qf]) (rest := []) ⟨hx, hb, hml, hown, hts⟩ (p_X11_isNode l dC dI qf s.heap.size) (va_cwS 1 hts gwsPX11_arc_0 rfl rfl rfl (by decide +kernel) ⟨by decide +kernel, by decide +kernel⟩) ⟨fun a U g mk q => by obtain ⟨q0, q1, qP, qK, qD⟩ := q; exact ⟨q0, q1, qP, va_K.moved (u := U) (U := U.calling g mk a) (Vm.Alike.refl U.vm) qK, qD⟩, fun U hU9 hW => ⟨rfl, by rw [hU9], by rw [hU9]; exact hPc, va_K.moved hW.alike hKc, hDc.weaken (fun _ _ _ _ => trivial)⟩⟩ rfl rfl hl.1 rfl (lv_room (Nat.le_of_ble_eq_true rfl)) dX11_arc_32 ⟨by decide +kernel, by decide +kernel⟩) hS (fun q _ h => hFc q h) hFc (fun r32_4 u t H1 locs ht hvm hw hB hz1 hk1 hS => ?_)
          obtain ⟨hP1, hK1, hD1⟩ := hB
          rw [ht] at hP1
          have hK1 := va_K.moved hvm.symm hK1
          obtain ⟨hP, hD⟩ := va_join (wr := [(h0, .inr (11, [.ref (a 0), .ref (a 1), .ref (a 3), .ref (a 14), .int 0, .null, .null, .null, .null, .null, .null]))]) (w1 := []) hP hD [] [0] rfl rfl (by decide) (by decide) hk1 hFc hP1 hD1
          generalize H1 = H at hP hS ⊢
          have hP : va_P (dC, dI) vwCl [(h0, .inr (11, [.ref (a 0), .ref (a 1), .ref (a 3), .ref (a 14), .int 0, .null, .null, .null, .null, .null, .null]))] H := hP
          have hD : va_D A [(h0, .inr (11, [.ref (a 0), .ref (a 1), .ref (a 3), .ref (a 14), .int 0, .null, .null, .null, .null, .null, .null]))] := hD
          rcases hw with ⟨rfl, f32_4_0⟩ | ⟨rfl, f32_4_0⟩
          · refine lv_if_eq (tgt := 55) hx hb dX11_arc_35 (by decide) (fun c9 => absurd c9 (by decide)) (fun _ => ?_)
            refine lv_iload_n hx hb dX11_arc_38 rfl (lv_at hl 3 rfl) ?_
            have hPc := hP.sub (ws' := []) [] rfl
            have hDc := hD.sub (ws' := []) [] (by decide) rfl
            have hKc := hK.sub (tys' := []) [] rfl
            have hFc := va_free (wc := []) hD hS hA [] rfl
            refine va_calli (va_runS (As := [.int qt]) (rest := []) ⟨hx, hb, hml, hown, hts⟩ (p_X11_isNode l dC dI qt H.size) (va_cwS 1 hts gwsPX11_arc_0 rfl rfl rfl (by decide +kernel) ⟨by decide +kernel, by decide +kernel⟩) ⟨fun a U g mk q => by obtain ⟨q0, q1, qP, qK, qD⟩ := q; exact ⟨q0, q1, qP, va_K.moved (u := U) (U := U.calling g mk a) (Vm.Alike.refl U.vm) qK, qD⟩, fun U hU9 hW => ⟨rfl, by rw [hU9], by rw [hU9]; exact hPc, va_K.moved hW.alike hKc, hDc.weaken (fun _ _ _ _ => trivial)⟩⟩ rfl rfl hl.1 rfl (lv_room (Nat.le_of_ble_eq_true rfl)) dX11_arc_39 ⟨by decide +kernel, by decide +kernel⟩) hS (fun q _ h => hFc q h) hFc (fun r39_4 u t H1 locs ht hvm hw hB hz1 hk1 hS => ?_)
            obtain ⟨hP1, hK1, hD1⟩ := hB
            rw [ht] at hP1
            have hK1 := va_K.moved hvm.symm hK1
            obtain ⟨hP, hD⟩ := va_join (wr := [(h0, .inr (11, [.ref (a 0), .ref (a 1), .ref (a 3), .ref (a 14), .int 0, .null, .null, .null, .null, .null, .null]))]) (w1 := []) hP hD [] [0] rfl rfl (by decide) (by decide) hk1 hFc hP1 hD1
            generalize H1 = H at hP hS ⊢
            have hP : va_P (dC, dI) vwCl [(h0, .inr (11, [.ref (a 0), .ref (a 1), .ref (a 3), .ref (a 14), .int 0, .null, .null, .null, .null, .null, .null]))] H := hP
            have hD : va_D A [(h0, .inr (11, [.ref (a 0), .ref (a 1), .ref (a 3), .ref (a 14), .int 0, .null, .null, .null, .null, .null, .null]))] := hD
            rcases hw with ⟨rfl, f39_4_0⟩ | ⟨rfl, f39_4_0⟩
            · refine lv_if_eq (tgt := 55) hx hb dX11_arc_42 (by decide) (fun c9 => absurd c9 (by decide)) (fun _ => ?_)
              refine lv_iload hx hb dX11_arc_45 (lv_at hl 0 rfl) ?_
              refine lv_if_eq (tgt := 55) hx hb dX11_arc_47 (by decide) (fun c9 => absurd c9 (by decide)) (fun _ => ?_)
              refine lv_iload_n hx hb dX11_arc_50 rfl (lv_at hl 2 rfl) ?_
              refine lv_iload_n hx hb dX11_arc_51 rfl (lv_at hl 3 rfl) ?_
              refine lv_icmp_ne (tgt := 63) hx hb dX11_arc_52 (by decide) (fun c_52 => ?_) (fun c_52 => ?_)
              · have t_52 : (qf).toInt ≠ (qt).toInt := toI_ne c_52 rfl rfl
                refine lv_aload_n hx hb dX11_arc_63 rfl (lv_at hl 1 rfl) ?_
                have hPc := hP.sub (ws' := [(h0, .inr (11, [.ref (a 0), .ref (a 1), .ref (a 3), .ref (a 14), .int 0, .null, .null, .null, .null, .null, .null]))]) [0] rfl
                have hDc := hD.sub (ws' := [(h0, .inr (11, [.ref (a 0), .ref (a 1), .ref (a 3), .ref (a 14), .int 0, .null, .null, .null, .null, .null, .null]))]) [0] (by decide) rfl
                have hKc := hK.sub (tys' := []) [] rfl
                have hFc := va_free (wc := [(h0, .inr (11, [.ref (a 0), .ref (a 1), .ref (a 3), .ref (a 14), .int 0, .null, .null, .null, .null, .null, .null]))]) hD hS hA [0] rfl
                refine va_callr (va_runV (As := []) (rest := []) ⟨hx, hb, hml, hown, hts⟩ (p_X11_theNets l dC dI h0 a H.size) (cwV 0 hts gwsPX11_arc_2 rfl rfl rfl (by decide +kernel) ⟨by decide +kernel, by decide +kernel⟩) ⟨fun a U g mk q => by obtain ⟨q0, q1, qP, qK, qD, qhnX11_421⟩ := q; exact ⟨q0, q1, qP, va_K.moved (u := U) (U := U.calling g mk a) (Vm.Alike.refl U.vm) qK, qD, va_Nw.same (u := U) (U := U.calling g mk a) rfl rfl qhnX11_421⟩, va_recv hKc hPc (ci := 11) (q0 := 0) rfl rfl, fun U hU9 hW => ⟨rfl, by rw [hU9], by rw [hU9]; exact hPc, va_K.moved hW.alike hKc, hDc.weaken (fun _ _ _ _ => trivial), va_Nw.warmM hW hnX11_421⟩⟩ rfl rfl hl.1 rfl (lv_room (Nat.le_of_ble_eq_true rfl)) dX11_arc_64 ⟨by decide +kernel, by decide +kernel⟩) hS (fun q _ h => hFc q h) hFc (fun u a64 t H1 locs ht hvm hw hB hz1 hk1 hS => ?_)
                obtain ⟨aa64, kk64⟩ := u
                obtain ⟨hP1, hK1, hD1⟩ := hB
                rw [ht] at hP1
                have hK1 := va_K.moved hvm.symm hK1
                obtain ⟨hP, hD⟩ := va_join (wr := []) (w1 := [(h0, .inr (11, [.ref (a 0), .ref (a 1), .ref (a 3), .ref (a 14), .int 0, .null, .null, .null, .null, .null, .ref a64])), (a64, .inr (2, [.int 0, .ref (aa64 0), .ref (aa64 1), .ref (aa64 2), .ref (aa64 3), .int 0, .ref (aa64 4), .ref (aa64 5), .ref (aa64 6), .ref (aa64 7), .ref (aa64 8), .int 0, .ref (aa64 9), .ref (aa64 10)])), ((aa64 0), .inl ((kk64 0), 40, .inl (fun _ => 0))), ((aa64 1), .inl ((kk64 1), 40, .inl (fun _ => 0))), ((aa64 2), .inl ((kk64 2), 40, .inl (fun _ => 0))), ((aa64 3), .inl ((kk64 3), 40, .inl (fun _ => 0))), ((aa64 4), .inl ((kk64 4), 144, .inl (fun _ => 0))), ((aa64 5), .inl ((kk64 5), 12, .inl (fun _ => 0))), ((aa64 6), .inl ((kk64 6), 40, .inl (fun _ => 0))), ((aa64 7), .inl ((kk64 7), 12, .inl (fun _ => 0))), ((aa64 8), .inl ((kk64 8), 8, .inl (fun _ => 0))), ((aa64 9), .inl ((kk64 9), 64, .inl (fun _ => 0))), ((aa64 10), .inl ((kk64 10), 1024, .inl (fun _ => 0)))]) hP hD [0] [] rfl rfl (by decide) (by decide) hk1 hFc hP1 hD1
                have hK := hK.app hK1
                generalize H1 = H at hP hS ⊢
                have hP : va_P (dC, dI) vwCl [(h0, .inr (11, [.ref (a 0), .ref (a 1), .ref (a 3), .ref (a 14), .int 0, .null, .null, .null, .null, .null, .ref a64])), (a64, .inr (2, [.int 0, .ref (aa64 0), .ref (aa64 1), .ref (aa64 2), .ref (aa64 3), .int 0, .ref (aa64 4), .ref (aa64 5), .ref (aa64 6), .ref (aa64 7), .ref (aa64 8), .int 0, .ref (aa64 9), .ref (aa64 10)])), ((aa64 0), .inl ((kk64 0), 40, .inl (fun _ => 0))), ((aa64 1), .inl ((kk64 1), 40, .inl (fun _ => 0))), ((aa64 2), .inl ((kk64 2), 40, .inl (fun _ => 0))), ((aa64 3), .inl ((kk64 3), 40, .inl (fun _ => 0))), ((aa64 4), .inl ((kk64 4), 144, .inl (fun _ => 0))), ((aa64 5), .inl ((kk64 5), 12, .inl (fun _ => 0))), ((aa64 6), .inl ((kk64 6), 40, .inl (fun _ => 0))), ((aa64 7), .inl ((kk64 7), 12, .inl (fun _ => 0))), ((aa64 8), .inl ((kk64 8), 8, .inl (fun _ => 0))), ((aa64 9), .inl ((kk64 9), 64, .inl (fun _ => 0))), ((aa64 10), .inl ((kk64 10), 1024, .inl (fun _ => 0)))] H := hP
                have hD : va_D A [(h0, .inr (11, [.ref (a 0), .ref (a 1), .ref (a 3), .ref (a 14), .int 0, .null, .null, .null, .null, .null, .ref a64])), (a64, .inr (2, [.int 0, .ref (aa64 0), .ref (aa64 1), .ref (aa64 2), .ref (aa64 3), .int 0, .ref (aa64 4), .ref (aa64 5), .ref (aa64 6), .ref (aa64 7), .ref (aa64 8), .int 0, .ref (aa64 9), .ref (aa64 10)])), ((aa64 0), .inl ((kk64 0), 40, .inl (fun _ => 0))), ((aa64 1), .inl ((kk64 1), 40, .inl (fun _ => 0))), ((aa64 2), .inl ((kk64 2), 40, .inl (fun _ => 0))), ((aa64 3), .inl ((kk64 3), 40, .inl (fun _ => 0))), ((aa64 4), .inl ((kk64 4), 144, .inl (fun _ => 0))), ((aa64 5), .inl ((kk64 5), 12, .inl (fun _ => 0))), ((aa64 6), .inl ((kk64 6), 40, .inl (fun _ => 0))), ((aa64 7), .inl ((kk64 7), 12, .inl (fun _ => 0))), ((aa64 8), .inl ((kk64 8), 8, .inl (fun _ => 0))), ((aa64 9), .inl ((kk64 9), 64, .inl (fun _ => 0))), ((aa64 10), .inl ((kk64 10), 1024, .inl (fun _ => 0)))] := hD
                have hK : va_K (dC, dI) vwCl [((kk64 0), .int), ((kk64 1), .int), ((kk64 2), .int), ((kk64 3), .int), ((kk64 4), .int), ((kk64 5), .int), ((kk64 6), .int), ((kk64 7), .int), ((kk64 8), .int), ((kk64 9), .int), ((kk64 10), .int)] s := hK
                refine W.widen (k := 12) (n := 1478) (by decide +kernel) (by decide +kernel) ?_
                refine va_get (D := (dC, dI)) (ci := 2) (v := .int 0) (C := RX2) (T := TX2) (N := 14) hx hb hts iwsPX11_arc_in2 hown hK hP 1 rfl rfl 0 (by decide) (hts (.fieldLink RX11 429 "OptimaWorks$NetDesk" "arcs" "I") (by decide +kernel)) (fun _ h9 => h9) rfl dX11_arc_67 ?_
                refine lv_bipush (v := 40) hx hb dX11_arc_70 (by decide) ?_
                refine lv_icmp_lt (tgt := 83) hx hb dX11_arc_72 (by decide) (fun _ => ?_) (fun c9 => absurd (by decide) c9)
                refine lv_aload_n hx hb dX11_arc_83 rfl (lv_at hl 1 rfl) ?_
                refine va_get (D := (dC, dI)) (ci := 11) (v := .ref a64) (C := RX11) (T := TX11) (N := 11) hx hb hts iwsPX11_arc_in11 hown hK hP 0 rfl rfl 10 (by decide) (hts (.fieldLink RX11 415 "OptimaWorks" "nets" "LOptimaWorks$NetDesk;") (by decide +kernel)) (fun _ h9 => h9) rfl dX11_arc_84 ?_
                refine lv_iload_n hx hb dX11_arc_87 rfl (lv_at hl 2 rfl) ?_
                refine lv_iload_n hx hb dX11_arc_88 rfl (lv_at hl 3 rfl) ?_
                refine lv_iload_n hx hb dX11_arc_89 rfl (lv_at hl 4 rfl) ?_
                refine lv_iload hx hb dX11_arc_90 (lv_at hl 5 rfl) ?_
                have hPc := hP.sub (ws' := [(a64, .inr (2, [.int 0, .ref (aa64 0), .ref (aa64 1), .ref (aa64 2), .ref (aa64 3), .int 0, .ref (aa64 4), .ref (aa64 5), .ref (aa64 6), .ref (aa64 7), .ref (aa64 8), .int 0, .ref (aa64 9), .ref (aa64 10)])), ((aa64 0), .inl ((kk64 0), 40, .inl (fun _ => 0))), ((aa64 1), .inl ((kk64 1), 40, .inl (fun _ => 0))), ((aa64 2), .inl ((kk64 2), 40, .inl (fun _ => 0))), ((aa64 3), .inl ((kk64 3), 40, .inl (fun _ => 0)))]) [1, 2, 3, 4, 5] rfl
                have hDc := hD.sub (ws' := [(a64, .inr (2, [.int 0, .ref (aa64 0), .ref (aa64 1), .ref (aa64 2), .ref (aa64 3), .int 0, .ref (aa64 4), .ref (aa64 5), .ref (aa64 6), .ref (aa64 7), .ref (aa64 8), .int 0, .ref (aa64 9), .ref (aa64 10)])), ((aa64 0), .inl ((kk64 0), 40, .inl (fun _ => 0))), ((aa64 1), .inl ((kk64 1), 40, .inl (fun _ => 0))), ((aa64 2), .inl ((kk64 2), 40, .inl (fun _ => 0))), ((aa64 3), .inl ((kk64 3), 40, .inl (fun _ => 0)))]) [1, 2, 3, 4, 5] (by decide) rfl
                have hKc := hK.sub (tys' := [((kk64 0), .int), ((kk64 1), .int), ((kk64 2), .int), ((kk64 3), .int)]) [0, 1, 2, 3] rfl
                have hFc := va_free (wc := [(a64, .inr (2, [.int 0, .ref (aa64 0), .ref (aa64 1), .ref (aa64 2), .ref (aa64 3), .int 0, .ref (aa64 4), .ref (aa64 5), .ref (aa64 6), .ref (aa64 7), .ref (aa64 8), .int 0, .ref (aa64 9), .ref (aa64 10)])), ((aa64 0), .inl ((kk64 0), 40, .inl (fun _ => 0))), ((aa64 1), .inl ((kk64 1), 40, .inl (fun _ => 0))), ((aa64 2), .inl ((kk64 2), 40, .inl (fun _ => 0))), ((aa64 3), .inl ((kk64 3), 40, .inl (fun _ => 0)))]) hD hS hA [1, 2, 3, 4, 5] rfl
                refine va_calli (va_runV (As := [.int qf, .int qt, .int qr, .int qc]) (rest := []) ⟨hx, hb, hml, hown, hts⟩ (p_X2_addArc l dC dI a64 aa64 kk64 qf qt qr qc H.size) (cwV 4 hts gwsPX11_arc_3 rfl rfl rfl (by decide +kernel) ⟨by decide +kernel, by decide +kernel⟩) ⟨fun a U g mk q => by obtain ⟨q0, q1, qP, qK, qD⟩ := q; exact ⟨q0, q1, qP, va_K.moved (u := U) (U := U.calling g mk a) (Vm.Alike.refl U.vm) qK, qD⟩, va_recv hKc hPc (ci := 2) (q0 := 0) rfl rfl, fun U hU9 hW => ⟨rfl, by rw [hU9], by rw [hU9]; exact hPc, va_K.moved hW.alike hKc, hDc.weaken (fun _ _ _ _ => trivial)⟩⟩ rfl rfl hl.1 rfl (lv_room (Nat.le_of_ble_eq_true rfl)) dX11_arc_92 ⟨by decide +kernel, by decide +kernel⟩) hS (fun q _ h => hFc q h) hFc (fun r92 u t H1 locs ht hvm hw hB hz1 hk1 hS => ?_)
                obtain ⟨hP1, hK1, hD1⟩ := hB
                rw [ht] at hP1
                have hK1 := va_K.moved hvm.symm hK1
                obtain ⟨hP, hD⟩ := va_join (wr := [(h0, .inr (11, [.ref (a 0), .ref (a 1), .ref (a 3), .ref (a 14), .int 0, .null, .null, .null, .null, .null, .ref a64])), ((aa64 4), .inl ((kk64 4), 144, .inl (fun _ => 0))), ((aa64 5), .inl ((kk64 5), 12, .inl (fun _ => 0))), ((aa64 6), .inl ((kk64 6), 40, .inl (fun _ => 0))), ((aa64 7), .inl ((kk64 7), 12, .inl (fun _ => 0))), ((aa64 8), .inl ((kk64 8), 8, .inl (fun _ => 0))), ((aa64 9), .inl ((kk64 9), 64, .inl (fun _ => 0))), ((aa64 10), .inl ((kk64 10), 1024, .inl (fun _ => 0)))]) (w1 := []) hP hD [1, 2, 3, 4, 5] [0, 6, 7, 8, 9, 10, 11, 12] rfl rfl (by decide) (by decide) hk1 hFc hP1 hD1
                generalize H1 = H at hP hS ⊢
                have hP : va_P (dC, dI) vwCl [(h0, .inr (11, [.ref (a 0), .ref (a 1), .ref (a 3), .ref (a 14), .int 0, .null, .null, .null, .null, .null, .ref a64])), ((aa64 4), .inl ((kk64 4), 144, .inl (fun _ => 0))), ((aa64 5), .inl ((kk64 5), 12, .inl (fun _ => 0))), ((aa64 6), .inl ((kk64 6), 40, .inl (fun _ => 0))), ((aa64 7), .inl ((kk64 7), 12, .inl (fun _ => 0))), ((aa64 8), .inl ((kk64 8), 8, .inl (fun _ => 0))), ((aa64 9), .inl ((kk64 9), 64, .inl (fun _ => 0))), ((aa64 10), .inl ((kk64 10), 1024, .inl (fun _ => 0)))] H := hP
                have hD : va_D A [(h0, .inr (11, [.ref (a 0), .ref (a 1), .ref (a 3), .ref (a 14), .int 0, .null, .null, .null, .null, .null, .ref a64])), ((aa64 4), .inl ((kk64 4), 144, .inl (fun _ => 0))), ((aa64 5), .inl ((kk64 5), 12, .inl (fun _ => 0))), ((aa64 6), .inl ((kk64 6), 40, .inl (fun _ => 0))), ((aa64 7), .inl ((kk64 7), 12, .inl (fun _ => 0))), ((aa64 8), .inl ((kk64 8), 8, .inl (fun _ => 0))), ((aa64 9), .inl ((kk64 9), 64, .inl (fun _ => 0))), ((aa64 10), .inl ((kk64 10), 1024, .inl (fun _ => 0)))] := hD
                obtain rfl := hw
                refine vx_ret ?_
                refine W.widen (k := 13) (n := 1484) (by decide +kernel) (by decide +kernel) ?_
                exact W.iret (v := 0) hx hb hr (fun t ht hW => ⟨⟨0, (), rfl, by (refine ⟨?_, ?_⟩ <;> (first | rfl | assumption | trivial | omega | (simp [c_1, c_8, c_13, c_21, c_52]; done) | (simp; omega))), by rw [ht]; exact hP.sub [] rfl, va_K.moved hW.alike (hK.sub [] rfl), hD.sub [] (by decide) rfl⟩, hS.F ht⟩) hS.2.2 dX11_arc_95
              · have t_52 : (qf).toInt = (qt).toInt := toI_nne c_52 rfl rfl
                exact vx_throw0 (own := RX11) (cls := "java/lang/IllegalArgumentException") (names := ["java/lang/RuntimeException", "java/lang/Exception"]) (ik := 77) (ic := 79) (A := A) hx hb hst hown (by decide +kernel) (by decide +kernel) (hts (.classLink RX11 77 "java/lang/IllegalArgumentException") (by decide +kernel)) (hts (.initialized "java/lang/IllegalArgumentException") (by decide +kernel)) (vx_hat (B := ngX11_79) (fun w h => hts w (List.mem_cons_of_mem _ (List.mem_append_left _ (List.mem_append_left _ (List.mem_append_right _ h))))) (fun _ h => h) (fun w h => va_Nw.use (ngX11_79_ot w h) (hngX11_79 w h))) (by decide +kernel) hU hN hS (by rw [hml]; exact hl.1) dX11_arc_55 dX11_arc_58 dX11_arc_59 dX11_arc_62 (fun x hx9 => (htab x hx9).elim) (by decide +kernel) (Nat.le_of_ble_eq_true rfl) (by decide +kernel) (by decide +kernel) hlocks (fun t hvm hz hk => ⟨"java/lang/IllegalArgumentException", ⟨rfl, by omega⟩, rfl, ⟨Nat.le_trans hS.1 hz, fun q h1 h2 => (hk q (Nat.lt_of_lt_of_le h1 hS.1)).trans (hS.2.1 q h1 h2)⟩⟩) hS.2.2 (by decide +kernel) (by decide +kernel)
            · refine lv_if_eq (tgt := 55) hx hb dX11_arc_42 (by decide) (fun _ => ?_) (fun c9 => absurd (by decide) c9)
              exact vx_throw0 (own := RX11) (cls := "java/lang/IllegalArgumentException") (names := ["java/lang/RuntimeException", "java/lang/Exception"]) (ik := 77) (ic := 79) (A := A) hx hb hst hown (by decide +kernel) (by decide +kernel) (hts (.classLink RX11 77 "java/lang/IllegalArgumentException") (by decide +kernel)) (hts (.initialized "java/lang/IllegalArgumentException") (by decide +kernel)) (vx_hat (B := ngX11_79) (fun w h => hts w (List.mem_cons_of_mem _ (List.mem_append_left _ (List.mem_append_left _ (List.mem_append_right _ h))))) (fun _ h => h) (fun w h => va_Nw.use (ngX11_79_ot w h) (hngX11_79 w h))) (by decide +kernel) hU hN hS (by rw [hml]; exact hl.1) dX11_arc_55 dX11_arc_58 dX11_arc_59 dX11_arc_62 (fun x hx9 => (htab x hx9).elim) (by decide +kernel) (Nat.le_of_ble_eq_true rfl) (by decide +kernel) (by decide +kernel) hlocks (fun t hvm hz hk => ⟨"java/lang/IllegalArgumentException", ⟨rfl, by omega⟩, rfl, ⟨Nat.le_trans hS.1 hz, fun q h1 h2 => (hk q (Nat.lt_of_lt_of_le h1 hS.1)).trans (hS.2.1 q h1 h2)⟩⟩) hS.2.2 (by decide +kernel) (by decide +kernel)
          · refine lv_if_eq (tgt := 55) hx hb dX11_arc_35 (by decide) (fun _ => ?_) (fun c9 => absurd (by decide) c9)
            exact vx_throw0 (own := RX11) (cls := "java/lang/IllegalArgumentException") (names := ["java/lang/RuntimeException", "java/lang/Exception"]) (ik := 77) (ic := 79) (A := A) hx hb hst hown (by decide +kernel) (by decide +kernel) (hts (.classLink RX11 77 "java/lang/IllegalArgumentException") (by decide +kernel)) (hts (.initialized "java/lang/IllegalArgumentException") (by decide +kernel)) (vx_hat (B := ngX11_79) (fun w h => hts w (List.mem_cons_of_mem _ (List.mem_append_left _ (List.mem_append_left _ (List.mem_append_right _ h))))) (fun _ h => h) (fun w h => va_Nw.use (ngX11_79_ot w h) (hngX11_79 w h))) (by decide +kernel) hU hN hS (by rw [hml]; exact hl.1) dX11_arc_55 dX11_arc_58 dX11_arc_59 dX11_arc_62 (fun x hx9 => (htab x hx9).elim) (by decide +kernel) (Nat.le_of_ble_eq_true rfl) (by decide +kernel) (by decide +kernel) hlocks (fun t hvm hz hk => ⟨"java/lang/IllegalArgumentException", ⟨rfl, by omega⟩, rfl, ⟨Nat.le_trans hS.1 hz, fun q h1 h2 => (hk q (Nat.lt_of_lt_of_le h1 hS.1)).trans (hS.2.1 q h1 h2)⟩⟩) hS.2.2 (by decide +kernel) (by decide +kernel)
theorem dX2_dropArc_0 : decode cX2_dropArc 0 = .ok (.aload_n 0, 1) := by decide +kernel
theorem dX2_dropArc_1 : decode cX2_dropArc 1 = .ok (.getfield 45, 3) := by decide +kernel
theorem dX2_dropArc_4 : decode cX2_dropArc 4 = .ok (.ifCond .ne 5, 3) := by decide +kernel
theorem dX2_dropArc_7 : decode cX2_dropArc 7 = .ok (.iconst 0, 1) := by decide +kernel
theorem dX2_dropArc_8 : decode cX2_dropArc 8 = .ok (.ireturn, 1) := by decide +kernel
def wsPX2_dropArc : List Cond := .code yX2_dropArc cX2_dropArc 1 (some .boolean) :: ([.fieldLink RX2 45 "OptimaWorks$NetDesk" "arcs" "I"] ++ wsX20)
theorem iwsPX2_dropArc_in2 : ∀ w ∈ wsX20, w ∈ wsPX2_dropArc := fun _ h => List.mem_cons_of_mem _ (List.mem_append_right _ h)
set_option maxHeartbeats 4000000 in
set_option maxRecDepth 100000 in
/-- dropArc() on a fresh desk -/
theorem p_X2_dropArc (l : Launch) (dC : Nat → ClassId) (dI : Nat → Nat → Nat) (d0 : Nat) (bb : Nat → Nat) (sz : Nat) : Met l yX2_dropArc wsPX2_dropArc ({ frames := 0, cells := 0, slots := 0, locals := 0 }) (va_Pc [.ref d0] (fun U => U.heap.size = sz ∧ va_P (dC, dI) vwCl [(d0, .inr (2, [.int 0, .ref (bb 0), .ref (bb 1), .ref (bb 2), .ref (bb 3), .int 0, .ref (bb 4), .ref (bb 5), .ref (bb 6), .ref (bb 7), .ref (bb 8), .int 0, .ref (bb 9), .ref (bb 10)]))] U.heap ∧ va_K (dC, dI) vwCl [] U ∧ va_D (fun _ => True) [(d0, .inr (2, [.int 0, .ref (bb 0), .ref (bb 1), .ref (bb 2), .ref (bb 3), .int 0, .ref (bb 4), .ref (bb 5), .ref (bb 6), .ref (bb 7), .ref (bb 8), .int 0, .ref (bb 9), .ref (bb 10)]))])) (va_Qi (fun (r : Int32) (u : Unit) => r = 0) (fun (u : Unit) t => va_P (dC, dI) vwCl [] t.heap ∧ va_K (dC, dI) vwCl [] t ∧ va_D (va_A [(d0, .inr (2, [.int 0, .ref (bb 0), .ref (bb 1), .ref (bb 2), .ref (bb 3), .int 0, .ref (bb 4), .ref (bb 5), .ref (bb 6), .ref (bb 7), .ref (bb 8), .int 0, .ref (bb 9), .ref (bb 10)]))] sz) []) (va_A [(d0, .inr (2, [.int 0, .ref (bb 0), .ref (bb 1), .ref (bb 2), .ref (bb 3), .int 0, .ref (bb 4), .ref (bb 5), .ref (bb 6), .ref (bb 7), .ref (bb 8), .int 0, .ref (bb 9), .ref (bb 10)]))] sz)) 0 0 (va_A [(d0, .inr (2, [.int 0, .ref (bb 0), .ref (bb 1), .ref (bb 2), .ref (bb 3), .int 0, .ref (bb 4), .ref (bb 5), .ref (bb 6), .ref (bb 7), .ref (bb 8), .int 0, .ref (bb 9), .ref (bb 10)]))] sz) := by
  refine Met.ofW (cc := cX2_dropArc) (maxL := 1) (ret := (some .boolean)) (by decide) rfl ?_
  intro p e s m args below meth c s₁ B hml hv
  obtain ⟨rfl, hsz, hP, hK, hD0⟩ := hv
  have hx := B.exec
  have hb := B.bytes
  have hr := B.returns
  have hts := atoms_spec (ws := wsPX2_dropArc) B.pre
  have hown : s.vm.findClass RX2 = some m.cls := findClass_of_methodNamed B.named
  have hlocks := B.notSynchronized
  subst hsz
  have hD := hD0.self (sz := s.heap.size)
  generalize hAe : va_A [(d0, .inr (2, [.int 0, .ref (bb 0), .ref (bb 1), .ref (bb 2), .ref (bb 3), .int 0, .ref (bb 4), .ref (bb 5), .ref (bb 6), .ref (bb 7), .ref (bb 8), .int 0, .ref (bb 9), .ref (bb 10)]))] s.heap.size = A at hD ⊢
  have hA : ∀ q : Nat, s.heap.size ≤ q → A q := fun q h => by rw [← hAe]; exact Or.inr h
  have hS : va_S A s.heap s.heap [] := va_S.rf
  have hP : va_P (dC, dI) vwCl [(d0, .inr (2, [.int 0, .ref (bb 0), .ref (bb 1), .ref (bb 2), .ref (bb 3), .int 0, .ref (bb 4), .ref (bb 5), .ref (bb 6), .ref (bb 7), .ref (bb 8), .int 0, .ref (bb 9), .ref (bb 10)]))] s.heap := hP
  have hl := lv_entry ([.ref d0]) (n := 1) (Nat.le_of_ble_eq_true rfl)
  rw [lg_entry_eq]
  generalize (lg_sl ([.ref d0]) ++ List.replicate (1 - (lg_sl ([.ref d0])).length) Slot.unset).toArray = ls at hl ⊢
  have hl : lv_has ls 1 [(0, .ref d0)] := hl
  refine lv_aload_n hx hb dX2_dropArc_0 rfl (lv_at hl 0 rfl) ?_
  refine va_get (D := (dC, dI)) (ci := 2) (v := .int 0) (C := RX2) (T := TX2) (N := 14) hx hb hts iwsPX2_dropArc_in2 hown hK hP 0 rfl rfl 0 (by decide) (hts (.fieldLink RX2 45 "OptimaWorks$NetDesk" "arcs" "I") (by decide +kernel)) (fun _ h9 => h9) rfl dX2_dropArc_1 ?_
  refine lv_if_ne (tgt := 9) hx hb dX2_dropArc_4 (by decide) (fun c9 => absurd c9 (by decide)) (fun _ => ?_)
  refine lv_iconst (v := 0) hx hb dX2_dropArc_7 (by decide) ?_
  refine W.widen (k := 0) (n := 0) (by decide +kernel) (by decide +kernel) ?_
  exact W.zret (v := 0) hx hb hr rfl (fun t ht hW => ⟨⟨0, (), rfl, by (first | rfl | assumption | trivial | omega | (simp []; done) | (simp; omega)), by rw [ht]; exact hP.sub [] rfl, va_K.moved hW.alike (hK.sub [] rfl), hD.sub [] (by decide) rfl⟩, hS.F ht⟩) hS.2.2 dX2_dropArc_8
theorem dX11_unarc_0 : decode cX11_unarc 0 = .ok (.aload_n 0, 1) := by decide +kernel
theorem dX11_unarc_1 : decode cX11_unarc 1 = .ok (.invokevirtual 425, 3) := by decide +kernel
theorem dX11_unarc_4 : decode cX11_unarc 4 = .ok (.invokevirtual 435, 3) := by decide +kernel
theorem dX11_unarc_7 : decode cX11_unarc 7 = .ok (.ireturn, 1) := by decide +kernel
def wsPX11_unarc : List Cond := .code yX11_unarc cX11_unarc 1 (some .boolean) :: ([] ++ (wsV RX11 425 RX11 yX11_theNets wsPX11_theNets) ++ (wsV RX11 435 RX2 yX2_dropArc wsPX2_dropArc))
theorem gwsPX11_unarc_0 : GoodIn wsPX11_unarc (wsV RX11 425 RX11 yX11_theNets wsPX11_theNets) := goodIn_sub (fun _ h => List.mem_cons_of_mem _ (List.mem_append_left _ (List.mem_append_right _ h))) (by decide +kernel)
theorem gwsPX11_unarc_1 : GoodIn wsPX11_unarc (wsV RX11 435 RX2 yX2_dropArc wsPX2_dropArc) := goodIn_sub (fun _ h => List.mem_cons_of_mem _ (List.mem_append_right _ h)) (by decide +kernel)
set_option maxHeartbeats 4000000 in
set_option maxRecDepth 100000 in
/-- unarc() -/
theorem p_X11_unarc (l : Launch) (dC : Nat → ClassId) (dI : Nat → Nat → Nat) (h0 : Nat) (a : Nat → Nat) (sz : Nat) : Met l yX11_unarc wsPX11_unarc ({ frames := 3, cells := 12, slots := 1478, locals := 52 }) (va_Pc [.ref h0] (fun U => U.heap.size = sz ∧ va_P (dC, dI) vwCl [(h0, .inr (11, [.ref (a 0), .ref (a 1), .ref (a 3), .ref (a 14), .int 0, .null, .null, .null, .null, .null, .null]))] U.heap ∧ va_K (dC, dI) vwCl [] U ∧ va_D (fun _ => True) [(h0, .inr (11, [.ref (a 0), .ref (a 1), .ref (a 3), .ref (a 14), .int 0, .null, .null, .null, .null, .null, .null]))] ∧ va_Nw (.methodLinkNest RX11 421 yX2_init RX11) U)) (va_Qi (fun (r : Int32) (u : Unit) => r = 0) (fun (u : Unit) t => va_P (dC, dI) vwCl [] t.heap ∧ va_K (dC, dI) vwCl [] t ∧ va_D (va_A [(h0, .inr (11, [.ref (a 0), .ref (a 1), .ref (a 3), .ref (a 14), .int 0, .null, .null, .null, .null, .null, .null]))] sz) []) (va_A [(h0, .inr (11, [.ref (a 0), .ref (a 1), .ref (a 3), .ref (a 14), .int 0, .null, .null, .null, .null, .null, .null]))] sz)) 12 1478 (va_A [(h0, .inr (11, [.ref (a 0), .ref (a 1), .ref (a 3), .ref (a 14), .int 0, .null, .null, .null, .null, .null, .null]))] sz) := by
  refine Met.ofW (cc := cX11_unarc) (maxL := 1) (ret := (some .boolean)) (by decide) rfl ?_
  intro p e s m args below meth c s₁ B hml hv
  obtain ⟨rfl, hsz, hP, hK, hD0, hnX11_421⟩ := hv
  have hx := B.exec
  have hb := B.bytes
  have hr := B.returns
  have hts := atoms_spec (ws := wsPX11_unarc) B.pre
  have hown : s.vm.findClass RX11 = some m.cls := findClass_of_methodNamed B.named
  have hlocks := B.notSynchronized
  subst hsz
  have hD := hD0.self (sz := s.heap.size)
  generalize hAe : va_A [(h0, .inr (11, [.ref (a 0), .ref (a 1), .ref (a 3), .ref (a 14), .int 0, .null, .null, .null, .null, .null, .null]))] s.heap.size = A at hD ⊢
  have hA : ∀ q : Nat, s.heap.size ≤ q → A q := fun q h => by rw [← hAe]; exact Or.inr h
  have hS : va_S A s.heap s.heap [] := va_S.rf
  have hP : va_P (dC, dI) vwCl [(h0, .inr (11, [.ref (a 0), .ref (a 1), .ref (a 3), .ref (a 14), .int 0, .null, .null, .null, .null, .null, .null]))] s.heap := hP
  have hl := lv_entry ([.ref h0]) (n := 1) (Nat.le_of_ble_eq_true rfl)
  rw [lg_entry_eq]
  generalize (lg_sl ([.ref h0]) ++ List.replicate (1 - (lg_sl ([.ref h0])).length) Slot.unset).toArray = ls at hl ⊢
  have hl : lv_has ls 1 [(0, .ref h0)] := hl
  refine lv_aload_n hx hb dX11_unarc_0 rfl (lv_at hl 0 rfl) ?_
  have hPc := hP.sub (ws' := [(h0, .inr (11, [.ref (a 0), .ref (a 1), .ref (a 3), .ref (a 14), .int 0, .null, .null, .null, .null, .null, .null]))]) [0] rfl
  have hDc := hD.sub (ws' := [(h0, .inr (11, [.ref (a 0), .ref (a 1), .ref (a 3), .ref (a 14), .int 0, .null, .null, .null, .null, .null, .null]))]) [0] (by decide) rfl
  have hKc := hK.sub (tys' := []) [] rfl
  have hFc := va_free (wc := [(h0, .inr (11, [.ref (a 0), .ref (a 1), .ref (a 3), .ref (a 14), .int 0, .null, .null, .null, .null, .null, .null]))]) hD hS hA [0] rfl
  refine va_callr (va_runV (As := []) (rest := []) ⟨hx, hb, hml, hown, hts⟩ (p_X11_theNets l dC dI h0 a s.heap.size) (cwV 0 hts gwsPX11_unarc_0 rfl rfl rfl (by decide +kernel) ⟨by decide +kernel, by decide +kernel⟩) ⟨fun a U g mk q => by obtain ⟨q0, q1, qP, qK, qD, qhnX11_421⟩ := q; exact ⟨q0, q1, qP, va_K.moved (u := U) (U := U.calling g mk a) (Vm.Alike.refl U.vm) qK, qD, va_Nw.same (u := U) (U := U.calling g mk a) rfl rfl qhnX11_421⟩, va_recv hKc hPc (ci := 11) (q0 := 0) rfl rfl, fun U hU9 hW => ⟨rfl, by rw [hU9], by rw [hU9]; exact hPc, va_K.moved hW.alike hKc, hDc.weaken (fun _ _ _ _ => trivial), va_Nw.warmM hW hnX11_421⟩⟩ rfl rfl hl.1 rfl (lv_room (Nat.le_of_ble_eq_true rfl)) dX11_unarc_1 ⟨by decide +kernel, by decide +kernel⟩) hS (fun q _ h => hFc q h) hFc (fun u a1 t H1 locs ht hvm hw hB hz1 hk1 hS => ?_)
  obtain ⟨aa1, kk1⟩ := u
  obtain ⟨hP1, hK1, hD1⟩ := hB
  rw [ht] at hP1
  have hK1 := va_K.moved hvm.symm hK1
  obtain ⟨hP, hD⟩ := va_join (wr := []) (w1 := [(h0, .inr (11, [.ref (a 0), .ref (a 1), .ref (a 3), .ref (a 14), .int 0, .null, .null, .null, .null, .null, .ref a1])), (a1, .inr (2, [.int 0, .ref (aa1 0), .ref (aa1 1), .ref (aa1 2), .ref (aa1 3), .int 0, .ref (aa1 4), .ref (aa1 5), .ref (aa1 6), .ref (aa1 7), .ref (aa1 8), .int 0, .ref (aa1 9), .ref (aa1 10)])), ((aa1 0), .inl ((kk1 0), 40, .inl (fun _ => 0))), ((aa1 1), .inl ((kk1 1), 40, .inl (fun _ => 0))), ((aa1 2), .inl ((kk1 2), 40, .inl (fun _ => 0))), ((aa1 3), .inl ((kk1 3), 40, .inl (fun _ => 0))), ((aa1 4), .inl ((kk1 4), 144, .inl (fun _ => 0))), ((aa1 5), .inl ((kk1 5), 12, .inl (fun _ => 0))), ((aa1 6), .inl ((kk1 6), 40, .inl (fun _ => 0))), ((aa1 7), .inl ((kk1 7), 12, .inl (fun _ => 0))), ((aa1 8), .inl ((kk1 8), 8, .inl (fun _ => 0))), ((aa1 9), .inl ((kk1 9), 64, .inl (fun _ => 0))), ((aa1 10), .inl ((kk1 10), 1024, .inl (fun _ => 0)))]) hP hD [0] [] rfl rfl (by decide) (by decide) hk1 hFc hP1 hD1
  have hK := hK.app hK1
  generalize H1 = H at hP hS ⊢
  have hP : va_P (dC, dI) vwCl [(h0, .inr (11, [.ref (a 0), .ref (a 1), .ref (a 3), .ref (a 14), .int 0, .null, .null, .null, .null, .null, .ref a1])), (a1, .inr (2, [.int 0, .ref (aa1 0), .ref (aa1 1), .ref (aa1 2), .ref (aa1 3), .int 0, .ref (aa1 4), .ref (aa1 5), .ref (aa1 6), .ref (aa1 7), .ref (aa1 8), .int 0, .ref (aa1 9), .ref (aa1 10)])), ((aa1 0), .inl ((kk1 0), 40, .inl (fun _ => 0))), ((aa1 1), .inl ((kk1 1), 40, .inl (fun _ => 0))), ((aa1 2), .inl ((kk1 2), 40, .inl (fun _ => 0))), ((aa1 3), .inl ((kk1 3), 40, .inl (fun _ => 0))), ((aa1 4), .inl ((kk1 4), 144, .inl (fun _ => 0))), ((aa1 5), .inl ((kk1 5), 12, .inl (fun _ => 0))), ((aa1 6), .inl ((kk1 6), 40, .inl (fun _ => 0))), ((aa1 7), .inl ((kk1 7), 12, .inl (fun _ => 0))), ((aa1 8), .inl ((kk1 8), 8, .inl (fun _ => 0))), ((aa1 9), .inl ((kk1 9), 64, .inl (fun _ => 0))), ((aa1 10), .inl ((kk1 10), 1024, .inl (fun _ => 0)))] H := hP
  have hD : va_D A [(h0, .inr (11, [.ref (a 0), .ref (a 1), .ref (a 3), .ref (a 14), .int 0, .null, .null, .null, .null, .null, .ref a1])), (a1, .inr (2, [.int 0, .ref (aa1 0), .ref (aa1 1), .ref (aa1 2), .ref (aa1 3), .int 0, .ref (aa1 4), .ref (aa1 5), .ref (aa1 6), .ref (aa1 7), .ref (aa1 8), .int 0, .ref (aa1 9), .ref (aa1 10)])), ((aa1 0), .inl ((kk1 0), 40, .inl (fun _ => 0))), ((aa1 1), .inl ((kk1 1), 40, .inl (fun _ => 0))), ((aa1 2), .inl ((kk1 2), 40, .inl (fun _ => 0))), ((aa1 3), .inl ((kk1 3), 40, .inl (fun _ => 0))), ((aa1 4), .inl ((kk1 4), 144, .inl (fun _ => 0))), ((aa1 5), .inl ((kk1 5), 12, .inl (fun _ => 0))), ((aa1 6), .inl ((kk1 6), 40, .inl (fun _ => 0))), ((aa1 7), .inl ((kk1 7), 12, .inl (fun _ => 0))), ((aa1 8), .inl ((kk1 8), 8, .inl (fun _ => 0))), ((aa1 9), .inl ((kk1 9), 64, .inl (fun _ => 0))), ((aa1 10), .inl ((kk1 10), 1024, .inl (fun _ => 0)))] := hD
  have hK : va_K (dC, dI) vwCl [((kk1 0), .int), ((kk1 1), .int), ((kk1 2), .int), ((kk1 3), .int), ((kk1 4), .int), ((kk1 5), .int), ((kk1 6), .int), ((kk1 7), .int), ((kk1 8), .int), ((kk1 9), .int), ((kk1 10), .int)] s := hK
  refine W.widen (k := 12) (n := 1478) (by decide +kernel) (by decide +kernel) ?_
  have hPc := hP.sub (ws' := [(a1, .inr (2, [.int 0, .ref (aa1 0), .ref (aa1 1), .ref (aa1 2), .ref (aa1 3), .int 0, .ref (aa1 4), .ref (aa1 5), .ref (aa1 6), .ref (aa1 7), .ref (aa1 8), .int 0, .ref (aa1 9), .ref (aa1 10)]))]) [1] rfl
  have hDc := hD.sub (ws' := [(a1, .inr (2, [.int 0, .ref (aa1 0), .ref (aa1 1), .ref (aa1 2), .ref (aa1 3), .int 0, .ref (aa1 4), .ref (aa1 5), .ref (aa1 6), .ref (aa1 7), .ref (aa1 8), .int 0, .ref (aa1 9), .ref (aa1 10)]))]) [1] (by decide) rfl
  have hKc := hK.sub (tys' := []) [] rfl
  have hFc := va_free (wc := [(a1, .inr (2, [.int 0, .ref (aa1 0), .ref (aa1 1), .ref (aa1 2), .ref (aa1 3), .int 0, .ref (aa1 4), .ref (aa1 5), .ref (aa1 6), .ref (aa1 7), .ref (aa1 8), .int 0, .ref (aa1 9), .ref (aa1 10)]))]) hD hS hA [1] rfl
  refine va_calli (va_runV (As := []) (rest := []) ⟨hx, hb, hml, hown, hts⟩ (p_X2_dropArc l dC dI a1 aa1 H.size) (cwV 0 hts gwsPX11_unarc_1 rfl rfl rfl (by decide +kernel) ⟨by decide +kernel, by decide +kernel⟩) ⟨fun a U g mk q => by obtain ⟨q0, q1, qP, qK, qD⟩ := q; exact ⟨q0, q1, qP, va_K.moved (u := U) (U := U.calling g mk a) (Vm.Alike.refl U.vm) qK, qD⟩, va_recv hKc hPc (ci := 2) (q0 := 0) rfl rfl, fun U hU9 hW => ⟨rfl, by rw [hU9], by rw [hU9]; exact hPc, va_K.moved hW.alike hKc, hDc.weaken (fun _ _ _ _ => trivial)⟩⟩ rfl rfl hl.1 rfl (lv_room (Nat.le_of_ble_eq_true rfl)) dX11_unarc_4 ⟨by decide +kernel, by decide +kernel⟩) hS (fun q _ h => hFc q h) hFc (fun r4 u t H1 locs ht hvm hw hB hz1 hk1 hS => ?_)
  obtain ⟨hP1, hK1, hD1⟩ := hB
  rw [ht] at hP1
  have hK1 := va_K.moved hvm.symm hK1
  obtain ⟨hP, hD⟩ := va_join (wr := [(h0, .inr (11, [.ref (a 0), .ref (a 1), .ref (a 3), .ref (a 14), .int 0, .null, .null, .null, .null, .null, .ref a1])), ((aa1 0), .inl ((kk1 0), 40, .inl (fun _ => 0))), ((aa1 1), .inl ((kk1 1), 40, .inl (fun _ => 0))), ((aa1 2), .inl ((kk1 2), 40, .inl (fun _ => 0))), ((aa1 3), .inl ((kk1 3), 40, .inl (fun _ => 0))), ((aa1 4), .inl ((kk1 4), 144, .inl (fun _ => 0))), ((aa1 5), .inl ((kk1 5), 12, .inl (fun _ => 0))), ((aa1 6), .inl ((kk1 6), 40, .inl (fun _ => 0))), ((aa1 7), .inl ((kk1 7), 12, .inl (fun _ => 0))), ((aa1 8), .inl ((kk1 8), 8, .inl (fun _ => 0))), ((aa1 9), .inl ((kk1 9), 64, .inl (fun _ => 0))), ((aa1 10), .inl ((kk1 10), 1024, .inl (fun _ => 0)))]) (w1 := []) hP hD [1] [0, 2, 3, 4, 5, 6, 7, 8, 9, 10, 11, 12] rfl rfl (by decide) (by decide) hk1 hFc hP1 hD1
  generalize H1 = H at hP hS ⊢
  have hP : va_P (dC, dI) vwCl [(h0, .inr (11, [.ref (a 0), .ref (a 1), .ref (a 3), .ref (a 14), .int 0, .null, .null, .null, .null, .null, .ref a1])), ((aa1 0), .inl ((kk1 0), 40, .inl (fun _ => 0))), ((aa1 1), .inl ((kk1 1), 40, .inl (fun _ => 0))), ((aa1 2), .inl ((kk1 2), 40, .inl (fun _ => 0))), ((aa1 3), .inl ((kk1 3), 40, .inl (fun _ => 0))), ((aa1 4), .inl ((kk1 4), 144, .inl (fun _ => 0))), ((aa1 5), .inl ((kk1 5), 12, .inl (fun _ => 0))), ((aa1 6), .inl ((kk1 6), 40, .inl (fun _ => 0))), ((aa1 7), .inl ((kk1 7), 12, .inl (fun _ => 0))), ((aa1 8), .inl ((kk1 8), 8, .inl (fun _ => 0))), ((aa1 9), .inl ((kk1 9), 64, .inl (fun _ => 0))), ((aa1 10), .inl ((kk1 10), 1024, .inl (fun _ => 0)))] H := hP
  have hD : va_D A [(h0, .inr (11, [.ref (a 0), .ref (a 1), .ref (a 3), .ref (a 14), .int 0, .null, .null, .null, .null, .null, .ref a1])), ((aa1 0), .inl ((kk1 0), 40, .inl (fun _ => 0))), ((aa1 1), .inl ((kk1 1), 40, .inl (fun _ => 0))), ((aa1 2), .inl ((kk1 2), 40, .inl (fun _ => 0))), ((aa1 3), .inl ((kk1 3), 40, .inl (fun _ => 0))), ((aa1 4), .inl ((kk1 4), 144, .inl (fun _ => 0))), ((aa1 5), .inl ((kk1 5), 12, .inl (fun _ => 0))), ((aa1 6), .inl ((kk1 6), 40, .inl (fun _ => 0))), ((aa1 7), .inl ((kk1 7), 12, .inl (fun _ => 0))), ((aa1 8), .inl ((kk1 8), 8, .inl (fun _ => 0))), ((aa1 9), .inl ((kk1 9), 64, .inl (fun _ => 0))), ((aa1 10), .inl ((kk1 10), 1024, .inl (fun _ => 0)))] := hD
  obtain rfl := hw
  refine W.widen (k := 12) (n := 1478) (by decide +kernel) (by decide +kernel) ?_
  exact W.zret (v := 0) hx hb hr rfl (fun t ht hW => ⟨⟨0, (), rfl, by (first | rfl | assumption | trivial | omega | (simp []; done) | (simp; omega)), by rw [ht]; exact hP.sub [] rfl, va_K.moved hW.alike (hK.sub [] rfl), hD.sub [] (by decide) rfl⟩, hS.F ht⟩) hS.2.2 dX11_unarc_7
theorem dX2_reach_0 : decode cX2_reach 0 = .ok (.aload_n 0, 1) := by decide +kernel
theorem dX2_reach_1 : decode cX2_reach 1 = .ok (.iconst 1, 1) := by decide +kernel
theorem dX2_reach_2 : decode cX2_reach 2 = .ok (.iload_n 1, 1) := by decide +kernel
theorem dX2_reach_3 : decode cX2_reach 3 = .ok (.ishl, 1) := by decide +kernel
theorem dX2_reach_4 : decode cX2_reach 4 = .ok (.putfield 67, 3) := by decide +kernel
theorem dX2_reach_7 : decode cX2_reach 7 = .ok (.aload_n 0, 1) := by decide +kernel
theorem dX2_reach_8 : decode cX2_reach 8 = .ok (.getfield 67, 3) := by decide +kernel
theorem dX2_reach_11 : decode cX2_reach 11 = .ok (.istore_n 3, 1) := by decide +kernel
theorem dX2_reach_12 : decode cX2_reach 12 = .ok (.iconst 0, 1) := by decide +kernel
theorem dX2_reach_13 : decode cX2_reach 13 = .ok (.istore 4, 2) := by decide +kernel
theorem dX2_reach_15 : decode cX2_reach 15 = .ok (.iload 4, 2) := by decide +kernel
theorem dX2_reach_17 : decode cX2_reach 17 = .ok (.bipush 12, 2) := by decide +kernel
theorem dX2_reach_19 : decode cX2_reach 19 = .ok (.if_icmp .ge 119, 3) := by decide +kernel
theorem dX2_reach_22 : decode cX2_reach 22 = .ok (.iload_n 3, 1) := by decide +kernel
theorem dX2_reach_23 : decode cX2_reach 23 = .ok (.ifCond .eq 115, 3) := by decide +kernel
theorem dX2_reach_26 : decode cX2_reach 26 = .ok (.iconst 0, 1) := by decide +kernel
theorem dX2_reach_27 : decode cX2_reach 27 = .ok (.istore 5, 2) := by decide +kernel
theorem dX2_reach_29 : decode cX2_reach 29 = .ok (.iconst 0, 1) := by decide +kernel
theorem dX2_reach_30 : decode cX2_reach 30 = .ok (.istore 6, 2) := by decide +kernel
theorem dX2_reach_32 : decode cX2_reach 32 = .ok (.iload 6, 2) := by decide +kernel
theorem dX2_reach_34 : decode cX2_reach 34 = .ok (.bipush 12, 2) := by decide +kernel
theorem dX2_reach_36 : decode cX2_reach 36 = .ok (.if_icmp .ge 93, 3) := by decide +kernel
theorem dX2_reach_39 : decode cX2_reach 39 = .ok (.iconst 0, 1) := by decide +kernel
theorem dX2_reach_40 : decode cX2_reach 40 = .ok (.istore 7, 2) := by decide +kernel
theorem dX2_reach_42 : decode cX2_reach 42 = .ok (.iload 7, 2) := by decide +kernel
theorem dX2_reach_44 : decode cX2_reach 44 = .ok (.bipush 12, 2) := by decide +kernel
theorem dX2_reach_46 : decode cX2_reach 46 = .ok (.if_icmp .ge 77, 3) := by decide +kernel
theorem dX2_reach_49 : decode cX2_reach 49 = .ok (.iload_n 3, 1) := by decide +kernel
theorem dX2_reach_50 : decode cX2_reach 50 = .ok (.iload 6, 2) := by decide +kernel
theorem dX2_reach_52 : decode cX2_reach 52 = .ok (.ishr, 1) := by decide +kernel
theorem dX2_reach_53 : decode cX2_reach 53 = .ok (.iconst 1, 1) := by decide +kernel
theorem dX2_reach_54 : decode cX2_reach 54 = .ok (.iand, 1) := by decide +kernel
theorem dX2_reach_55 : decode cX2_reach 55 = .ok (.ifCond .eq 68, 3) := by decide +kernel
theorem dX2_reach_58 : decode cX2_reach 58 = .ok (.aload_n 0, 1) := by decide +kernel
theorem dX2_reach_59 : decode cX2_reach 59 = .ok (.getfield 67, 3) := by decide +kernel
theorem dX2_reach_62 : decode cX2_reach 62 = .ok (.iload 7, 2) := by decide +kernel
theorem dX2_reach_64 : decode cX2_reach 64 = .ok (.ishr, 1) := by decide +kernel
theorem dX2_reach_65 : decode cX2_reach 65 = .ok (.iconst 1, 1) := by decide +kernel
theorem dX2_reach_66 : decode cX2_reach 66 = .ok (.iand, 1) := by decide +kernel
theorem dX2_reach_67 : decode cX2_reach 67 = .ok (.ifCond .ne 50, 3) := by decide +kernel
theorem dX2_reach_70 : decode cX2_reach 70 = .ok (.aload_n 0, 1) := by decide +kernel
theorem dX2_reach_71 : decode cX2_reach 71 = .ok (.getfield 24, 3) := by decide +kernel
theorem dX2_reach_74 : decode cX2_reach 74 = .ok (.iload 6, 2) := by decide +kernel
theorem dX2_reach_76 : decode cX2_reach 76 = .ok (.bipush 12, 2) := by decide +kernel
theorem dX2_reach_78 : decode cX2_reach 78 = .ok (.imul, 1) := by decide +kernel
theorem dX2_reach_79 : decode cX2_reach 79 = .ok (.iload 7, 2) := by decide +kernel
theorem dX2_reach_81 : decode cX2_reach 81 = .ok (.iadd, 1) := by decide +kernel
theorem dX2_reach_82 : decode cX2_reach 82 = .ok (.iaload, 1) := by decide +kernel
theorem dX2_reach_83 : decode cX2_reach 83 = .ok (.ifCond .le 34, 3) := by decide +kernel
theorem dX2_reach_117 : decode cX2_reach 117 = .ok (.iinc 7 1, 3) := by decide +kernel
theorem dX2_reach_120 : decode cX2_reach 120 = .ok (.goto (-78), 3) := by decide +kernel
theorem dX2_reach_123 : decode cX2_reach 123 = .ok (.iinc 6 1, 3) := by decide +kernel
theorem dX2_reach_126 : decode cX2_reach 126 = .ok (.goto (-94), 3) := by decide +kernel
theorem dX2_reach_129 : decode cX2_reach 129 = .ok (.iload 5, 2) := by decide +kernel
theorem dX2_reach_131 : decode cX2_reach 131 = .ok (.istore_n 3, 1) := by decide +kernel
theorem dX2_reach_132 : decode cX2_reach 132 = .ok (.iinc 4 1, 3) := by decide +kernel
theorem dX2_reach_135 : decode cX2_reach 135 = .ok (.goto (-120), 3) := by decide +kernel
theorem dX2_reach_138 : decode cX2_reach 138 = .ok (.aload_n 0, 1) := by decide +kernel
theorem dX2_reach_139 : decode cX2_reach 139 = .ok (.getfield 67, 3) := by decide +kernel
theorem dX2_reach_142 : decode cX2_reach 142 = .ok (.iload_n 2, 1) := by decide +kernel
theorem dX2_reach_143 : decode cX2_reach 143 = .ok (.ishr, 1) := by decide +kernel
theorem dX2_reach_144 : decode cX2_reach 144 = .ok (.iconst 1, 1) := by decide +kernel
theorem dX2_reach_145 : decode cX2_reach 145 = .ok (.iand, 1) := by decide +kernel
theorem dX2_reach_146 : decode cX2_reach 146 = .ok (.ifCond .eq 7, 3) := by decide +kernel
theorem dX2_reach_153 : decode cX2_reach 153 = .ok (.iconst 0, 1) := by decide +kernel
theorem dX2_reach_154 : decode cX2_reach 154 = .ok (.ireturn, 1) := by decide +kernel
def wsPX2_reach : List Cond := .code yX2_reach cX2_reach 8 (some .boolean) :: ([.fieldLink RX2 67 "OptimaWorks$NetDesk" "reached" "I", .fieldLink RX2 24 "OptimaWorks$NetDesk" "free" "[I"] ++ wsX20)
theorem iwsPX2_reach_in2 : ∀ w ∈ wsX20, w ∈ wsPX2_reach := fun _ h => List.mem_cons_of_mem _ (List.mem_append_right _ h)
set_option maxHeartbeats 4000000 in
set_option maxRecDepth 100000 in
/-- reach(s, t) over nothing -/
theorem p_X2_reach (l : Launch) (dC : Nat → ClassId) (dI : Nat → Nat → Nat) (d0 : Nat) (bb : Nat → Nat) (kd : Nat → ClassId) (g : Nat → Int32) (hg : ∀ j, j < 144 → g j = 0) (si : Nat) (tj : Nat) (hsi : si < 12) (htj : tj < 12) (hne : ¬ si = tj) (sz : Nat) : Met l yX2_reach wsPX2_reach ({ frames := 0, cells := 0, slots := 0, locals := 0 }) (va_Pc [.ref d0, .int (nI si), .int (nI tj)] (fun U => U.heap.size = sz ∧ va_P (dC, dI) vwCl [(d0, .inr (2, [.int 0, .ref (bb 0), .ref (bb 1), .ref (bb 2), .ref (bb 3), .int 0, .ref (bb 4), .ref (bb 5), .ref (bb 6), .ref (bb 7), .ref (bb 8), .int 0, .ref (bb 9), .ref (bb 10)])), ((bb 4), .inl ((kd 4), 144, .inl g)), ((bb 5), .inl ((kd 5), 12, .inl (fun _ => 0)))] U.heap ∧ va_K (dC, dI) vwCl [((kd 4), .int), ((kd 5), .int)] U ∧ va_D (fun _ => True) [(d0, .inr (2, [.int 0, .ref (bb 0), .ref (bb 1), .ref (bb 2), .ref (bb 3), .int 0, .ref (bb 4), .ref (bb 5), .ref (bb 6), .ref (bb 7), .ref (bb 8), .int 0, .ref (bb 9), .ref (bb 10)])), ((bb 4), .inl ((kd 4), 144, .inl g)), ((bb 5), .inl ((kd 5), 12, .inl (fun _ => 0)))])) (va_Qi (fun (r : Int32) (u : Unit) => r = 0) (fun (u : Unit) t => va_P (dC, dI) vwCl [(d0, .inr (2, [.int 0, .ref (bb 0), .ref (bb 1), .ref (bb 2), .ref (bb 3), .int ((1 : Int32) <<< ((nI si) &&& 31)), .ref (bb 4), .ref (bb 5), .ref (bb 6), .ref (bb 7), .ref (bb 8), .int 0, .ref (bb 9), .ref (bb 10)]))] t.heap ∧ va_K (dC, dI) vwCl [] t ∧ va_D (va_A [(d0, .inr (2, [.int 0, .ref (bb 0), .ref (bb 1), .ref (bb 2), .ref (bb 3), .int 0, .ref (bb 4), .ref (bb 5), .ref (bb 6), .ref (bb 7), .ref (bb 8), .int 0, .ref (bb 9), .ref (bb 10)])), ((bb 4), .inl ((kd 4), 144, .inl g)), ((bb 5), .inl ((kd 5), 12, .inl (fun _ => 0)))] sz) [(d0, .inr (2, [.int 0, .ref (bb 0), .ref (bb 1), .ref (bb 2), .ref (bb 3), .int ((1 : Int32) <<< ((nI si) &&& 31)), .ref (bb 4), .ref (bb 5), .ref (bb 6), .ref (bb 7), .ref (bb 8), .int 0, .ref (bb 9), .ref (bb 10)]))]) (va_A [(d0, .inr (2, [.int 0, .ref (bb 0), .ref (bb 1), .ref (bb 2), .ref (bb 3), .int 0, .ref (bb 4), .ref (bb 5), .ref (bb 6), .ref (bb 7), .ref (bb 8), .int 0, .ref (bb 9), .ref (bb 10)])), ((bb 4), .inl ((kd 4), 144, .inl g)), ((bb 5), .inl ((kd 5), 12, .inl (fun _ => 0)))] sz)) 0 0 (va_A [(d0, .inr (2, [.int 0, .ref (bb 0), .ref (bb 1), .ref (bb 2), .ref (bb 3), .int 0, .ref (bb 4), .ref (bb 5), .ref (bb 6), .ref (bb 7), .ref (bb 8), .int 0, .ref (bb 9), .ref (bb 10)])), ((bb 4), .inl ((kd 4), 144, .inl g)), ((bb 5), .inl ((kd 5), 12, .inl (fun _ => 0)))] sz) := by
  refine Met.ofW (cc := cX2_reach) (maxL := 8) (ret := (some .boolean)) (by decide) rfl ?_
  intro p e s m args below meth c s₁ B hml hv
  obtain ⟨rfl, hsz, hP, hK, hD0⟩ := hv
  have hx := B.exec
  have hb := B.bytes
  have hr := B.returns
  have hts := atoms_spec (ws := wsPX2_reach) B.pre
  have hown : s.vm.findClass RX2 = some m.cls := findClass_of_methodNamed B.named
  have hlocks := B.notSynchronized
  subst hsz
  have hD := hD0.self (sz := s.heap.size)
  generalize hAe : va_A [(d0, .inr (2, [.int 0, .ref (bb 0), .ref (bb 1), .ref (bb 2), .ref (bb 3), .int 0, .ref (bb 4), .ref (bb 5), .ref (bb 6), .ref (bb 7), .ref (bb 8), .int 0, .ref (bb 9), .ref (bb 10)])), ((bb 4), .inl ((kd 4), 144, .inl g)), ((bb 5), .inl ((kd 5), 12, .inl (fun _ => 0)))] s.heap.size = A at hD ⊢
  have hA : ∀ q : Nat, s.heap.size ≤ q → A q := fun q h => by rw [← hAe]; exact Or.inr h
  have hS : va_S A s.heap s.heap [] := va_S.rf
  have hP : va_P (dC, dI) vwCl [(d0, .inr (2, [.int 0, .ref (bb 0), .ref (bb 1), .ref (bb 2), .ref (bb 3), .int 0, .ref (bb 4), .ref (bb 5), .ref (bb 6), .ref (bb 7), .ref (bb 8), .int 0, .ref (bb 9), .ref (bb 10)])), ((bb 4), .inl ((kd 4), 144, .inl g)), ((bb 5), .inl ((kd 5), 12, .inl (fun _ => 0)))] s.heap := hP
  have hl := lv_entry ([.ref d0, .int (nI si), .int (nI tj)]) (n := 8) (Nat.le_of_ble_eq_true rfl)
  rw [lg_entry_eq]
  generalize (lg_sl ([.ref d0, .int (nI si), .int (nI tj)]) ++ List.replicate (8 - (lg_sl ([.ref d0, .int (nI si), .int (nI tj)])).length) Slot.unset).toArray = ls at hl ⊢
  have hl : lv_has ls 8 [(0, .ref d0), (1, .int (nI si)), (2, .int (nI tj))] := hl
  refine lv_aload_n hx hb dX2_reach_0 rfl (lv_at hl 0 rfl) ?_
  refine lv_iconst (v := 1) hx hb dX2_reach_1 (by decide) ?_
  refine lv_iload_n hx hb dX2_reach_2 rfl (lv_at hl 1 rfl) ?_
  refine lv_ishl hx hb dX2_reach_3 ?_
  refine lv_topi (fun y1 hy1 => ?_)
  obtain rfl : ((1 : Int32) <<< ((nI si) &&& 31)) = y1 := (hy1.trans (rfl)).symm
  refine va_put (D := (dC, dI)) (ci := 2) (v := .int ((1 : Int32) <<< ((nI si) &&& 31))) (ty := .int) (C := RX2) (T := TX2) (N := 14) hx hb hts iwsPX2_reach_in2 tyX2 tyX2_ok nmX2 hown hK hP hD hS 0 rfl rfl 5 (by decide) (hts (.fieldLink RX2 67 "OptimaWorks$NetDesk" "reached" "I") (by decide +kernel)) (fun _ h9 => h9) rfl (by decide +kernel) rfl rfl (Nat.le_of_ble_eq_true rfl) dX2_reach_4 (fun H locs hP hD hS => ?_)
  have hP : va_P (dC, dI) vwCl [(d0, .inr (2, [.int 0, .ref (bb 0), .ref (bb 1), .ref (bb 2), .ref (bb 3), .int ((1 : Int32) <<< ((nI si) &&& 31)), .ref (bb 4), .ref (bb 5), .ref (bb 6), .ref (bb 7), .ref (bb 8), .int 0, .ref (bb 9), .ref (bb 10)])), ((bb 4), .inl ((kd 4), 144, .inl g)), ((bb 5), .inl ((kd 5), 12, .inl (fun _ => 0)))] H := hP
  have hD : va_D A [(d0, .inr (2, [.int 0, .ref (bb 0), .ref (bb 1), .ref (bb 2), .ref (bb 3), .int ((1 : Int32) <<< ((nI si) &&& 31)), .ref (bb 4), .ref (bb 5), .ref (bb 6), .ref (bb 7), .ref (bb 8), .int 0, .ref (bb 9), .ref (bb 10)])), ((bb 4), .inl ((kd 4), 144, .inl g)), ((bb 5), .inl ((kd 5), 12, .inl (fun _ => 0)))] := hD
  refine lv_aload_n hx hb dX2_reach_7 rfl (lv_at hl 0 rfl) ?_
  refine va_get (D := (dC, dI)) (ci := 2) (v := .int ((1 : Int32) <<< ((nI si) &&& 31))) (C := RX2) (T := TX2) (N := 14) hx hb hts iwsPX2_reach_in2 hown hK hP 0 rfl rfl 5 (by decide) (hts (.fieldLink RX2 67 "OptimaWorks$NetDesk" "reached" "I") (by decide +kernel)) (fun _ h9 => h9) rfl dX2_reach_8 ?_
  refine lv_istore_n (lv' := [(3, .int ((1 : Int32) <<< ((nI si) &&& 31))), (0, .ref d0), (1, .int (nI si)), (2, .int (nI tj))]) hx hb dX2_reach_11 rfl hl (by decide) rfl (fun ls hl => ?_)
  refine lv_iconst (v := 0) hx hb dX2_reach_12 (by decide) ?_
  refine lv_istore (lv' := [(4, .int 0), (3, .int ((1 : Int32) <<< ((nI si) &&& 31))), (0, .ref d0), (1, .int (nI si)), (2, .int (nI tj))]) hx hb dX2_reach_13 hl (by decide) rfl (fun ls hl => ?_)
  refine lv_iload hx hb dX2_reach_15 (lv_at hl 0 rfl) ?_
  refine lv_bipush (v := 12) hx hb dX2_reach_17 (by decide) ?_
  refine lv_icmp_ge (tgt := 138) hx hb dX2_reach_19 (by decide) (fun c9 => absurd c9 (by decide)) (fun _ => ?_)
  refine lv_iload_n hx hb dX2_reach_22 rfl (lv_at hl 1 rfl) ?_
  refine lv_if_eq (tgt := 138) hx hb dX2_reach_23 (by decide) (fun c9 => False.elim (sh_ne0 si (by omega) c9)) (fun c_23 => ?_)
  have t_23 : ¬ (((1 : Int32) <<< ((nI si) &&& 31))).toInt = 0 := toI_neq c_23 rfl (by decide)
  refine lv_iconst (v := 0) hx hb dX2_reach_26 (by decide) ?_
  refine lv_istore (lv' := [(5, .int 0), (4, .int 0), (3, .int ((1 : Int32) <<< ((nI si) &&& 31))), (0, .ref d0), (1, .int (nI si)), (2, .int (nI tj))]) hx hb dX2_reach_27 hl (by decide) rfl (fun ls hl => ?_)
  refine lv_iconst (v := 0) hx hb dX2_reach_29 (by decide) ?_
  refine lv_istore (lv' := [(6, .int 0), (5, .int 0), (4, .int 0), (3, .int ((1 : Int32) <<< ((nI si) &&& 31))), (0, .ref d0), (1, .int (nI si)), (2, .int (nI tj))]) hx hb dX2_reach_30 hl (by decide) rfl (fun ls hl => ?_)
  have hl := lv_sub hl [3, 2, 1, 0, 4, 5, 6] (l' := [(3, .int ((1 : Int32) <<< ((nI si) &&& 31))), (4, .int 0), (5, .int 0), (6, .int (nI 0)), (0, .ref d0), (1, .int (nI si)), (2, .int (nI tj))]) rfl
  refine (fun (loop : ∀ (n9 : Nat) (i : Nat) (H : Heap) (locs : List Loc) (ls : Array Slot), (i ≤ 12) →  (12 < i + n9) → va_P (dC, dI) vwCl [(d0, .inr (2, [.int 0, .ref (bb 0), .ref (bb 1), .ref (bb 2), .ref (bb 3), .int ((1 : Int32) <<< ((nI si) &&& 31)), .ref (bb 4), .ref (bb 5), .ref (bb 6), .ref (bb 7), .ref (bb 8), .int 0, .ref (bb 9), .ref (bb 10)])), ((bb 4), .inl ((kd 4), 144, .inl g)), ((bb 5), .inl ((kd 5), 12, .inl (fun _ => 0)))] H → va_D A [(d0, .inr (2, [.int 0, .ref (bb 0), .ref (bb 1), .ref (bb 2), .ref (bb 3), .int ((1 : Int32) <<< ((nI si) &&& 31)), .ref (bb 4), .ref (bb 5), .ref (bb 6), .ref (bb 7), .ref (bb 8), .int 0, .ref (bb 9), .ref (bb 10)])), ((bb 4), .inl ((kd 4), 144, .inl g)), ((bb 5), .inl ((kd 5), 12, .inl (fun _ => 0)))] → va_S A s.heap H locs → lv_has ls 8 [(3, .int ((1 : Int32) <<< ((nI si) &&& 31))), (4, .int 0), (5, .int 0), (6, .int (nI i)), (0, .ref d0), (1, .int (nI si)), (2, .int (nI tj))] → W p l e _ s m _ below meth c H locs 0 0 _ (F0 m 32 ls [])) => loop (13) 0 _ _ _ (by omega) (by omega) hP hD hS hl) ?_
  intro n9
  induction n9 with
  | zero => intro i H locs ls hi hf9; exact False.elim (by omega)
  | succ n9 ih32 =>
    intro i H locs ls hi hf32 hP hD hS hl
    refine lv_iload hx hb dX2_reach_32 (lv_at hl 3 rfl) ?_
    refine lv_bipush (v := 12) hx hb dX2_reach_34 (by decide) ?_
    refine lv_icmp_ge (tgt := 129) hx hb dX2_reach_36 (by decide) (fun c_36 => ?_) (fun c_36 => ?_)
    · have t_36 : ((i : Nat) : Int) ≥ 12 := toI_ge c_36 (nI_toInt (by omega)) (by decide)
      refine lv_iload hx hb dX2_reach_129 (lv_at hl 2 rfl) ?_
      refine lv_istore_n (lv' := [(3, .int 0), (4, .int 0), (5, .int 0), (6, .int (nI i)), (0, .ref d0), (1, .int (nI si)), (2, .int (nI tj))]) hx hb dX2_reach_131 rfl hl (by decide) rfl (fun ls hl => ?_)
      refine lv_iinc (v := 1) (lv' := [(4, .int 1), (3, .int 0), (5, .int 0), (6, .int (nI i)), (0, .ref d0), (1, .int (nI si)), (2, .int (nI tj))]) hx hb dX2_reach_132 hl (k := 1) rfl (by decide) (by decide) rfl (fun ls hl => ?_)
      refine lv_goto (tgt := 15) hx hb dX2_reach_135 (by decide) ?_
      refine lv_iload hx hb dX2_reach_15 (lv_at hl 0 rfl) ?_
      refine lv_bipush (v := 12) hx hb dX2_reach_17 (by decide) ?_
      refine lv_icmp_ge (tgt := 138) hx hb dX2_reach_19 (by decide) (fun c9 => absurd c9 (by decide)) (fun _ => ?_)
      refine lv_iload_n hx hb dX2_reach_22 rfl (lv_at hl 1 rfl) ?_
      refine lv_if_eq (tgt := 138) hx hb dX2_reach_23 (by decide) (fun _ => ?_) (fun c9 => absurd (by decide) c9)
      refine lv_aload_n hx hb dX2_reach_138 rfl (lv_at hl 4 rfl) ?_
      refine va_get (D := (dC, dI)) (ci := 2) (v := .int ((1 : Int32) <<< ((nI si) &&& 31))) (C := RX2) (T := TX2) (N := 14) hx hb hts iwsPX2_reach_in2 hown hK hP 0 rfl rfl 5 (by decide) (hts (.fieldLink RX2 67 "OptimaWorks$NetDesk" "reached" "I") (by decide +kernel)) (fun _ h9 => h9) rfl dX2_reach_139 ?_
      refine lv_iload_n hx hb dX2_reach_142 rfl (lv_at hl 6 rfl) ?_
      refine lv_ishr hx hb dX2_reach_143 ?_
      refine lv_iconst (v := 1) hx hb dX2_reach_144 (by decide) ?_
      refine lv_iand hx hb dX2_reach_145 ?_
      refine lv_topi (fun y2 hy2 => ?_)
      obtain rfl : 0 = y2 := (hy2.trans (sh_bit si (by omega) tj (by omega) hne)).symm
      refine lv_if_eq (tgt := 153) hx hb dX2_reach_146 (by decide) (fun _ => ?_) (fun c9 => absurd (by decide) c9)
      refine lv_iconst (v := 0) hx hb dX2_reach_153 (by decide) ?_
      refine W.widen (k := 0) (n := 0) (by decide +kernel) (by decide +kernel) ?_
      exact W.zret (v := 0) hx hb hr rfl (fun t ht hW => ⟨⟨0, (), rfl, by (first | rfl | assumption | trivial | omega | (simp [c_36]; done) | (simp; omega)), by rw [ht]; exact hP.sub [0] rfl, va_K.moved hW.alike (hK.sub [] rfl), hD.sub [0] (by decide) rfl⟩, hS.F ht⟩) hS.2.2 dX2_reach_154
    · have t_36 : ¬ ((i : Nat) : Int) ≥ 12 := toI_nge c_36 (nI_toInt (by omega)) (by decide)
      refine lv_iconst (v := 0) hx hb dX2_reach_39 (by decide) ?_
      refine lv_istore (lv' := [(7, .int 0), (3, .int ((1 : Int32) <<< ((nI si) &&& 31))), (4, .int 0), (5, .int 0), (6, .int (nI i)), (0, .ref d0), (1, .int (nI si)), (2, .int (nI tj))]) hx hb dX2_reach_40 hl (by decide) rfl (fun ls hl => ?_)
      have hl := lv_sub hl [0, 1, 2, 3, 4, 5, 6, 7] (l' := [(7, .int (nI 0)), (3, .int ((1 : Int32) <<< ((nI si) &&& 31))), (4, .int 0), (5, .int 0), (6, .int (nI i)), (0, .ref d0), (1, .int (nI si)), (2, .int (nI tj))]) rfl
      refine (fun (loop : ∀ (n9 : Nat) (j1 : Nat) (H : Heap) (locs : List Loc) (ls : Array Slot), (j1 ≤ 12) →  (12 < j1 + n9) → va_P (dC, dI) vwCl [(d0, .inr (2, [.int 0, .ref (bb 0), .ref (bb 1), .ref (bb 2), .ref (bb 3), .int ((1 : Int32) <<< ((nI si) &&& 31)), .ref (bb 4), .ref (bb 5), .ref (bb 6), .ref (bb 7), .ref (bb 8), .int 0, .ref (bb 9), .ref (bb 10)])), ((bb 4), .inl ((kd 4), 144, .inl g)), ((bb 5), .inl ((kd 5), 12, .inl (fun _ => 0)))] H → va_D A [(d0, .inr (2, [.int 0, .ref (bb 0), .ref (bb 1), .ref (bb 2), .ref (bb 3), .int ((1 : Int32) <<< ((nI si) &&& 31)), .ref (bb 4), .ref (bb 5), .ref (bb 6), .ref (bb 7), .ref (bb 8), .int 0, .ref (bb 9), .ref (bb 10)])), ((bb 4), .inl ((kd 4), 144, .inl g)), ((bb 5), .inl ((kd 5), 12, .inl (fun _ => 0)))] → va_S A s.heap H locs → lv_has ls 8 [(7, .int (nI j1)), (3, .int ((1 : Int32) <<< ((nI si) &&& 31))), (4, .int 0), (5, .int 0), (6, .int (nI i)), (0, .ref d0), (1, .int (nI si)), (2, .int (nI tj))] → W p l e _ s m _ below meth c H locs 0 0 _ (F0 m 42 ls [])) => loop (13) 0 _ _ _ (by omega) (by omega) hP hD hS hl) ?_
      intro n9
      induction n9 with
      | zero => intro j1 H locs ls hj1 hf9; exact False.elim (by omega)
      | succ n9 ih42_1 =>
        intro j1 H locs ls hj1 hf42_1 hP hD hS hl
        refine lv_iload hx hb dX2_reach_42 (lv_at hl 0 rfl) ?_
        refine lv_bipush (v := 12) hx hb dX2_reach_44 (by decide) ?_
        refine lv_icmp_ge (tgt := 123) hx hb dX2_reach_46 (by decide) (fun c_46 => ?_) (fun c_46 => ?_)
        · have t_46 : ((j1 : Nat) : Int) ≥ 12 := toI_ge c_46 (nI_toInt (by omega)) (by decide)
          refine lv_iinc (v := (nI (i + 1))) (lv' := [(6, .int (nI (i + 1))), (7, .int (nI j1)), (3, .int ((1 : Int32) <<< ((nI si) &&& 31))), (4, .int 0), (5, .int 0), (0, .ref d0), (1, .int (nI si)), (2, .int (nI tj))]) hx hb dX2_reach_123 hl (k := 4) rfl (nI_add i 1) (by decide) rfl (fun ls hl => ?_)
          refine lv_goto (tgt := 32) hx hb dX2_reach_126 (by decide) ?_
          have hl := lv_sub hl [2, 3, 4, 0, 5, 6, 7] (l' := [(3, .int ((1 : Int32) <<< ((nI si) &&& 31))), (4, .int 0), (5, .int 0), (6, .int (nI (i + 1))), (0, .ref d0), (1, .int (nI si)), (2, .int (nI tj))]) rfl
          exact ih32 (i + 1) _ _ _ (by omega) (by omega) hP hD hS hl
        · have t_46 : ¬ ((j1 : Nat) : Int) ≥ 12 := toI_nge c_46 (nI_toInt (by omega)) (by decide)
          refine lv_iload_n hx hb dX2_reach_49 rfl (lv_at hl 1 rfl) ?_
          refine lv_iload hx hb dX2_reach_50 (lv_at hl 4 rfl) ?_
          refine lv_ishr hx hb dX2_reach_52 ?_
          refine lv_iconst (v := 1) hx hb dX2_reach_53 (by decide) ?_
          refine lv_iand hx hb dX2_reach_54 ?_
          refine lv_if_eq (tgt := 123) hx hb dX2_reach_55 (by decide) (fun c_55 => ?_) (fun c_55 => ?_)
          · have t_55 : (((((1 : Int32) <<< ((nI si) &&& 31)) >>> ((nI i) &&& 31)) &&& 1)).toInt = 0 := toI_eq c_55 rfl (by decide)
            refine lv_iinc (v := (nI (i + 1))) (lv' := [(6, .int (nI (i + 1))), (7, .int (nI j1)), (3, .int ((1 : Int32) <<< ((nI si) &&& 31))), (4, .int 0), (5, .int 0), (0, .ref d0), (1, .int (nI si)), (2, .int (nI tj))]) hx hb dX2_reach_123 hl (k := 4) rfl (nI_add i 1) (by decide) rfl (fun ls hl => ?_)
            refine lv_goto (tgt := 32) hx hb dX2_reach_126 (by decide) ?_
            have hl := lv_sub hl [2, 3, 4, 0, 5, 6, 7] (l' := [(3, .int ((1 : Int32) <<< ((nI si) &&& 31))), (4, .int 0), (5, .int 0), (6, .int (nI (i + 1))), (0, .ref d0), (1, .int (nI si)), (2, .int (nI tj))]) rfl
            exact ih32 (i + 1) _ _ _ (by omega) (by omega) hP hD hS hl
          · have t_55 : ¬ (((((1 : Int32) <<< ((nI si) &&& 31)) >>> ((nI i) &&& 31)) &&& 1)).toInt = 0 := toI_neq c_55 rfl (by decide)
            refine lv_aload_n hx hb dX2_reach_58 rfl (lv_at hl 5 rfl) ?_
            refine va_get (D := (dC, dI)) (ci := 2) (v := .int ((1 : Int32) <<< ((nI si) &&& 31))) (C := RX2) (T := TX2) (N := 14) hx hb hts iwsPX2_reach_in2 hown hK hP 0 rfl rfl 5 (by decide) (hts (.fieldLink RX2 67 "OptimaWorks$NetDesk" "reached" "I") (by decide +kernel)) (fun _ h9 => h9) rfl dX2_reach_59 ?_
            refine lv_iload hx hb dX2_reach_62 (lv_at hl 0 rfl) ?_
            refine lv_ishr hx hb dX2_reach_64 ?_
            refine lv_iconst (v := 1) hx hb dX2_reach_65 (by decide) ?_
            refine lv_iand hx hb dX2_reach_66 ?_
            refine lv_if_ne (tgt := 117) hx hb dX2_reach_67 (by decide) (fun c_67 => ?_) (fun c_67 => ?_)
            · have t_67 : (((((1 : Int32) <<< ((nI si) &&& 31)) >>> ((nI j1) &&& 31)) &&& 1)).toInt ≠ 0 := toI_ne c_67 rfl (by decide)
              refine lv_iinc (v := (nI (j1 + 1))) (lv' := [(7, .int (nI (j1 + 1))), (3, .int ((1 : Int32) <<< ((nI si) &&& 31))), (4, .int 0), (5, .int 0), (6, .int (nI i)), (0, .ref d0), (1, .int (nI si)), (2, .int (nI tj))]) hx hb dX2_reach_117 hl (k := 0) rfl (nI_add j1 1) (by decide) rfl (fun ls hl => ?_)
              refine lv_goto (tgt := 42) hx hb dX2_reach_120 (by decide) ?_
              have hl := lv_sub hl [0, 1, 2, 3, 4, 5, 6, 7] (l' := [(7, .int (nI (j1 + 1))), (3, .int ((1 : Int32) <<< ((nI si) &&& 31))), (4, .int 0), (5, .int 0), (6, .int (nI i)), (0, .ref d0), (1, .int (nI si)), (2, .int (nI tj))]) rfl
              exact ih42_1 (j1 + 1) _ _ _ (by omega) (by omega) hP hD hS hl
            · have t_67 : (((((1 : Int32) <<< ((nI si) &&& 31)) >>> ((nI j1) &&& 31)) &&& 1)).toInt = 0 := toI_nne c_67 rfl (by decide)
              refine lv_aload_n hx hb dX2_reach_70 rfl (lv_at hl 5 rfl) ?_
              refine va_get (D := (dC, dI)) (ci := 2) (v := .ref (bb 4)) (C := RX2) (T := TX2) (N := 14) hx hb hts iwsPX2_reach_in2 hown hK hP 0 rfl rfl 6 (by decide) (hts (.fieldLink RX2 24 "OptimaWorks$NetDesk" "free" "[I") (by decide +kernel)) (fun _ h9 => h9) rfl dX2_reach_71 ?_
              refine lv_iload hx hb dX2_reach_74 (lv_at hl 4 rfl) ?_
              refine lv_bipush (v := 12) hx hb dX2_reach_76 (by decide) ?_
              refine lv_imul hx hb dX2_reach_78 ?_
              refine lv_topi (fun y3 hy3 => ?_)
              obtain rfl : (nI (i * 12)) = y3 := (hy3.trans (pk_mul i 12)).symm
              refine lv_iload hx hb dX2_reach_79 (lv_at hl 0 rfl) ?_
              refine lv_iadd hx hb dX2_reach_81 ?_
              refine lv_topi (fun y4 hy4 => ?_)
              obtain rfl : (nI ((i * 12) + j1)) = y4 := (hy4.trans (nI_add (i * 12) j1)).symm
              refine va_iald hx hb hK hP 1 0 rfl rfl (vp_in_nI (show ((i * 12) + j1) < 144 by omega) (by omega)) dX2_reach_82 ?_
              refine lv_topi (fun y5 hy5 => ?_)
              obtain rfl : 0 = y5 := (hy5.trans (hg _ (by rw [nI_clamp (by omega)]; omega))).symm
              refine lv_if_le (tgt := 117) hx hb dX2_reach_83 (by decide) (fun _ => ?_) (fun c9 => absurd (by decide) c9)
              refine lv_iinc (v := (nI (j1 + 1))) (lv' := [(7, .int (nI (j1 + 1))), (3, .int ((1 : Int32) <<< ((nI si) &&& 31))), (4, .int 0), (5, .int 0), (6, .int (nI i)), (0, .ref d0), (1, .int (nI si)), (2, .int (nI tj))]) hx hb dX2_reach_117 hl (k := 0) rfl (nI_add j1 1) (by decide) rfl (fun ls hl => ?_)
              refine lv_goto (tgt := 42) hx hb dX2_reach_120 (by decide) ?_
              have hl := lv_sub hl [0, 1, 2, 3, 4, 5, 6, 7] (l' := [(7, .int (nI (j1 + 1))), (3, .int ((1 : Int32) <<< ((nI si) &&& 31))), (4, .int 0), (5, .int 0), (6, .int (nI i)), (0, .ref d0), (1, .int (nI si)), (2, .int (nI tj))]) rfl
              exact ih42_1 (j1 + 1) _ _ _ (by omega) (by omega) hP hD hS hl
theorem dX2_fill_0 : decode cX2_fill 0 = .ok (.aload_n 0, 1) := by decide +kernel
theorem dX2_fill_1 : decode cX2_fill 1 = .ok (.getfield 24, 3) := by decide +kernel
theorem dX2_fill_4 : decode cX2_fill 4 = .ok (.iconst 0, 1) := by decide +kernel
theorem dX2_fill_5 : decode cX2_fill 5 = .ok (.invokestatic 49, 3) := by decide +kernel
theorem dX2_fill_8 : decode cX2_fill 8 = .ok (.iconst 0, 1) := by decide +kernel
theorem dX2_fill_9 : decode cX2_fill 9 = .ok (.istore_n 3, 1) := by decide +kernel
theorem dX2_fill_10 : decode cX2_fill 10 = .ok (.iload_n 3, 1) := by decide +kernel
theorem dX2_fill_11 : decode cX2_fill 11 = .ok (.aload_n 0, 1) := by decide +kernel
theorem dX2_fill_12 : decode cX2_fill 12 = .ok (.getfield 45, 3) := by decide +kernel
theorem dX2_fill_15 : decode cX2_fill 15 = .ok (.if_icmp .ge 39, 3) := by decide +kernel
theorem dX2_fill_54 : decode cX2_fill 54 = .ok (.iconst 0, 1) := by decide +kernel
theorem dX2_fill_55 : decode cX2_fill 55 = .ok (.istore_n 3, 1) := by decide +kernel
theorem dX2_fill_56 : decode cX2_fill 56 = .ok (.iconst 0, 1) := by decide +kernel
theorem dX2_fill_57 : decode cX2_fill 57 = .ok (.istore 4, 2) := by decide +kernel
theorem dX2_fill_59 : decode cX2_fill 59 = .ok (.iload 4, 2) := by decide +kernel
theorem dX2_fill_61 : decode cX2_fill 61 = .ok (.ldc 55, 2) := by decide +kernel
theorem dX2_fill_63 : decode cX2_fill 63 = .ok (.if_icmp .ge 166, 3) := by decide +kernel
theorem dX2_fill_66 : decode cX2_fill 66 = .ok (.aload_n 0, 1) := by decide +kernel
theorem dX2_fill_67 : decode cX2_fill 67 = .ok (.iload_n 1, 1) := by decide +kernel
theorem dX2_fill_68 : decode cX2_fill 68 = .ok (.iload_n 2, 1) := by decide +kernel
theorem dX2_fill_69 : decode cX2_fill 69 = .ok (.invokevirtual 56, 3) := by decide +kernel
theorem dX2_fill_72 : decode cX2_fill 72 = .ok (.ifCond .eq 157, 3) := by decide +kernel
theorem dX2_fill_229 : decode cX2_fill 229 = .ok (.iload_n 3, 1) := by decide +kernel
theorem dX2_fill_230 : decode cX2_fill 230 = .ok (.ireturn, 1) := by decide +kernel
def wsPX2_fill : List Cond := .code yX2_fill cX2_fill 8 (some .int) :: ([.fieldLink RX2 24 "OptimaWorks$NetDesk" "free" "[I", .fieldLink RX2 45 "OptimaWorks$NetDesk" "arcs" "I", .constant RX2 55 1000000] ++ wsX20 ++ (va_wsS RX2 49 yJ7_fill_53178 wsPJ7_fill_53178) ++ (wsV RX2 56 RX2 yX2_reach wsPX2_reach))
theorem iwsPX2_fill_in2 : ∀ w ∈ wsX20, w ∈ wsPX2_fill := fun _ h => List.mem_cons_of_mem _ (List.mem_append_left _ (List.mem_append_left _ (List.mem_append_right _ h)))
theorem gwsPX2_fill_0 : GoodIn wsPX2_fill (va_wsS RX2 49 yJ7_fill_53178 wsPJ7_fill_53178) := goodIn_sub (fun _ h => List.mem_cons_of_mem _ (List.mem_append_left _ (List.mem_append_right _ h))) (by decide +kernel)
theorem gwsPX2_fill_1 : GoodIn wsPX2_fill (wsV RX2 56 RX2 yX2_reach wsPX2_reach) := goodIn_sub (fun _ h => List.mem_cons_of_mem _ (List.mem_append_right _ h)) (by decide +kernel)
set_option maxHeartbeats 4000000 in
set_option maxRecDepth 100000 in
/-- fill(s, t) without arcs -/
theorem p_X2_fill (l : Launch) (dC : Nat → ClassId) (dI : Nat → Nat → Nat) (d0 : Nat) (bb : Nat → Nat) (kd : Nat → ClassId) (si : Nat) (tj : Nat) (hsi : si < 12) (htj : tj < 12) (hne : ¬ si = tj) (sz : Nat) : Met l yX2_fill wsPX2_fill ({ frames := 1, cells := 0, slots := 0, locals := 27 }) (va_Pc [.ref d0, .int (nI si), .int (nI tj)] (fun U => U.heap.size = sz ∧ va_P (dC, dI) vwCl [(d0, .inr (2, [.int 0, .ref (bb 0), .ref (bb 1), .ref (bb 2), .ref (bb 3), .int 0, .ref (bb 4), .ref (bb 5), .ref (bb 6), .ref (bb 7), .ref (bb 8), .int 0, .ref (bb 9), .ref (bb 10)])), ((bb 4), .inl ((kd 4), 144, .inl (fun _ => 0))), ((bb 5), .inl ((kd 5), 12, .inl (fun _ => 0)))] U.heap ∧ va_K (dC, dI) vwCl [((kd 4), .int), ((kd 5), .int)] U ∧ va_D (fun _ => True) [(d0, .inr (2, [.int 0, .ref (bb 0), .ref (bb 1), .ref (bb 2), .ref (bb 3), .int 0, .ref (bb 4), .ref (bb 5), .ref (bb 6), .ref (bb 7), .ref (bb 8), .int 0, .ref (bb 9), .ref (bb 10)])), ((bb 4), .inl ((kd 4), 144, .inl (fun _ => 0))), ((bb 5), .inl ((kd 5), 12, .inl (fun _ => 0)))])) (va_Qi (fun (r : Int32) (u : Unit) => r = 0) (fun (u : Unit) t => va_P (dC, dI) vwCl [(d0, .inr (2, [.int 0, .ref (bb 0), .ref (bb 1), .ref (bb 2), .ref (bb 3), .int ((1 : Int32) <<< ((nI si) &&& 31)), .ref (bb 4), .ref (bb 5), .ref (bb 6), .ref (bb 7), .ref (bb 8), .int 0, .ref (bb 9), .ref (bb 10)]))] t.heap ∧ va_K (dC, dI) vwCl [] t ∧ va_D (va_A [(d0, .inr (2, [.int 0, .ref (bb 0), .ref (bb 1), .ref (bb 2), .ref (bb 3), .int 0, .ref (bb 4), .ref (bb 5), .ref (bb 6), .ref (bb 7), .ref (bb 8), .int 0, .ref (bb 9), .ref (bb 10)])), ((bb 4), .inl ((kd 4), 144, .inl (fun _ => 0))), ((bb 5), .inl ((kd 5), 12, .inl (fun _ => 0)))] sz) [(d0, .inr (2, [.int 0, .ref (bb 0), .ref (bb 1), .ref (bb 2), .ref (bb 3), .int ((1 : Int32) <<< ((nI si) &&& 31)), .ref (bb 4), .ref (bb 5), .ref (bb 6), .ref (bb 7), .ref (bb 8), .int 0, .ref (bb 9), .ref (bb 10)]))]) (va_A [(d0, .inr (2, [.int 0, .ref (bb 0), .ref (bb 1), .ref (bb 2), .ref (bb 3), .int 0, .ref (bb 4), .ref (bb 5), .ref (bb 6), .ref (bb 7), .ref (bb 8), .int 0, .ref (bb 9), .ref (bb 10)])), ((bb 4), .inl ((kd 4), 144, .inl (fun _ => 0))), ((bb 5), .inl ((kd 5), 12, .inl (fun _ => 0)))] sz)) 0 0 (va_A [(d0, .inr (2, [.int 0, .ref (bb 0), .ref (bb 1), .ref (bb 2), .ref (bb 3), .int 0, .ref (bb 4), .ref (bb 5), .ref (bb 6), .ref (bb 7), .ref (bb 8), .int 0, .ref (bb 9), .ref (bb 10)])), ((bb 4), .inl ((kd 4), 144, .inl (fun _ => 0))), ((bb 5), .inl ((kd 5), 12, .inl (fun _ => 0)))] sz) := by
  refine Met.ofW (cc := cX2_fill) (maxL := 8) (ret := (some .int)) (by decide) rfl ?_
  intro p e s m args below meth c s₁ B hml hv
  obtain ⟨rfl, hsz, hP, hK, hD0⟩ := hv
  have hx := B.exec
  have hb := B.bytes
  have hr := B.returns
  have hts := atoms_spec (ws := wsPX2_fill) B.pre
  have hown : s.vm.findClass RX2 = some m.cls := findClass_of_methodNamed B.named
  have hlocks := B.notSynchronized
  subst hsz
  have hD := hD0.self (sz := s.heap.size)
  generalize hAe : va_A [(d0, .inr (2, [.int 0, .ref (bb 0), .ref (bb 1), .ref (bb 2), .ref (bb 3), .int 0, .ref (bb 4), .ref (bb 5), .ref (bb 6), .ref (bb 7), .ref (bb 8), .int 0, .ref (bb 9), .ref (bb 10)])), ((bb 4), .inl ((kd 4), 144, .inl (fun _ => 0))), ((bb 5), .inl ((kd 5), 12, .inl (fun _ => 0)))] s.heap.size = A at hD ⊢
  have hA : ∀ q : Nat, s.heap.size ≤ q → A q := fun q h => by rw [← hAe]; exact Or.inr h
  have hS : va_S A s.heap s.heap [] := va_S.rf
  have hP : va_P (dC, dI) vwCl [(d0, .inr (2, [.int 0, .ref (bb 0), .ref (bb 1), .ref (bb 2), .ref (bb 3), .int 0, .ref (bb 4), .ref (bb 5), .ref (bb 6), .ref (bb 7), .ref (bb 8), .int 0, .ref (bb 9), .ref (bb 10)])), ((bb 4), .inl ((kd 4), 144, .inl (fun _ => 0))), ((bb 5), .inl ((kd 5), 12, .inl (fun _ => 0)))] s.heap := hP
  have hl := lv_entry ([.ref d0, .int (nI si), .int (nI tj)]) (n := 8) (Nat.le_of_ble_eq_true rfl)
  rw [lg_entry_eq]
  generalize (lg_sl ([.ref d0, .int (nI si), .int (nI tj)]) ++ List.replicate (8 - (lg_sl ([.ref d0, .int (nI si), .int (nI tj)])).length) Slot.unset).toArray = ls at hl ⊢
  have hl : lv_has ls 8 [(0, .ref d0), (1, .int (nI si)), (2, .int (nI tj))] := hl
  refine lv_aload_n hx hb dX2_fill_0 rfl (lv_at hl 0 rfl) ?_
  refine va_get (D := (dC, dI)) (ci := 2) (v := .ref (bb 4)) (C := RX2) (T := TX2) (N := 14) hx hb hts iwsPX2_fill_in2 hown hK hP 0 rfl rfl 6 (by decide) (hts (.fieldLink RX2 24 "OptimaWorks$NetDesk" "free" "[I") (by decide +kernel)) (fun _ h9 => h9) rfl dX2_fill_1 ?_
  refine lv_iconst (v := 0) hx hb dX2_fill_4 (by decide) ?_
  have hPc := hP.sub (ws' := [((bb 4), .inl ((kd 4), 144, .inl (fun _ => 0)))]) [1] rfl
  have hDc := hD.sub (ws' := [((bb 4), .inl ((kd 4), 144, .inl (fun _ => 0)))]) [1] (by decide) rfl
  have hKc := hK.sub (tys' := [((kd 4), .int)]) [0] rfl
  have hFc := va_free (wc := [((bb 4), .inl ((kd 4), 144, .inl (fun _ => 0)))]) hD hS hA [1] rfl
  refine va_callv (va_runS (As := [.ref (bb 4), .int 0]) (rest := []) ⟨hx, hb, hml, hown, hts⟩ (p_J7_fill_53178 l dC dI (bb 4) (kd 4) 144 (by first | omega | decide | assumption | rfl) (fun _ => 0) 0 s.heap.size) (va_cwS 2 hts gwsPX2_fill_0 rfl rfl rfl (by decide +kernel) ⟨by decide +kernel, by decide +kernel⟩) ⟨fun a U g mk q => by obtain ⟨q0, q1, qP, qK, qD⟩ := q; exact ⟨q0, q1, qP, va_K.moved (u := U) (U := U.calling g mk a) (Vm.Alike.refl U.vm) qK, qD⟩, fun U hU9 hW => ⟨rfl, by rw [hU9], by rw [hU9]; exact hPc, va_K.moved hW.alike hKc, hDc.weaken (fun _ _ _ _ => trivial)⟩⟩ rfl rfl hl.1 rfl (lv_room (Nat.le_of_ble_eq_true rfl)) dX2_fill_5 ⟨by decide +kernel, by decide +kernel⟩) hS (fun q _ h => hFc q h) hFc (fun u t H1 locs ht hvm hw hB hz1 hk1 hS => ?_)
  obtain ⟨g5, hwit5⟩ : ∃ w9, w9 = u := ⟨u, rfl⟩
  subst hwit5
  obtain ⟨hP1, hK1, hD1⟩ := hB
  rw [ht] at hP1
  have hK1 := va_K.moved hvm.symm hK1
  obtain ⟨hP, hD⟩ := va_join (wr := [(d0, .inr (2, [.int 0, .ref (bb 0), .ref (bb 1), .ref (bb 2), .ref (bb 3), .int 0, .ref (bb 4), .ref (bb 5), .ref (bb 6), .ref (bb 7), .ref (bb 8), .int 0, .ref (bb 9), .ref (bb 10)])), ((bb 5), .inl ((kd 5), 12, .inl (fun _ => 0)))]) (w1 := [((bb 4), .inl ((kd 4), 144, .inl g5))]) hP hD [1] [0, 2] rfl rfl (by decide) (by decide) hk1 hFc hP1 hD1
  generalize H1 = H at hP hS ⊢
  have hP : va_P (dC, dI) vwCl [(d0, .inr (2, [.int 0, .ref (bb 0), .ref (bb 1), .ref (bb 2), .ref (bb 3), .int 0, .ref (bb 4), .ref (bb 5), .ref (bb 6), .ref (bb 7), .ref (bb 8), .int 0, .ref (bb 9), .ref (bb 10)])), ((bb 5), .inl ((kd 5), 12, .inl (fun _ => 0))), ((bb 4), .inl ((kd 4), 144, .inl g5))] H := hP
  have hD : va_D A [(d0, .inr (2, [.int 0, .ref (bb 0), .ref (bb 1), .ref (bb 2), .ref (bb 3), .int 0, .ref (bb 4), .ref (bb 5), .ref (bb 6), .ref (bb 7), .ref (bb 8), .int 0, .ref (bb 9), .ref (bb 10)])), ((bb 5), .inl ((kd 5), 12, .inl (fun _ => 0))), ((bb 4), .inl ((kd 4), 144, .inl g5))] := hD
  have f5_0 := hw
  try dsimp only at f5_0
  refine lv_iconst (v := 0) hx hb dX2_fill_8 (by decide) ?_
  refine lv_istore_n (lv' := [(3, .int 0), (0, .ref d0), (1, .int (nI si)), (2, .int (nI tj))]) hx hb dX2_fill_9 rfl hl (by decide) rfl (fun ls hl => ?_)
  refine lv_iload_n hx hb dX2_fill_10 rfl (lv_at hl 0 rfl) ?_
  refine lv_aload_n hx hb dX2_fill_11 rfl (lv_at hl 1 rfl) ?_
  refine va_get (D := (dC, dI)) (ci := 2) (v := .int 0) (C := RX2) (T := TX2) (N := 14) hx hb hts iwsPX2_fill_in2 hown hK hP 0 rfl rfl 0 (by decide) (hts (.fieldLink RX2 45 "OptimaWorks$NetDesk" "arcs" "I") (by decide +kernel)) (fun _ h9 => h9) rfl dX2_fill_12 ?_
  refine lv_icmp_ge (tgt := 54) hx hb dX2_fill_15 (by decide) (fun _ => ?_) (fun c9 => absurd (by decide) c9)
  refine lv_iconst (v := 0) hx hb dX2_fill_54 (by decide) ?_
  refine lv_istore_n (lv' := [(3, .int 0), (0, .ref d0), (1, .int (nI si)), (2, .int (nI tj))]) hx hb dX2_fill_55 rfl hl (by decide) rfl (fun ls hl => ?_)
  refine lv_iconst (v := 0) hx hb dX2_fill_56 (by decide) ?_
  refine lv_istore (lv' := [(4, .int 0), (3, .int 0), (0, .ref d0), (1, .int (nI si)), (2, .int (nI tj))]) hx hb dX2_fill_57 hl (by decide) rfl (fun ls hl => ?_)
  refine lv_iload hx hb dX2_fill_59 (lv_at hl 0 rfl) ?_
  refine lv_ldc (v := 1000000) hx hb hown (hts (.constant RX2 55 1000000) (by decide +kernel)) dX2_fill_61 ?_
  refine lv_icmp_ge (tgt := 229) hx hb dX2_fill_63 (by decide) (fun c9 => absurd c9 (by decide)) (fun _ => ?_)
  refine lv_aload_n hx hb dX2_fill_66 rfl (lv_at hl 2 rfl) ?_
  refine lv_iload_n hx hb dX2_fill_67 rfl (lv_at hl 3 rfl) ?_
  refine lv_iload_n hx hb dX2_fill_68 rfl (lv_at hl 4 rfl) ?_
  have hPc := hP.sub (ws' := [(d0, .inr (2, [.int 0, .ref (bb 0), .ref (bb 1), .ref (bb 2), .ref (bb 3), .int 0, .ref (bb 4), .ref (bb 5), .ref (bb 6), .ref (bb 7), .ref (bb 8), .int 0, .ref (bb 9), .ref (bb 10)])), ((bb 4), .inl ((kd 4), 144, .inl g5)), ((bb 5), .inl ((kd 5), 12, .inl (fun _ => 0)))]) [0, 2, 1] rfl
  have hDc := hD.sub (ws' := [(d0, .inr (2, [.int 0, .ref (bb 0), .ref (bb 1), .ref (bb 2), .ref (bb 3), .int 0, .ref (bb 4), .ref (bb 5), .ref (bb 6), .ref (bb 7), .ref (bb 8), .int 0, .ref (bb 9), .ref (bb 10)])), ((bb 4), .inl ((kd 4), 144, .inl g5)), ((bb 5), .inl ((kd 5), 12, .inl (fun _ => 0)))]) [0, 2, 1] (by decide) rfl
  have hKc := hK.sub (tys' := [((kd 4), .int), ((kd 5), .int)]) [0, 1] rfl
  have hFc := va_free (wc := [(d0, .inr (2, [.int 0, .ref (bb 0), .ref (bb 1), .ref (bb 2), .ref (bb 3), .int 0, .ref (bb 4), .ref (bb 5), .ref (bb 6), .ref (bb 7), .ref (bb 8), .int 0, .ref (bb 9), .ref (bb 10)])), ((bb 4), .inl ((kd 4), 144, .inl g5)), ((bb 5), .inl ((kd 5), 12, .inl (fun _ => 0)))]) hD hS hA [0, 2, 1] rfl
  refine va_calli (va_runV (As := [.int (nI si), .int (nI tj)]) (rest := []) ⟨hx, hb, hml, hown, hts⟩ (p_X2_reach l dC dI d0 bb kd g5 (f5_0) si tj (by first | omega | decide | assumption | rfl) (by first | omega | decide | assumption | rfl) (by first | omega | decide | assumption | rfl) H.size) (cwV 2 hts gwsPX2_fill_1 rfl rfl rfl (by decide +kernel) ⟨by decide +kernel, by decide +kernel⟩) ⟨fun a U g mk q => by obtain ⟨q0, q1, qP, qK, qD⟩ := q; exact ⟨q0, q1, qP, va_K.moved (u := U) (U := U.calling g mk a) (Vm.Alike.refl U.vm) qK, qD⟩, va_recv hKc hPc (ci := 2) (q0 := 0) rfl rfl, fun U hU9 hW => ⟨rfl, by rw [hU9], by rw [hU9]; exact hPc, va_K.moved hW.alike hKc, hDc.weaken (fun _ _ _ _ => trivial)⟩⟩ rfl rfl hl.1 rfl (lv_room (Nat.le_of_ble_eq_true rfl)) dX2_fill_69 ⟨by decide +kernel, by decide +kernel⟩) hS (fun q _ h => hFc q h) hFc (fun r69 u t H1 locs ht hvm hw hB hz1 hk1 hS => ?_)
  obtain ⟨hP1, hK1, hD1⟩ := hB
  rw [ht] at hP1
  have hK1 := va_K.moved hvm.symm hK1
  obtain ⟨hP, hD⟩ := va_join (wr := []) (w1 := [(d0, .inr (2, [.int 0, .ref (bb 0), .ref (bb 1), .ref (bb 2), .ref (bb 3), .int ((1 : Int32) <<< ((nI si) &&& 31)), .ref (bb 4), .ref (bb 5), .ref (bb 6), .ref (bb 7), .ref (bb 8), .int 0, .ref (bb 9), .ref (bb 10)]))]) hP hD [0, 2, 1] [] rfl rfl (by decide) (by decide) hk1 hFc hP1 hD1
  generalize H1 = H at hP hS ⊢
  have hP : va_P (dC, dI) vwCl [(d0, .inr (2, [.int 0, .ref (bb 0), .ref (bb 1), .ref (bb 2), .ref (bb 3), .int ((1 : Int32) <<< ((nI si) &&& 31)), .ref (bb 4), .ref (bb 5), .ref (bb 6), .ref (bb 7), .ref (bb 8), .int 0, .ref (bb 9), .ref (bb 10)]))] H := hP
  have hD : va_D A [(d0, .inr (2, [.int 0, .ref (bb 0), .ref (bb 1), .ref (bb 2), .ref (bb 3), .int ((1 : Int32) <<< ((nI si) &&& 31)), .ref (bb 4), .ref (bb 5), .ref (bb 6), .ref (bb 7), .ref (bb 8), .int 0, .ref (bb 9), .ref (bb 10)]))] := hD
  obtain rfl := hw
  refine lv_if_eq (tgt := 229) hx hb dX2_fill_72 (by decide) (fun _ => ?_) (fun c9 => absurd (by decide) c9)
  refine lv_iload_n hx hb dX2_fill_229 rfl (lv_at hl 1 rfl) ?_
  refine W.widen (k := 0) (n := 0) (by decide +kernel) (by decide +kernel) ?_
  exact W.iret (v := 0) hx hb hr (fun t ht hW => ⟨⟨0, (), rfl, by (first | rfl | assumption | trivial | omega | (simp []; done) | (simp; omega)), by rw [ht]; exact hP.sub [0] rfl, va_K.moved hW.alike (hK.sub [] rfl), hD.sub [0] (by decide) rfl⟩, hS.F ht⟩) hS.2.2 dX2_fill_230
theorem dX11_greatest_0 : decode cX11_greatest 0 = .ok (.iload_n 1, 1) := by decide +kernel
theorem dX11_greatest_1 : decode cX11_greatest 1 = .ok (.iload_n 2, 1) := by decide +kernel
theorem dX11_greatest_2 : decode cX11_greatest 2 = .ok (.invokestatic 438, 3) := by decide +kernel
theorem dX11_greatest_5 : decode cX11_greatest 5 = .ok (.aload_n 0, 1) := by decide +kernel
theorem dX11_greatest_6 : decode cX11_greatest 6 = .ok (.invokevirtual 425, 3) := by decide +kernel
theorem dX11_greatest_9 : decode cX11_greatest 9 = .ok (.iload_n 1, 1) := by decide +kernel
theorem dX11_greatest_10 : decode cX11_greatest 10 = .ok (.iload_n 2, 1) := by decide +kernel
theorem dX11_greatest_11 : decode cX11_greatest 11 = .ok (.invokevirtual 441, 3) := by decide +kernel
theorem dX11_greatest_14 : decode cX11_greatest 14 = .ok (.ireturn, 1) := by decide +kernel
def wsPX11_greatest : List Cond := .code yX11_greatest cX11_greatest 3 (some .int) :: ([] ++ (va_wsS RX11 438 yX11_needNodes wsPX11_needNodes) ++ (wsV RX11 425 RX11 yX11_theNets wsPX11_theNets) ++ (wsV RX11 441 RX2 yX2_fill wsPX2_fill))
theorem gwsPX11_greatest_0 : GoodIn wsPX11_greatest (va_wsS RX11 438 yX11_needNodes wsPX11_needNodes) := goodIn_sub (fun _ h => List.mem_cons_of_mem _ (List.mem_append_left _ (List.mem_append_left _ (List.mem_append_right _ h)))) (by decide +kernel)
theorem gwsPX11_greatest_1 : GoodIn wsPX11_greatest (wsV RX11 425 RX11 yX11_theNets wsPX11_theNets) := goodIn_sub (fun _ h => List.mem_cons_of_mem _ (List.mem_append_left _ (List.mem_append_right _ h))) (by decide +kernel)
theorem gwsPX11_greatest_2 : GoodIn wsPX11_greatest (wsV RX11 441 RX2 yX2_fill wsPX2_fill) := goodIn_sub (fun _ h => List.mem_cons_of_mem _ (List.mem_append_right _ h)) (by decide +kernel)
set_option maxHeartbeats 4000000 in
set_option maxRecDepth 100000 in
/-- greatest(s, t) -/
theorem p_X11_greatest (l : Launch) (hst : l.stackTraces = false) (dC : Nat → ClassId) (dI : Nat → Nat → Nat) (h0 : Nat) (a : Nat → Nat) (ns : Int32) (nt : Int32) (sz : Nat) : vx_Met l yX11_greatest wsPX11_greatest ({ frames := 7, cells := 13, slots := 1484, locals := 102 }) (va_Pc [.ref h0, .int ns, .int nt] (fun U => U.heap.size = sz ∧ va_P (dC, dI) vwCl [(h0, .inr (11, [.ref (a 0), .ref (a 1), .ref (a 3), .ref (a 14), .int 0, .null, .null, .null, .null, .null, .null]))] U.heap ∧ va_K (dC, dI) vwCl [] U ∧ va_D (fun _ => True) [(h0, .inr (11, [.ref (a 0), .ref (a 1), .ref (a 3), .ref (a 14), .int 0, .null, .null, .null, .null, .null, .null]))] ∧ vx_Zq Bundle.tN "UNASSIGNED_STACK" Bundle.steD (va_A [(h0, .inr (11, [.ref (a 0), .ref (a 1), .ref (a 3), .ref (a 14), .int 0, .null, .null, .null, .null, .null, .null]))] sz) U U.heap ∧ vx_Zq Bundle.tN "SUPPRESSED_SENTINEL" Bundle.listD (va_A [(h0, .inr (11, [.ref (a 0), .ref (a 1), .ref (a 3), .ref (a 14), .int 0, .null, .null, .null, .null, .null, .null]))] sz) U U.heap ∧ (∀ w ∈ ngX11_79, va_Nw w U) ∧ (∀ w ∈ ngX11_95, va_Nw w U) ∧ va_Nw (.methodLinkNest RX11 421 yX2_init RX11) U)) (va_Qi (fun (r : Int32) (u : Unit) => r = 0 ∧ (0 ≤ (ns).toInt ∧ (ns).toInt < 12 ∧ 0 ≤ (nt).toInt ∧ (nt).toInt < 12 ∧ ¬ (ns).toInt = (nt).toInt)) (fun (u : Unit) t => va_P (dC, dI) vwCl [] t.heap ∧ va_K (dC, dI) vwCl [] t ∧ va_D (va_A [(h0, .inr (11, [.ref (a 0), .ref (a 1), .ref (a 3), .ref (a 14), .int 0, .null, .null, .null, .null, .null, .null]))] sz) []) (va_A [(h0, .inr (11, [.ref (a 0), .ref (a 1), .ref (a 3), .ref (a 14), .int 0, .null, .null, .null, .null, .null, .null]))] sz)) (vx_X (fun n : String => (n = "java/lang/IndexOutOfBoundsException" ∧ ((ns).toInt < 0 ∨ 12 ≤ (ns).toInt ∨ (nt).toInt < 0 ∨ 12 ≤ (nt).toInt)) ∨ (n = "java/lang/IllegalArgumentException" ∧ (0 ≤ (ns).toInt ∧ (ns).toInt < 12 ∧ 0 ≤ (nt).toInt ∧ (nt).toInt < 12 ∧ (ns).toInt = (nt).toInt))) (fun E n t => E = n) (va_A [(h0, .inr (11, [.ref (a 0), .ref (a 1), .ref (a 3), .ref (a 14), .int 0, .null, .null, .null, .null, .null, .null]))] sz)) 13 1484 (va_A [(h0, .inr (11, [.ref (a 0), .ref (a 1), .ref (a 3), .ref (a 14), .int 0, .null, .null, .null, .null, .null, .null]))] sz) := by
  refine vx_ofW (cc := cX11_greatest) (maxL := 3) (ret := (some .int)) (by decide) rfl ?_
  intro p e s m args below meth c s₁ B hml htab hv
  obtain ⟨rfl, hsz, hP, hK, hD0, hU, hN, hngX11_79, hngX11_95, hnX11_421⟩ := hv
  have hx := B.exec
  have hb := B.bytes
  have hr := B.returns
  have hts := atoms_spec (ws := wsPX11_greatest) B.pre
  have hown : s.vm.findClass RX11 = some m.cls := findClass_of_methodNamed B.named
  have hlocks := B.notSynchronized
  subst hsz
  have hD := hD0.self (sz := s.heap.size)
  generalize hAe : va_A [(h0, .inr (11, [.ref (a 0), .ref (a 1), .ref (a 3), .ref (a 14), .int 0, .null, .null, .null, .null, .null, .null]))] s.heap.size = A at hD hU hN ⊢
  have hA : ∀ q : Nat, s.heap.size ≤ q → A q := fun q h => by rw [← hAe]; exact Or.inr h
  have hS : va_S A s.heap s.heap [] := va_S.rf
  have hP : va_P (dC, dI) vwCl [(h0, .inr (11, [.ref (a 0), .ref (a 1), .ref (a 3), .ref (a 14), .int 0, .null, .null, .null, .null, .null, .null]))] s.heap := hP
  have hl := lv_entry ([.ref h0, .int ns, .int nt]) (n := 3) (Nat.le_of_ble_eq_true rfl)
  rw [lg_entry_eq]
  generalize (lg_sl ([.ref h0, .int ns, .int nt]) ++ List.replicate (3 - (lg_sl ([.ref h0, .int ns, .int nt])).length) Slot.unset).toArray = ls at hl ⊢
  have hl : lv_has ls 3 [(0, .ref h0), (1, .int ns), (2, .int nt)] := hl
  refine lv_iload_n hx hb dX11_greatest_0 rfl (lv_at hl 1 rfl) ?_
  refine lv_iload_n hx hb dX11_greatest_1 rfl (lv_at hl 2 rfl) ?_
  have hPc := hP.sub (ws' := []) [] rfl
  have hDc := hD.sub (ws' := []) [] (by decide) rfl
  have hKc := hK.sub (tys' := []) [] rfl
  have hFc := va_free (wc := []) hD hS hA [] rfl
  refine vx_callv (vx_runS (As := [.int ns, .int nt]) (rest := []) ⟨hx, hb, hml, hown, hts⟩ (p_X11_needNodes l hst dC dI ns nt s.heap.size) (va_cwS 2 hts gwsPX11_greatest_0 rfl rfl rfl (by decide +kernel) ⟨by decide +kernel, by decide +kernel⟩) ⟨fun a U g mk q => by obtain ⟨q0, q1, qP, qK, qD, qU, qN, qngX11_79, qngX11_95⟩ := q; exact ⟨q0, q1, qP, va_K.moved (u := U) (U := U.calling g mk a) (Vm.Alike.refl U.vm) qK, qD, vx_Zq.moved (u := U) (U := U.calling g mk a) (Vm.Alike.refl U.vm) qU, vx_Zq.moved (u := U) (U := U.calling g mk a) (Vm.Alike.refl U.vm) qN, fun w h => va_Nw.same (u := U) (U := U.calling g mk a) (ngX11_79_ot w h) rfl (qngX11_79 w h), fun w h => va_Nw.same (u := U) (U := U.calling g mk a) (ngX11_95_ot w h) rfl (qngX11_95 w h)⟩, fun U hU9 hW => ⟨rfl, by rw [hU9], by rw [hU9]; exact hPc, va_K.moved hW.alike hKc, hDc.weaken (fun _ _ _ _ => trivial), by rw [hU9]; exact ((hU.kept (fun a h1 h2 => hS.2.1 a h1 h2)).narrow hFc).moved hW.alike, by rw [hU9]; exact ((hN.kept (fun a h1 h2 => hS.2.1 a h1 h2)).narrow hFc).moved hW.alike, fun w h => cd_warm (ngX11_79_cd w h) hW (hngX11_79 w h), fun w h => cd_warm (ngX11_95_cd w h) hW (hngX11_95 w h)⟩⟩ rfl rfl hl.1 rfl (lv_room (Nat.le_of_ble_eq_true rfl)) dX11_greatest_2 ⟨by decide +kernel, by decide +kernel⟩) hS (fun q _ h => hFc q h) hFc (fun q _ h => hFc q h) (fun E ce q9 u t H1 locs1 ht hvm hw hB hz1 hk1 hS hc1 hc2 hc3 => ?_) (fun u t H1 locs ht hvm hw hB hz1 hk1 hS => ?_)
  · have hE : E = u := hB
    subst hE
    exact vx_out (fun x hx9 => (htab x hx9).elim) hlocks hc1 hc2 hc3 (fun t ht hvm => ⟨_, by first | exact hw | (rcases hw with ⟨h, h1⟩ | ⟨h, h1⟩ <;> subst h <;> first | exact Or.inl ⟨rfl, by omega⟩ | exact Or.inr ⟨rfl, by omega⟩ | exact Or.inl ⟨rfl, h1⟩ | exact Or.inr ⟨rfl, h1⟩) | (obtain ⟨h, h1⟩ := hw; subst h; first | exact ⟨rfl, by omega⟩ | exact Or.inl ⟨rfl, by omega⟩ | exact Or.inr ⟨rfl, by omega⟩), rfl, hS.F ht⟩) hS.2.2 (by decide +kernel) (by decide +kernel)
  obtain ⟨hP1, hK1, hD1⟩ := hB
  rw [ht] at hP1
  have hK1 := va_K.moved hvm.symm hK1
  obtain ⟨hP, hD⟩ := va_join (wr := [(h0, .inr (11, [.ref (a 0), .ref (a 1), .ref (a 3), .ref (a 14), .int 0, .null, .null, .null, .null, .null, .null]))]) (w1 := []) hP hD [] [0] rfl rfl (by decide) (by decide) hk1 hFc hP1 hD1
  generalize H1 = H at hP hS ⊢
  have hP : va_P (dC, dI) vwCl [(h0, .inr (11, [.ref (a 0), .ref (a 1), .ref (a 3), .ref (a 14), .int 0, .null, .null, .null, .null, .null, .null]))] H := hP
  have hD : va_D A [(h0, .inr (11, [.ref (a 0), .ref (a 1), .ref (a 3), .ref (a 14), .int 0, .null, .null, .null, .null, .null, .null]))] := hD
  refine W.widen (k := 1) (n := 6) (by decide +kernel) (by decide +kernel) ?_
  have f2_0 := hw
  try dsimp only at f2_0
  obtain ⟨si, h_si, rfl⟩ := of_toInt (x := ns) (k := 12) (by omega) (by omega)
  have e_si : (nI si).toInt = (si : Int) := nI_toInt (by omega)
  obtain ⟨tj, h_tj, rfl⟩ := of_toInt (x := nt) (k := 12) (by omega) (by omega)
  have e_tj : (nI tj).toInt = (tj : Int) := nI_toInt (by omega)
  refine lv_aload_n hx hb dX11_greatest_5 rfl (lv_at hl 0 rfl) ?_
  have hPc := hP.sub (ws' := [(h0, .inr (11, [.ref (a 0), .ref (a 1), .ref (a 3), .ref (a 14), .int 0, .null, .null, .null, .null, .null, .null]))]) [0] rfl
  have hDc := hD.sub (ws' := [(h0, .inr (11, [.ref (a 0), .ref (a 1), .ref (a 3), .ref (a 14), .int 0, .null, .null, .null, .null, .null, .null]))]) [0] (by decide) rfl
  have hKc := hK.sub (tys' := []) [] rfl
  have hFc := va_free (wc := [(h0, .inr (11, [.ref (a 0), .ref (a 1), .ref (a 3), .ref (a 14), .int 0, .null, .null, .null, .null, .null, .null]))]) hD hS hA [0] rfl
  refine va_callr (va_runV (As := []) (rest := []) ⟨hx, hb, hml, hown, hts⟩ (p_X11_theNets l dC dI h0 a H.size) (cwV 0 hts gwsPX11_greatest_1 rfl rfl rfl (by decide +kernel) ⟨by decide +kernel, by decide +kernel⟩) ⟨fun a U g mk q => by obtain ⟨q0, q1, qP, qK, qD, qhnX11_421⟩ := q; exact ⟨q0, q1, qP, va_K.moved (u := U) (U := U.calling g mk a) (Vm.Alike.refl U.vm) qK, qD, va_Nw.same (u := U) (U := U.calling g mk a) rfl rfl qhnX11_421⟩, va_recv hKc hPc (ci := 11) (q0 := 0) rfl rfl, fun U hU9 hW => ⟨rfl, by rw [hU9], by rw [hU9]; exact hPc, va_K.moved hW.alike hKc, hDc.weaken (fun _ _ _ _ => trivial), va_Nw.warmM hW hnX11_421⟩⟩ rfl rfl hl.1 rfl (lv_room (Nat.le_of_ble_eq_true rfl)) dX11_greatest_6 ⟨by decide +kernel, by decide +kernel⟩) hS (fun q _ h => hFc q h) hFc (fun u a6 t H1 locs ht hvm hw hB hz1 hk1 hS => ?_)
  obtain ⟨aa6, kk6⟩ := u
  obtain ⟨hP1, hK1, hD1⟩ := hB
  rw [ht] at hP1
  have hK1 := va_K.moved hvm.symm hK1
  obtain ⟨hP, hD⟩ := va_join (wr := []) (w1 := [(h0, .inr (11, [.ref (a 0), .ref (a 1), .ref (a 3), .ref (a 14), .int 0, .null, .null, .null, .null, .null, .ref a6])), (a6, .inr (2, [.int 0, .ref (aa6 0), .ref (aa6 1), .ref (aa6 2), .ref (aa6 3), .int 0, .ref (aa6 4), .ref (aa6 5), .ref (aa6 6), .ref (aa6 7), .ref (aa6 8), .int 0, .ref (aa6 9), .ref (aa6 10)])), ((aa6 0), .inl ((kk6 0), 40, .inl (fun _ => 0))), ((aa6 1), .inl ((kk6 1), 40, .inl (fun _ => 0))), ((aa6 2), .inl ((kk6 2), 40, .inl (fun _ => 0))), ((aa6 3), .inl ((kk6 3), 40, .inl (fun _ => 0))), ((aa6 4), .inl ((kk6 4), 144, .inl (fun _ => 0))), ((aa6 5), .inl ((kk6 5), 12, .inl (fun _ => 0))), ((aa6 6), .inl ((kk6 6), 40, .inl (fun _ => 0))), ((aa6 7), .inl ((kk6 7), 12, .inl (fun _ => 0))), ((aa6 8), .inl ((kk6 8), 8, .inl (fun _ => 0))), ((aa6 9), .inl ((kk6 9), 64, .inl (fun _ => 0))), ((aa6 10), .inl ((kk6 10), 1024, .inl (fun _ => 0)))]) hP hD [0] [] rfl rfl (by decide) (by decide) hk1 hFc hP1 hD1
  have hK := hK.app hK1
  generalize H1 = H at hP hS ⊢
  have hP : va_P (dC, dI) vwCl [(h0, .inr (11, [.ref (a 0), .ref (a 1), .ref (a 3), .ref (a 14), .int 0, .null, .null, .null, .null, .null, .ref a6])), (a6, .inr (2, [.int 0, .ref (aa6 0), .ref (aa6 1), .ref (aa6 2), .ref (aa6 3), .int 0, .ref (aa6 4), .ref (aa6 5), .ref (aa6 6), .ref (aa6 7), .ref (aa6 8), .int 0, .ref (aa6 9), .ref (aa6 10)])), ((aa6 0), .inl ((kk6 0), 40, .inl (fun _ => 0))), ((aa6 1), .inl ((kk6 1), 40, .inl (fun _ => 0))), ((aa6 2), .inl ((kk6 2), 40, .inl (fun _ => 0))), ((aa6 3), .inl ((kk6 3), 40, .inl (fun _ => 0))), ((aa6 4), .inl ((kk6 4), 144, .inl (fun _ => 0))), ((aa6 5), .inl ((kk6 5), 12, .inl (fun _ => 0))), ((aa6 6), .inl ((kk6 6), 40, .inl (fun _ => 0))), ((aa6 7), .inl ((kk6 7), 12, .inl (fun _ => 0))), ((aa6 8), .inl ((kk6 8), 8, .inl (fun _ => 0))), ((aa6 9), .inl ((kk6 9), 64, .inl (fun _ => 0))), ((aa6 10), .inl ((kk6 10), 1024, .inl (fun _ => 0)))] H := hP
  have hD : va_D A [(h0, .inr (11, [.ref (a 0), .ref (a 1), .ref (a 3), .ref (a 14), .int 0, .null, .null, .null, .null, .null, .ref a6])), (a6, .inr (2, [.int 0, .ref (aa6 0), .ref (aa6 1), .ref (aa6 2), .ref (aa6 3), .int 0, .ref (aa6 4), .ref (aa6 5), .ref (aa6 6), .ref (aa6 7), .ref (aa6 8), .int 0, .ref (aa6 9), .ref (aa6 10)])), ((aa6 0), .inl ((kk6 0), 40, .inl (fun _ => 0))), ((aa6 1), .inl ((kk6 1), 40, .inl (fun _ => 0))), ((aa6 2), .inl ((kk6 2), 40, .inl (fun _ => 0))), ((aa6 3), .inl ((kk6 3), 40, .inl (fun _ => 0))), ((aa6 4), .inl ((kk6 4), 144, .inl (fun _ => 0))), ((aa6 5), .inl ((kk6 5), 12, .inl (fun _ => 0))), ((aa6 6), .inl ((kk6 6), 40, .inl (fun _ => 0))), ((aa6 7), .inl ((kk6 7), 12, .inl (fun _ => 0))), ((aa6 8), .inl ((kk6 8), 8, .inl (fun _ => 0))), ((aa6 9), .inl ((kk6 9), 64, .inl (fun _ => 0))), ((aa6 10), .inl ((kk6 10), 1024, .inl (fun _ => 0)))] := hD
  have hK : va_K (dC, dI) vwCl [((kk6 0), .int), ((kk6 1), .int), ((kk6 2), .int), ((kk6 3), .int), ((kk6 4), .int), ((kk6 5), .int), ((kk6 6), .int), ((kk6 7), .int), ((kk6 8), .int), ((kk6 9), .int), ((kk6 10), .int)] s := hK
  refine W.widen (k := 13) (n := 1484) (by decide +kernel) (by decide +kernel) ?_
  refine lv_iload_n hx hb dX11_greatest_9 rfl (lv_at hl 1 rfl) ?_
  refine lv_iload_n hx hb dX11_greatest_10 rfl (lv_at hl 2 rfl) ?_
  have hPc := hP.sub (ws' := [(a6, .inr (2, [.int 0, .ref (aa6 0), .ref (aa6 1), .ref (aa6 2), .ref (aa6 3), .int 0, .ref (aa6 4), .ref (aa6 5), .ref (aa6 6), .ref (aa6 7), .ref (aa6 8), .int 0, .ref (aa6 9), .ref (aa6 10)])), ((aa6 4), .inl ((kk6 4), 144, .inl (fun _ => 0))), ((aa6 5), .inl ((kk6 5), 12, .inl (fun _ => 0)))]) [1, 6, 7] rfl
  have hDc := hD.sub (ws' := [(a6, .inr (2, [.int 0, .ref (aa6 0), .ref (aa6 1), .ref (aa6 2), .ref (aa6 3), .int 0, .ref (aa6 4), .ref (aa6 5), .ref (aa6 6), .ref (aa6 7), .ref (aa6 8), .int 0, .ref (aa6 9), .ref (aa6 10)])), ((aa6 4), .inl ((kk6 4), 144, .inl (fun _ => 0))), ((aa6 5), .inl ((kk6 5), 12, .inl (fun _ => 0)))]) [1, 6, 7] (by decide) rfl
  have hKc := hK.sub (tys' := [((kk6 4), .int), ((kk6 5), .int)]) [4, 5] rfl
  have hFc := va_free (wc := [(a6, .inr (2, [.int 0, .ref (aa6 0), .ref (aa6 1), .ref (aa6 2), .ref (aa6 3), .int 0, .ref (aa6 4), .ref (aa6 5), .ref (aa6 6), .ref (aa6 7), .ref (aa6 8), .int 0, .ref (aa6 9), .ref (aa6 10)])), ((aa6 4), .inl ((kk6 4), 144, .inl (fun _ => 0))), ((aa6 5), .inl ((kk6 5), 12, .inl (fun _ => 0)))]) hD hS hA [1, 6, 7] rfl
  refine va_calli (va_runV (As := [.int (nI si), .int (nI tj)]) (rest := []) ⟨hx, hb, hml, hown, hts⟩ (p_X2_fill l dC dI a6 aa6 kk6 si tj (by first | omega | decide | assumption | rfl) (by first | omega | decide | assumption | rfl) (by first | omega | decide | assumption | rfl) H.size) (cwV 2 hts gwsPX11_greatest_2 rfl rfl rfl (by decide +kernel) ⟨by decide +kernel, by decide +kernel⟩) ⟨fun a U g mk q => by obtain ⟨q0, q1, qP, qK, qD⟩ := q; exact ⟨q0, q1, qP, va_K.moved (u := U) (U := U.calling g mk a) (Vm.Alike.refl U.vm) qK, qD⟩, va_recv hKc hPc (ci := 2) (q0 := 0) rfl rfl, fun U hU9 hW => ⟨rfl, by rw [hU9], by rw [hU9]; exact hPc, va_K.moved hW.alike hKc, hDc.weaken (fun _ _ _ _ => trivial)⟩⟩ rfl rfl hl.1 rfl (lv_room (Nat.le_of_ble_eq_true rfl)) dX11_greatest_11 ⟨by decide +kernel, by decide +kernel⟩) hS (fun q _ h => hFc q h) hFc (fun r11 u t H1 locs ht hvm hw hB hz1 hk1 hS => ?_)
  obtain ⟨hP1, hK1, hD1⟩ := hB
  rw [ht] at hP1
  have hK1 := va_K.moved hvm.symm hK1
  obtain ⟨hP, hD⟩ := va_join (wr := [(h0, .inr (11, [.ref (a 0), .ref (a 1), .ref (a 3), .ref (a 14), .int 0, .null, .null, .null, .null, .null, .ref a6])), ((aa6 0), .inl ((kk6 0), 40, .inl (fun _ => 0))), ((aa6 1), .inl ((kk6 1), 40, .inl (fun _ => 0))), ((aa6 2), .inl ((kk6 2), 40, .inl (fun _ => 0))), ((aa6 3), .inl ((kk6 3), 40, .inl (fun _ => 0))), ((aa6 6), .inl ((kk6 6), 40, .inl (fun _ => 0))), ((aa6 7), .inl ((kk6 7), 12, .inl (fun _ => 0))), ((aa6 8), .inl ((kk6 8), 8, .inl (fun _ => 0))), ((aa6 9), .inl ((kk6 9), 64, .inl (fun _ => 0))), ((aa6 10), .inl ((kk6 10), 1024, .inl (fun _ => 0)))]) (w1 := [(a6, .inr (2, [.int 0, .ref (aa6 0), .ref (aa6 1), .ref (aa6 2), .ref (aa6 3), .int ((1 : Int32) <<< ((nI si) &&& 31)), .ref (aa6 4), .ref (aa6 5), .ref (aa6 6), .ref (aa6 7), .ref (aa6 8), .int 0, .ref (aa6 9), .ref (aa6 10)]))]) hP hD [1, 6, 7] [0, 2, 3, 4, 5, 8, 9, 10, 11, 12] rfl rfl (by decide) (by decide) hk1 hFc hP1 hD1
  generalize H1 = H at hP hS ⊢
  have hP : va_P (dC, dI) vwCl [(h0, .inr (11, [.ref (a 0), .ref (a 1), .ref (a 3), .ref (a 14), .int 0, .null, .null, .null, .null, .null, .ref a6])), ((aa6 0), .inl ((kk6 0), 40, .inl (fun _ => 0))), ((aa6 1), .inl ((kk6 1), 40, .inl (fun _ => 0))), ((aa6 2), .inl ((kk6 2), 40, .inl (fun _ => 0))), ((aa6 3), .inl ((kk6 3), 40, .inl (fun _ => 0))), ((aa6 6), .inl ((kk6 6), 40, .inl (fun _ => 0))), ((aa6 7), .inl ((kk6 7), 12, .inl (fun _ => 0))), ((aa6 8), .inl ((kk6 8), 8, .inl (fun _ => 0))), ((aa6 9), .inl ((kk6 9), 64, .inl (fun _ => 0))), ((aa6 10), .inl ((kk6 10), 1024, .inl (fun _ => 0))), (a6, .inr (2, [.int 0, .ref (aa6 0), .ref (aa6 1), .ref (aa6 2), .ref (aa6 3), .int ((1 : Int32) <<< ((nI si) &&& 31)), .ref (aa6 4), .ref (aa6 5), .ref (aa6 6), .ref (aa6 7), .ref (aa6 8), .int 0, .ref (aa6 9), .ref (aa6 10)]))] H := hP
  have hD : va_D A [(h0, .inr (11, [.ref (a 0), .ref (a 1), .ref (a 3), .ref (a 14), .int 0, .null, .null, .null, .null, .null, .ref a6])), ((aa6 0), .inl ((kk6 0), 40, .inl (fun _ => 0))), ((aa6 1), .inl ((kk6 1), 40, .inl (fun _ => 0))), ((aa6 2), .inl ((kk6 2), 40, .inl (fun _ => 0))), ((aa6 3), .inl ((kk6 3), 40, .inl (fun _ => 0))), ((aa6 6), .inl ((kk6 6), 40, .inl (fun _ => 0))), ((aa6 7), .inl ((kk6 7), 12, .inl (fun _ => 0))), ((aa6 8), .inl ((kk6 8), 8, .inl (fun _ => 0))), ((aa6 9), .inl ((kk6 9), 64, .inl (fun _ => 0))), ((aa6 10), .inl ((kk6 10), 1024, .inl (fun _ => 0))), (a6, .inr (2, [.int 0, .ref (aa6 0), .ref (aa6 1), .ref (aa6 2), .ref (aa6 3), .int ((1 : Int32) <<< ((nI si) &&& 31)), .ref (aa6 4), .ref (aa6 5), .ref (aa6 6), .ref (aa6 7), .ref (aa6 8), .int 0, .ref (aa6 9), .ref (aa6 10)]))] := hD
  obtain rfl := hw
  refine vx_ret ?_
  refine W.widen (k := 13) (n := 1484) (by decide +kernel) (by decide +kernel) ?_
  exact W.iret (v := 0) hx hb hr (fun t ht hW => ⟨⟨0, (), rfl, by (refine ⟨?_, ?_⟩ <;> (first | rfl | assumption | trivial | omega | (simp []; done) | (simp; omega))), by rw [ht]; exact hP.sub [] rfl, va_K.moved hW.alike (hK.sub [] rfl), hD.sub [] (by decide) rfl⟩, hS.F ht⟩) hS.2.2 dX11_greatest_14
theorem dX11_cut_0 : decode cX11_cut 0 = .ok (.iload_n 1, 1) := by decide +kernel
theorem dX11_cut_1 : decode cX11_cut 1 = .ok (.iload_n 2, 1) := by decide +kernel
theorem dX11_cut_2 : decode cX11_cut 2 = .ok (.invokestatic 438, 3) := by decide +kernel
theorem dX11_cut_5 : decode cX11_cut 5 = .ok (.aload_n 0, 1) := by decide +kernel
theorem dX11_cut_6 : decode cX11_cut 6 = .ok (.invokevirtual 425, 3) := by decide +kernel
theorem dX11_cut_9 : decode cX11_cut 9 = .ok (.iload_n 1, 1) := by decide +kernel
theorem dX11_cut_10 : decode cX11_cut 10 = .ok (.iload_n 2, 1) := by decide +kernel
theorem dX11_cut_11 : decode cX11_cut 11 = .ok (.invokevirtual 441, 3) := by decide +kernel
theorem dX11_cut_14 : decode cX11_cut 14 = .ok (.pop, 1) := by decide +kernel
theorem dX11_cut_15 : decode cX11_cut 15 = .ok (.aload_n 0, 1) := by decide +kernel
theorem dX11_cut_16 : decode cX11_cut 16 = .ok (.getfield 415, 3) := by decide +kernel
theorem dX11_cut_19 : decode cX11_cut 19 = .ok (.getfield 443, 3) := by decide +kernel
theorem dX11_cut_22 : decode cX11_cut 22 = .ok (.ireturn, 1) := by decide +kernel
def wsPX11_cut : List Cond := .code yX11_cut cX11_cut 3 (some .int) :: ([.fieldLink RX11 415 "OptimaWorks" "nets" "LOptimaWorks$NetDesk;", .fieldLink RX11 443 "OptimaWorks$NetDesk" "reached" "I"] ++ wsX20 ++ wsX110 ++ (va_wsS RX11 438 yX11_needNodes wsPX11_needNodes) ++ (wsV RX11 425 RX11 yX11_theNets wsPX11_theNets) ++ (wsV RX11 441 RX2 yX2_fill wsPX2_fill))
theorem iwsPX11_cut_in2 : ∀ w ∈ wsX20, w ∈ wsPX11_cut := fun _ h => List.mem_cons_of_mem _ (List.mem_append_left _ (List.mem_append_left _ (List.mem_append_left _ (List.mem_append_left _ (List.mem_append_right _ h)))))
theorem iwsPX11_cut_in11 : ∀ w ∈ wsX110, w ∈ wsPX11_cut := fun _ h => List.mem_cons_of_mem _ (List.mem_append_left _ (List.mem_append_left _ (List.mem_append_left _ (List.mem_append_right _ h))))
theorem gwsPX11_cut_0 : GoodIn wsPX11_cut (va_wsS RX11 438 yX11_needNodes wsPX11_needNodes) := goodIn_sub (fun _ h => List.mem_cons_of_mem _ (List.mem_append_left _ (List.mem_append_left _ (List.mem_append_right _ h)))) (by decide +kernel)
theorem gwsPX11_cut_1 : GoodIn wsPX11_cut (wsV RX11 425 RX11 yX11_theNets wsPX11_theNets) := goodIn_sub (fun _ h => List.mem_cons_of_mem _ (List.mem_append_left _ (List.mem_append_right _ h))) (by decide +kernel)
theorem gwsPX11_cut_2 : GoodIn wsPX11_cut (wsV RX11 441 RX2 yX2_fill wsPX2_fill) := goodIn_sub (fun _ h => List.mem_cons_of_mem _ (List.mem_append_right _ h)) (by decide +kernel)
set_option maxHeartbeats 4000000 in
set_option maxRecDepth 100000 in
/-- cut(s, t) -/
theorem p_X11_cut (l : Launch) (hst : l.stackTraces = false) (dC : Nat → ClassId) (dI : Nat → Nat → Nat) (h0 : Nat) (a : Nat → Nat) (ns : Int32) (nt : Int32) (sz : Nat) : vx_Met l yX11_cut wsPX11_cut ({ frames := 7, cells := 13, slots := 1484, locals := 102 }) (va_Pc [.ref h0, .int ns, .int nt] (fun U => U.heap.size = sz ∧ va_P (dC, dI) vwCl [(h0, .inr (11, [.ref (a 0), .ref (a 1), .ref (a 3), .ref (a 14), .int 0, .null, .null, .null, .null, .null, .null]))] U.heap ∧ va_K (dC, dI) vwCl [] U ∧ va_D (fun _ => True) [(h0, .inr (11, [.ref (a 0), .ref (a 1), .ref (a 3), .ref (a 14), .int 0, .null, .null, .null, .null, .null, .null]))] ∧ vx_Zq Bundle.tN "UNASSIGNED_STACK" Bundle.steD (va_A [(h0, .inr (11, [.ref (a 0), .ref (a 1), .ref (a 3), .ref (a 14), .int 0, .null, .null, .null, .null, .null, .null]))] sz) U U.heap ∧ vx_Zq Bundle.tN "SUPPRESSED_SENTINEL" Bundle.listD (va_A [(h0, .inr (11, [.ref (a 0), .ref (a 1), .ref (a 3), .ref (a 14), .int 0, .null, .null, .null, .null, .null, .null]))] sz) U U.heap ∧ (∀ w ∈ ngX11_79, va_Nw w U) ∧ (∀ w ∈ ngX11_95, va_Nw w U) ∧ va_Nw (.methodLinkNest RX11 421 yX2_init RX11) U)) (va_Qi (fun (r : Int32) (u : Unit) => r = ((1 : Int32) <<< (ns &&& 31)) ∧ (0 ≤ (ns).toInt ∧ (ns).toInt < 12 ∧ 0 ≤ (nt).toInt ∧ (nt).toInt < 12 ∧ ¬ (ns).toInt = (nt).toInt)) (fun (u : Unit) t => va_P (dC, dI) vwCl [] t.heap ∧ va_K (dC, dI) vwCl [] t ∧ va_D (va_A [(h0, .inr (11, [.ref (a 0), .ref (a 1), .ref (a 3), .ref (a 14), .int 0, .null, .null, .null, .null, .null, .null]))] sz) []) (va_A [(h0, .inr (11, [.ref (a 0), .ref (a 1), .ref (a 3), .ref (a 14), .int 0, .null, .null, .null, .null, .null, .null]))] sz)) (vx_X (fun n : String => (n = "java/lang/IndexOutOfBoundsException" ∧ ((ns).toInt < 0 ∨ 12 ≤ (ns).toInt ∨ (nt).toInt < 0 ∨ 12 ≤ (nt).toInt)) ∨ (n = "java/lang/IllegalArgumentException" ∧ (0 ≤ (ns).toInt ∧ (ns).toInt < 12 ∧ 0 ≤ (nt).toInt ∧ (nt).toInt < 12 ∧ (ns).toInt = (nt).toInt))) (fun E n t => E = n) (va_A [(h0, .inr (11, [.ref (a 0), .ref (a 1), .ref (a 3), .ref (a 14), .int 0, .null, .null, .null, .null, .null, .null]))] sz)) 13 1484 (va_A [(h0, .inr (11, [.ref (a 0), .ref (a 1), .ref (a 3), .ref (a 14), .int 0, .null, .null, .null, .null, .null, .null]))] sz) := by
  refine vx_ofW (cc := cX11_cut) (maxL := 3) (ret := (some .int)) (by decide) rfl ?_
  intro p e s m args below meth c s₁ B hml htab hv
  obtain ⟨rfl, hsz, hP, hK, hD0, hU, hN, hngX11_79, hngX11_95, hnX11_421⟩ := hv
  have hx := B.exec
  have hb := B.bytes
  have hr := B.returns
  have hts := atoms_spec (ws := wsPX11_cut) B.pre
  have hown : s.vm.findClass RX11 = some m.cls := findClass_of_methodNamed B.named
  have hlocks := B.notSynchronized
  subst hsz
  have hD := hD0.self (sz := s.heap.size)
  generalize hAe : va_A [(h0, .inr (11, [.ref (a 0), .ref (a 1), .ref (a 3), .ref (a 14), .int 0, .null, .null, .null, .null, .null, .null]))] s.heap.size = A at hD hU hN ⊢
  have hA : ∀ q : Nat, s.heap.size ≤ q → A q := fun q h => by rw [← hAe]; exact Or.inr h
  have hS : va_S A s.heap s.heap [] := va_S.rf
  have hP : va_P (dC, dI) vwCl [(h0, .inr (11, [.ref (a 0), .ref (a 1), .ref (a 3), .ref (a 14), .int 0, .null, .null, .null, .null, .null, .null]))] s.heap := hP
  have hl := lv_entry ([.ref h0, .int ns, .int nt]) (n := 3) (Nat.le_of_ble_eq_true rfl)
  rw [lg_entry_eq]
  generalize (lg_sl ([.ref h0, .int ns, .int nt]) ++ List.replicate (3 - (lg_sl ([.ref h0, .int ns, .int nt])).length) Slot.unset).toArray = ls at hl ⊢
  have hl : lv_has ls 3 [(0, .ref h0), (1, .int ns), (2, .int nt)] := hl
  refine lv_iload_n hx hb dX11_cut_0 rfl (lv_at hl 1 rfl) ?_
  refine lv_iload_n hx hb dX11_cut_1 rfl (lv_at hl 2 rfl) ?_
  have hPc := hP.sub (ws' := []) [] rfl
  have hDc := hD.sub (ws' := []) [] (by decide) rfl
  have hKc := hK.sub (tys' := []) [] rfl
  have hFc := va_free (wc := []) hD hS hA [] rfl
  refine vx_callv (vx_runS (As := [.int ns, .int nt]) (rest := []) ⟨hx, hb, hml, hown, hts⟩ (p_X11_needNodes l hst dC dI ns nt s.heap.size) (va_cwS 2 hts gwsPX11_cut_0 rfl rfl rfl (by decide +kernel) ⟨by decide +kernel, by decide +kernel⟩) ⟨fun a U g mk q => by obtain ⟨q0, q1, qP, qK, qD, qU, qN, qngX11_79, qngX11_95⟩ := q; exact ⟨q0, q1, qP, va_K.moved (u := U) (U := U.calling g mk a) (Vm.Alike.refl U.vm) qK, qD, vx_Zq.moved (u := U) (U := U.calling g mk a) (Vm.Alike.refl U.vm) qU, vx_Zq.moved (u := U) (U := U.calling g mk a) (Vm.Alike.refl U.vm) qN, fun w h => va_Nw.same (u := U) (U := U.calling g mk a) (ngX11_79_ot w h) rfl (qngX11_79 w h), fun w h => va_Nw.same (u := U) (U := U.calling g mk a) (ngX11_95_ot w h) rfl (qngX11_95 w h)⟩, fun U hU9 hW => ⟨rfl, by rw [hU9], by rw [hU9]; exact hPc, va_K.moved hW.alike hKc, hDc.weaken (fun _ _ _ _ => trivial), by rw [hU9]; exact ((hU.kept (fun a h1 h2 => hS.2.1 a h1 h2)).narrow hFc).moved hW.alike, by rw [hU9]; exact ((hN.kept (fun a h1 h2 => hS.2.1 a h1 h2)).narrow hFc).moved hW.alike, fun w h => cd_warm (ngX11_79_cd w h) hW (hngX11_79 w h), fun w h => cd_warm (ngX11_95_cd w h) hW (hngX11_95 w h)⟩⟩ rfl rfl hl.1 rfl (lv_room (Nat.le_of_ble_eq_true rfl)) dX11_cut_2 ⟨by decide +kernel, by decide +kernel⟩) hS (fun q _ h => hFc q h) hFc (fun q _ h => hFc q h) (fun E ce q9 u t H1 locs1 ht hvm hw hB hz1 hk1 hS hc1 hc2 hc3 => ?_) (fun u t H1 locs ht hvm hw hB hz1 hk1 hS => ?_)
  · have hE : E = u := hB
    subst hE
    exact vx_out (fun x hx9 => (htab x hx9).elim) hlocks hc1 hc2 hc3 (fun t ht hvm => ⟨_, by first | exact hw | (rcases hw with ⟨h, h1⟩ | ⟨h, h1⟩ <;> subst h <;> first | exact Or.inl ⟨rfl, by omega⟩ | exact Or.inr ⟨rfl, by omega⟩ | exact Or.inl ⟨rfl, h1⟩ | exact Or.inr ⟨rfl, h1⟩) | (obtain ⟨h, h1⟩ := hw; subst h; first | exact ⟨rfl, by omega⟩ | exact Or.inl ⟨rfl, by omega⟩ | exact Or.inr ⟨rfl, by omega⟩), rfl, hS.F ht⟩) hS.2.2 (by decide +kernel) (by decide +kernel)
  obtain ⟨hP1, hK1, hD1⟩ := hB
  rw [ht] at hP1
  have hK1 := va_K.moved hvm.symm hK1
  obtain ⟨hP, hD⟩ := va_join (wr := [(h0, .inr (11, [.ref (a 0), .ref (a 1), .ref (a 3), .ref (a 14), .int 0, .null, .null, .null, .null, .null, .null]))]) (w1 := []) hP hD [] [0] rfl rfl (by decide) (by decide) hk1 hFc hP1 hD1
  generalize H1 = H at hP hS ⊢
  have hP : va_P (dC, dI) vwCl [(h0, .inr (11, [.ref (a 0), .ref (a 1), .ref (a 3), .ref (a 14), .int 0, .null, .null, .null, .null, .null, .null]))] H := hP
  have hD : va_D A [(h0, .inr (11, [.ref (a 0), .ref (a 1), .ref (a 3), .ref (a 14), .int 0, .null, .null, .null, .null, .null, .null]))] := hD
  refine W.widen (k := 1) (n := 6) (by decide +kernel) (by decide +kernel) ?_
  have f2_0 := hw
  try dsimp only at f2_0
  obtain ⟨si, h_si, rfl⟩ := of_toInt (x := ns) (k := 12) (by omega) (by omega)
  have e_si : (nI si).toInt = (si : Int) := nI_toInt (by omega)
  obtain ⟨tj, h_tj, rfl⟩ := of_toInt (x := nt) (k := 12) (by omega) (by omega)
  have e_tj : (nI tj).toInt = (tj : Int) := nI_toInt (by omega)
  refine lv_aload_n hx hb dX11_cut_5 rfl (lv_at hl 0 rfl) ?_
  have hPc := hP.sub (ws' := [(h0, .inr (11, [.ref (a 0), .ref (a 1), .ref (a 3), .ref (a 14), .int 0, .null, .null, .null, .null, .null, .null]))]) [0] rfl
  have hDc := hD.sub (ws' := [(h0, .inr (11, [.ref (a 0), .ref (a 1), .ref (a 3), .ref (a 14), .int 0, .null, .null, .null, .null, .null, .null]))]) [0] (by decide) rfl
  have hKc := hK.sub (tys' := []) [] rfl
  have hFc := va_free (wc := [(h0, .inr (11, [.ref (a 0), .ref (a 1), .ref (a 3), .ref (a 14), .int 0, .null, .null, .null, .null, .null, .null]))]) hD hS hA [0] rfl
  refine va_callr (va_runV (As := []) (rest := []) ⟨hx, hb, hml, hown, hts⟩ (p_X11_theNets l dC dI h0 a H.size) (cwV 0 hts gwsPX11_cut_1 rfl rfl rfl (by decide +kernel) ⟨by decide +kernel, by decide +kernel⟩) ⟨fun a U g mk q => by obtain ⟨q0, q1, qP, qK, qD, qhnX11_421⟩ := q; exact ⟨q0, q1, qP, va_K.moved (u := U) (U := U.calling g mk a) (Vm.Alike.refl U.vm) qK, qD, va_Nw.same (u := U) (U := U.calling g mk a) rfl rfl qhnX11_421⟩, va_recv hKc hPc (ci := 11) (q0 := 0) rfl rfl, fun U hU9 hW => ⟨rfl, by rw [hU9], by rw [hU9]; exact hPc, va_K.moved hW.alike hKc, hDc.weaken (fun _ _ _ _ => trivial), va_Nw.warmM hW hnX11_421⟩⟩ rfl rfl hl.1 rfl (lv_room (Nat.le_of_ble_eq_true rfl)) dX11_cut_6 ⟨by decide +kernel, by decide +kernel⟩) hS (fun q _ h => hFc q h) hFc (fun u a6 t H1 locs ht hvm hw hB hz1 hk1 hS => ?_)
  obtain ⟨aa6, kk6⟩ := u
  obtain ⟨hP1, hK1, hD1⟩ := hB
  rw [ht] at hP1
  have hK1 := va_K.moved hvm.symm hK1
  obtain ⟨hP, hD⟩ := va_join (wr := []) (w1 := [(h0, .inr (11, [.ref (a 0), .ref (a 1), .ref (a 3), .ref (a 14), .int 0, .null, .null, .null, .null, .null, .ref a6])), (a6, .inr (2, [.int 0, .ref (aa6 0), .ref (aa6 1), .ref (aa6 2), .ref (aa6 3), .int 0, .ref (aa6 4), .ref (aa6 5), .ref (aa6 6), .ref (aa6 7), .ref (aa6 8), .int 0, .ref (aa6 9), .ref (aa6 10)])), ((aa6 0), .inl ((kk6 0), 40, .inl (fun _ => 0))), ((aa6 1), .inl ((kk6 1), 40, .inl (fun _ => 0))), ((aa6 2), .inl ((kk6 2), 40, .inl (fun _ => 0))), ((aa6 3), .inl ((kk6 3), 40, .inl (fun _ => 0))), ((aa6 4), .inl ((kk6 4), 144, .inl (fun _ => 0))), ((aa6 5), .inl ((kk6 5), 12, .inl (fun _ => 0))), ((aa6 6), .inl ((kk6 6), 40, .inl (fun _ => 0))), ((aa6 7), .inl ((kk6 7), 12, .inl (fun _ => 0))), ((aa6 8), .inl ((kk6 8), 8, .inl (fun _ => 0))), ((aa6 9), .inl ((kk6 9), 64, .inl (fun _ => 0))), ((aa6 10), .inl ((kk6 10), 1024, .inl (fun _ => 0)))]) hP hD [0] [] rfl rfl (by decide) (by decide) hk1 hFc hP1 hD1
  have hK := hK.app hK1
  generalize H1 = H at hP hS ⊢
  have hP : va_P (dC, dI) vwCl [(h0, .inr (11, [.ref (a 0), .ref (a 1), .ref (a 3), .ref (a 14), .int 0, .null, .null, .null, .null, .null, .ref a6])), (a6, .inr (2, [.int 0, .ref (aa6 0), .ref (aa6 1), .ref (aa6 2), .ref (aa6 3), .int 0, .ref (aa6 4), .ref (aa6 5), .ref (aa6 6), .ref (aa6 7), .ref (aa6 8), .int 0, .ref (aa6 9), .ref (aa6 10)])), ((aa6 0), .inl ((kk6 0), 40, .inl (fun _ => 0))), ((aa6 1), .inl ((kk6 1), 40, .inl (fun _ => 0))), ((aa6 2), .inl ((kk6 2), 40, .inl (fun _ => 0))), ((aa6 3), .inl ((kk6 3), 40, .inl (fun _ => 0))), ((aa6 4), .inl ((kk6 4), 144, .inl (fun _ => 0))), ((aa6 5), .inl ((kk6 5), 12, .inl (fun _ => 0))), ((aa6 6), .inl ((kk6 6), 40, .inl (fun _ => 0))), ((aa6 7), .inl ((kk6 7), 12, .inl (fun _ => 0))), ((aa6 8), .inl ((kk6 8), 8, .inl (fun _ => 0))), ((aa6 9), .inl ((kk6 9), 64, .inl (fun _ => 0))), ((aa6 10), .inl ((kk6 10), 1024, .inl (fun _ => 0)))] H := hP
  have hD : va_D A [(h0, .inr (11, [.ref (a 0), .ref (a 1), .ref (a 3), .ref (a 14), .int 0, .null, .null, .null, .null, .null, .ref a6])), (a6, .inr (2, [.int 0, .ref (aa6 0), .ref (aa6 1), .ref (aa6 2), .ref (aa6 3), .int 0, .ref (aa6 4), .ref (aa6 5), .ref (aa6 6), .ref (aa6 7), .ref (aa6 8), .int 0, .ref (aa6 9), .ref (aa6 10)])), ((aa6 0), .inl ((kk6 0), 40, .inl (fun _ => 0))), ((aa6 1), .inl ((kk6 1), 40, .inl (fun _ => 0))), ((aa6 2), .inl ((kk6 2), 40, .inl (fun _ => 0))), ((aa6 3), .inl ((kk6 3), 40, .inl (fun _ => 0))), ((aa6 4), .inl ((kk6 4), 144, .inl (fun _ => 0))), ((aa6 5), .inl ((kk6 5), 12, .inl (fun _ => 0))), ((aa6 6), .inl ((kk6 6), 40, .inl (fun _ => 0))), ((aa6 7), .inl ((kk6 7), 12, .inl (fun _ => 0))), ((aa6 8), .inl ((kk6 8), 8, .inl (fun _ => 0))), ((aa6 9), .inl ((kk6 9), 64, .inl (fun _ => 0))), ((aa6 10), .inl ((kk6 10), 1024, .inl (fun _ => 0)))] := hD
  have hK : va_K (dC, dI) vwCl [((kk6 0), .int), ((kk6 1), .int), ((kk6 2), .int), ((kk6 3), .int), ((kk6 4), .int), ((kk6 5), .int), ((kk6 6), .int), ((kk6 7), .int), ((kk6 8), .int), ((kk6 9), .int), ((kk6 10), .int)] s := hK
  refine W.widen (k := 13) (n := 1484) (by decide +kernel) (by decide +kernel) ?_
  refine lv_iload_n hx hb dX11_cut_9 rfl (lv_at hl 1 rfl) ?_
  refine lv_iload_n hx hb dX11_cut_10 rfl (lv_at hl 2 rfl) ?_
  have hPc := hP.sub (ws' := [(a6, .inr (2, [.int 0, .ref (aa6 0), .ref (aa6 1), .ref (aa6 2), .ref (aa6 3), .int 0, .ref (aa6 4), .ref (aa6 5), .ref (aa6 6), .ref (aa6 7), .ref (aa6 8), .int 0, .ref (aa6 9), .ref (aa6 10)])), ((aa6 4), .inl ((kk6 4), 144, .inl (fun _ => 0))), ((aa6 5), .inl ((kk6 5), 12, .inl (fun _ => 0)))]) [1, 6, 7] rfl
  have hDc := hD.sub (ws' := [(a6, .inr (2, [.int 0, .ref (aa6 0), .ref (aa6 1), .ref (aa6 2), .ref (aa6 3), .int 0, .ref (aa6 4), .ref (aa6 5), .ref (aa6 6), .ref (aa6 7), .ref (aa6 8), .int 0, .ref (aa6 9), .ref (aa6 10)])), ((aa6 4), .inl ((kk6 4), 144, .inl (fun _ => 0))), ((aa6 5), .inl ((kk6 5), 12, .inl (fun _ => 0)))]) [1, 6, 7] (by decide) rfl
  have hKc := hK.sub (tys' := [((kk6 4), .int), ((kk6 5), .int)]) [4, 5] rfl
  have hFc := va_free (wc := [(a6, .inr (2, [.int 0, .ref (aa6 0), .ref (aa6 1), .ref (aa6 2), .ref (aa6 3), .int 0, .ref (aa6 4), .ref (aa6 5), .ref (aa6 6), .ref (aa6 7), .ref (aa6 8), .int 0, .ref (aa6 9), .ref (aa6 10)])), ((aa6 4), .inl ((kk6 4), 144, .inl (fun _ => 0))), ((aa6 5), .inl ((kk6 5), 12, .inl (fun _ => 0)))]) hD hS hA [1, 6, 7] rfl
  refine va_calli (va_runV (As := [.int (nI si), .int (nI tj)]) (rest := []) ⟨hx, hb, hml, hown, hts⟩ (p_X2_fill l dC dI a6 aa6 kk6 si tj (by first | omega | decide | assumption | rfl) (by first | omega | decide | assumption | rfl) (by first | omega | decide | assumption | rfl) H.size) (cwV 2 hts gwsPX11_cut_2 rfl rfl rfl (by decide +kernel) ⟨by decide +kernel, by decide +kernel⟩) ⟨fun a U g mk q => by obtain ⟨q0, q1, qP, qK, qD⟩ := q; exact ⟨q0, q1, qP, va_K.moved (u := U) (U := U.calling g mk a) (Vm.Alike.refl U.vm) qK, qD⟩, va_recv hKc hPc (ci := 2) (q0 := 0) rfl rfl, fun U hU9 hW => ⟨rfl, by rw [hU9], by rw [hU9]; exact hPc, va_K.moved hW.alike hKc, hDc.weaken (fun _ _ _ _ => trivial)⟩⟩ rfl rfl hl.1 rfl (lv_room (Nat.le_of_ble_eq_true rfl)) dX11_cut_11 ⟨by decide +kernel, by decide +kernel⟩) hS (fun q _ h => hFc q h) hFc (fun r11 u t H1 locs ht hvm hw hB hz1 hk1 hS => ?_)
  obtain ⟨hP1, hK1, hD1⟩ := hB
  rw [ht] at hP1
  have hK1 := va_K.moved hvm.symm hK1
  obtain ⟨hP, hD⟩ := va_join (wr := [(h0, .inr (11, [.ref (a 0), .ref (a 1), .ref (a 3), .ref (a 14), .int 0, .null, .null, .null, .null, .null, .ref a6])), ((aa6 0), .inl ((kk6 0), 40, .inl (fun _ => 0))), ((aa6 1), .inl ((kk6 1), 40, .inl (fun _ => 0))), ((aa6 2), .inl ((kk6 2), 40, .inl (fun _ => 0))), ((aa6 3), .inl ((kk6 3), 40, .inl (fun _ => 0))), ((aa6 6), .inl ((kk6 6), 40, .inl (fun _ => 0))), ((aa6 7), .inl ((kk6 7), 12, .inl (fun _ => 0))), ((aa6 8), .inl ((kk6 8), 8, .inl (fun _ => 0))), ((aa6 9), .inl ((kk6 9), 64, .inl (fun _ => 0))), ((aa6 10), .inl ((kk6 10), 1024, .inl (fun _ => 0)))]) (w1 := [(a6, .inr (2, [.int 0, .ref (aa6 0), .ref (aa6 1), .ref (aa6 2), .ref (aa6 3), .int ((1 : Int32) <<< ((nI si) &&& 31)), .ref (aa6 4), .ref (aa6 5), .ref (aa6 6), .ref (aa6 7), .ref (aa6 8), .int 0, .ref (aa6 9), .ref (aa6 10)]))]) hP hD [1, 6, 7] [0, 2, 3, 4, 5, 8, 9, 10, 11, 12] rfl rfl (by decide) (by decide) hk1 hFc hP1 hD1
  generalize H1 = H at hP hS ⊢
  have hP : va_P (dC, dI) vwCl [(h0, .inr (11, [.ref (a 0), .ref (a 1), .ref (a 3), .ref (a 14), .int 0, .null, .null, .null, .null, .null, .ref a6])), ((aa6 0), .inl ((kk6 0), 40, .inl (fun _ => 0))), ((aa6 1), .inl ((kk6 1), 40, .inl (fun _ => 0))), ((aa6 2), .inl ((kk6 2), 40, .inl (fun _ => 0))), ((aa6 3), .inl ((kk6 3), 40, .inl (fun _ => 0))), ((aa6 6), .inl ((kk6 6), 40, .inl (fun _ => 0))), ((aa6 7), .inl ((kk6 7), 12, .inl (fun _ => 0))), ((aa6 8), .inl ((kk6 8), 8, .inl (fun _ => 0))), ((aa6 9), .inl ((kk6 9), 64, .inl (fun _ => 0))), ((aa6 10), .inl ((kk6 10), 1024, .inl (fun _ => 0))), (a6, .inr (2, [.int 0, .ref (aa6 0), .ref (aa6 1), .ref (aa6 2), .ref (aa6 3), .int ((1 : Int32) <<< ((nI si) &&& 31)), .ref (aa6 4), .ref (aa6 5), .ref (aa6 6), .ref (aa6 7), .ref (aa6 8), .int 0, .ref (aa6 9), .ref (aa6 10)]))] H := hP
  have hD : va_D A [(h0, .inr (11, [.ref (a 0), .ref (a 1), .ref (a 3), .ref (a 14), .int 0, .null, .null, .null, .null, .null, .ref a6])), ((aa6 0), .inl ((kk6 0), 40, .inl (fun _ => 0))), ((aa6 1), .inl ((kk6 1), 40, .inl (fun _ => 0))), ((aa6 2), .inl ((kk6 2), 40, .inl (fun _ => 0))), ((aa6 3), .inl ((kk6 3), 40, .inl (fun _ => 0))), ((aa6 6), .inl ((kk6 6), 40, .inl (fun _ => 0))), ((aa6 7), .inl ((kk6 7), 12, .inl (fun _ => 0))), ((aa6 8), .inl ((kk6 8), 8, .inl (fun _ => 0))), ((aa6 9), .inl ((kk6 9), 64, .inl (fun _ => 0))), ((aa6 10), .inl ((kk6 10), 1024, .inl (fun _ => 0))), (a6, .inr (2, [.int 0, .ref (aa6 0), .ref (aa6 1), .ref (aa6 2), .ref (aa6 3), .int ((1 : Int32) <<< ((nI si) &&& 31)), .ref (aa6 4), .ref (aa6 5), .ref (aa6 6), .ref (aa6 7), .ref (aa6 8), .int 0, .ref (aa6 9), .ref (aa6 10)]))] := hD
  obtain rfl := hw
  refine lv_pop hx hb dX11_cut_14 rfl ?_
  refine lv_aload_n hx hb dX11_cut_15 rfl (lv_at hl 0 rfl) ?_
  refine va_get (D := (dC, dI)) (ci := 11) (v := .ref a6) (C := RX11) (T := TX11) (N := 11) hx hb hts iwsPX11_cut_in11 hown hK hP 0 rfl rfl 10 (by decide) (hts (.fieldLink RX11 415 "OptimaWorks" "nets" "LOptimaWorks$NetDesk;") (by decide +kernel)) (fun _ h9 => h9) rfl dX11_cut_16 ?_
  refine va_get (D := (dC, dI)) (ci := 2) (v := .int ((1 : Int32) <<< ((nI si) &&& 31))) (C := RX2) (T := TX2) (N := 14) hx hb hts iwsPX11_cut_in2 hown hK hP 10 rfl rfl 5 (by decide) (hts (.fieldLink RX11 443 "OptimaWorks$NetDesk" "reached" "I") (by decide +kernel)) (fun _ h9 => h9) rfl dX11_cut_19 ?_
  refine vx_ret ?_
  refine W.widen (k := 13) (n := 1484) (by decide +kernel) (by decide +kernel) ?_
  exact W.iret (v := ((1 : Int32) <<< ((nI si) &&& 31))) hx hb hr (fun t ht hW => ⟨⟨((1 : Int32) <<< ((nI si) &&& 31)), (), rfl, by (refine ⟨?_, ?_⟩ <;> (first | rfl | assumption | trivial | omega | (simp []; done) | (simp; omega))), by rw [ht]; exact hP.sub [] rfl, va_K.moved hW.alike (hK.sub [] rfl), hD.sub [] (by decide) rfl⟩, hS.F ht⟩) hS.2.2 dX11_cut_22
theorem dX2_measure_0 : decode cX2_measure 0 = .ok (.aload_n 0, 1) := by decide +kernel
theorem dX2_measure_1 : decode cX2_measure 1 = .ok (.getfield 33, 3) := by decide +kernel
theorem dX2_measure_4 : decode cX2_measure 4 = .ok (.ldc 60, 2) := by decide +kernel
theorem dX2_measure_6 : decode cX2_measure 6 = .ok (.invokestatic 49, 3) := by decide +kernel
theorem dX2_measure_9 : decode cX2_measure 9 = .ok (.aload_n 0, 1) := by decide +kernel
theorem dX2_measure_10 : decode cX2_measure 10 = .ok (.getfield 33, 3) := by decide +kernel
theorem dX2_measure_13 : decode cX2_measure 13 = .ok (.iload_n 1, 1) := by decide +kernel
theorem dX2_measure_14 : decode cX2_measure 14 = .ok (.iconst 0, 1) := by decide +kernel
theorem dX2_measure_15 : decode cX2_measure 15 = .ok (.iastore, 1) := by decide +kernel
theorem dX2_measure_16 : decode cX2_measure 16 = .ok (.iconst 1, 1) := by decide +kernel
theorem dX2_measure_17 : decode cX2_measure 17 = .ok (.istore_n 2, 1) := by decide +kernel
theorem dX2_measure_18 : decode cX2_measure 18 = .ok (.iconst 0, 1) := by decide +kernel
theorem dX2_measure_19 : decode cX2_measure 19 = .ok (.istore_n 3, 1) := by decide +kernel
theorem dX2_measure_20 : decode cX2_measure 20 = .ok (.iload_n 3, 1) := by decide +kernel
theorem dX2_measure_21 : decode cX2_measure 21 = .ok (.bipush 12, 2) := by decide +kernel
theorem dX2_measure_23 : decode cX2_measure 23 = .ok (.if_icmp .ge 263, 3) := by decide +kernel
theorem dX2_measure_26 : decode cX2_measure 26 = .ok (.iload_n 2, 1) := by decide +kernel
theorem dX2_measure_27 : decode cX2_measure 27 = .ok (.ifCond .eq 259, 3) := by decide +kernel
theorem dX2_measure_30 : decode cX2_measure 30 = .ok (.iconst 0, 1) := by decide +kernel
theorem dX2_measure_31 : decode cX2_measure 31 = .ok (.istore_n 2, 1) := by decide +kernel
theorem dX2_measure_32 : decode cX2_measure 32 = .ok (.iconst 0, 1) := by decide +kernel
theorem dX2_measure_33 : decode cX2_measure 33 = .ok (.istore 4, 2) := by decide +kernel
theorem dX2_measure_35 : decode cX2_measure 35 = .ok (.iload 4, 2) := by decide +kernel
theorem dX2_measure_37 : decode cX2_measure 37 = .ok (.aload_n 0, 1) := by decide +kernel
theorem dX2_measure_38 : decode cX2_measure 38 = .ok (.getfield 45, 3) := by decide +kernel
theorem dX2_measure_41 : decode cX2_measure 41 = .ok (.if_icmp .ge 239, 3) := by decide +kernel
theorem dX2_measure_280 : decode cX2_measure 280 = .ok (.iinc 3 1, 3) := by decide +kernel
theorem dX2_measure_283 : decode cX2_measure 283 = .ok (.goto (-263), 3) := by decide +kernel
theorem dX2_measure_286 : decode cX2_measure 286 = .ok (.return_, 1) := by decide +kernel
def wsPX2_measure : List Cond := .code yX2_measure cX2_measure 5 none :: ([.fieldLink RX2 33 "OptimaWorks$NetDesk" "length" "[I", .constant RX2 60 536870912, .fieldLink RX2 45 "OptimaWorks$NetDesk" "arcs" "I"] ++ wsX20 ++ (va_wsS RX2 49 yJ7_fill_53178 wsPJ7_fill_53178))
theorem iwsPX2_measure_in2 : ∀ w ∈ wsX20, w ∈ wsPX2_measure := fun _ h => List.mem_cons_of_mem _ (List.mem_append_left _ (List.mem_append_right _ h))
theorem gwsPX2_measure_0 : GoodIn wsPX2_measure (va_wsS RX2 49 yJ7_fill_53178 wsPJ7_fill_53178) := goodIn_sub (fun _ h => List.mem_cons_of_mem _ (List.mem_append_right _ h)) (by decide +kernel)
set_option maxHeartbeats 4000000 in
set_option maxRecDepth 100000 in
/-- measure(s) without arcs -/
theorem p_X2_measure (l : Launch) (dC : Nat → ClassId) (dI : Nat → Nat → Nat) (d0 : Nat) (bb : Nat → Nat) (kd : Nat → ClassId) (g0 : Nat → Int32) (si : Nat) (hsi : si < 12) (sz : Nat) : Met l yX2_measure wsPX2_measure ({ frames := 1, cells := 0, slots := 0, locals := 23 }) (va_Pc [.ref d0, .int (nI si)] (fun U => U.heap.size = sz ∧ va_P (dC, dI) vwCl [(d0, .inr (2, [.int 0, .ref (bb 0), .ref (bb 1), .ref (bb 2), .ref (bb 3), .int 0, .ref (bb 4), .ref (bb 5), .ref (bb 6), .ref (bb 7), .ref (bb 8), .int 0, .ref (bb 9), .ref (bb 10)])), ((bb 7), .inl ((kd 7), 12, .inl g0))] U.heap ∧ va_K (dC, dI) vwCl [((kd 7), .int)] U ∧ va_D (fun _ => True) [(d0, .inr (2, [.int 0, .ref (bb 0), .ref (bb 1), .ref (bb 2), .ref (bb 3), .int 0, .ref (bb 4), .ref (bb 5), .ref (bb 6), .ref (bb 7), .ref (bb 8), .int 0, .ref (bb 9), .ref (bb 10)])), ((bb 7), .inl ((kd 7), 12, .inl g0))])) (va_Qv (fun (u : Nat → Int32) => (∀ j, j < 12 → ¬ j = si → u j = 536870912)) (fun (u : Nat → Int32) t => va_P (dC, dI) vwCl [(d0, .inr (2, [.int 0, .ref (bb 0), .ref (bb 1), .ref (bb 2), .ref (bb 3), .int 0, .ref (bb 4), .ref (bb 5), .ref (bb 6), .ref (bb 7), .ref (bb 8), .int 0, .ref (bb 9), .ref (bb 10)])), ((bb 7), .inl ((kd 7), 12, .inl u))] t.heap ∧ va_K (dC, dI) vwCl [] t ∧ va_D (va_A [(d0, .inr (2, [.int 0, .ref (bb 0), .ref (bb 1), .ref (bb 2), .ref (bb 3), .int 0, .ref (bb 4), .ref (bb 5), .ref (bb 6), .ref (bb 7), .ref (bb 8), .int 0, .ref (bb 9), .ref (bb 10)])), ((bb 7), .inl ((kd 7), 12, .inl g0))] sz) [(d0, .inr (2, [.int 0, .ref (bb 0), .ref (bb 1), .ref (bb 2), .ref (bb 3), .int 0, .ref (bb 4), .ref (bb 5), .ref (bb 6), .ref (bb 7), .ref (bb 8), .int 0, .ref (bb 9), .ref (bb 10)])), ((bb 7), .inl ((kd 7), 12, .inl u))]) (va_A [(d0, .inr (2, [.int 0, .ref (bb 0), .ref (bb 1), .ref (bb 2), .ref (bb 3), .int 0, .ref (bb 4), .ref (bb 5), .ref (bb 6), .ref (bb 7), .ref (bb 8), .int 0, .ref (bb 9), .ref (bb 10)])), ((bb 7), .inl ((kd 7), 12, .inl g0))] sz)) 0 0 (va_A [(d0, .inr (2, [.int 0, .ref (bb 0), .ref (bb 1), .ref (bb 2), .ref (bb 3), .int 0, .ref (bb 4), .ref (bb 5), .ref (bb 6), .ref (bb 7), .ref (bb 8), .int 0, .ref (bb 9), .ref (bb 10)])), ((bb 7), .inl ((kd 7), 12, .inl g0))] sz) := by
  refine Met.ofW (cc := cX2_measure) (maxL := 5) (ret := none) (by decide) rfl ?_
  intro p e s m args below meth c s₁ B hml hv
  obtain ⟨rfl, hsz, hP, hK, hD0⟩ := hv
  have hx := B.exec
  have hb := B.bytes
  have hr := B.returns
  have hts := atoms_spec (ws := wsPX2_measure) B.pre
  have hown : s.vm.findClass RX2 = some m.cls := findClass_of_methodNamed B.named
  have hlocks := B.notSynchronized
  subst hsz
  have hD := hD0.self (sz := s.heap.size)
  generalize hAe : va_A [(d0, .inr (2, [.int 0, .ref (bb 0), .ref (bb 1), .ref (bb 2), .ref (bb 3), .int 0, .ref (bb 4), .ref (bb 5), .ref (bb 6), .ref (bb 7), .ref (bb 8), .int 0, .ref (bb 9), .ref (bb 10)])), ((bb 7), .inl ((kd 7), 12, .inl g0))] s.heap.size = A at hD ⊢
  have hA : ∀ q : Nat, s.heap.size ≤ q → A q := fun q h => by rw [← hAe]; exact Or.inr h
  have hS : va_S A s.heap s.heap [] := va_S.rf
  have hP : va_P (dC, dI) vwCl [(d0, .inr (2, [.int 0, .ref (bb 0), .ref (bb 1), .ref (bb 2), .ref (bb 3), .int 0, .ref (bb 4), .ref (bb 5), .ref (bb 6), .ref (bb 7), .ref (bb 8), .int 0, .ref (bb 9), .ref (bb 10)])), ((bb 7), .inl ((kd 7), 12, .inl g0))] s.heap := hP
  have hl := lv_entry ([.ref d0, .int (nI si)]) (n := 5) (Nat.le_of_ble_eq_true rfl)
  rw [lg_entry_eq]
  generalize (lg_sl ([.ref d0, .int (nI si)]) ++ List.replicate (5 - (lg_sl ([.ref d0, .int (nI si)])).length) Slot.unset).toArray = ls at hl ⊢
  have hl : lv_has ls 5 [(0, .ref d0), (1, .int (nI si))] := hl
  refine lv_aload_n hx hb dX2_measure_0 rfl (lv_at hl 0 rfl) ?_
  refine va_get (D := (dC, dI)) (ci := 2) (v := .ref (bb 7)) (C := RX2) (T := TX2) (N := 14) hx hb hts iwsPX2_measure_in2 hown hK hP 0 rfl rfl 9 (by decide) (hts (.fieldLink RX2 33 "OptimaWorks$NetDesk" "length" "[I") (by decide +kernel)) (fun _ h9 => h9) rfl dX2_measure_1 ?_
  refine lv_ldc (v := 536870912) hx hb hown (hts (.constant RX2 60 536870912) (by decide +kernel)) dX2_measure_4 ?_
  have hPc := hP.sub (ws' := [((bb 7), .inl ((kd 7), 12, .inl g0))]) [1] rfl
  have hDc := hD.sub (ws' := [((bb 7), .inl ((kd 7), 12, .inl g0))]) [1] (by decide) rfl
  have hKc := hK.sub (tys' := [((kd 7), .int)]) [0] rfl
  have hFc := va_free (wc := [((bb 7), .inl ((kd 7), 12, .inl g0))]) hD hS hA [1] rfl
  refine va_callv (va_runS (As := [.ref (bb 7), .int 536870912]) (rest := []) ⟨hx, hb, hml, hown, hts⟩ (p_J7_fill_53178 l dC dI (bb 7) (kd 7) 12 (by first | omega | decide | assumption | rfl) g0 536870912 s.heap.size) (va_cwS 2 hts gwsPX2_measure_0 rfl rfl rfl (by decide +kernel) ⟨by decide +kernel, by decide +kernel⟩) ⟨fun a U g mk q => by obtain ⟨q0, q1, qP, qK, qD⟩ := q; exact ⟨q0, q1, qP, va_K.moved (u := U) (U := U.calling g mk a) (Vm.Alike.refl U.vm) qK, qD⟩, fun U hU9 hW => ⟨rfl, by rw [hU9], by rw [hU9]; exact hPc, va_K.moved hW.alike hKc, hDc.weaken (fun _ _ _ _ => trivial)⟩⟩ rfl rfl hl.1 rfl (lv_room (Nat.le_of_ble_eq_true rfl)) dX2_measure_6 ⟨by decide +kernel, by decide +kernel⟩) hS (fun q _ h => hFc q h) hFc (fun u t H1 locs ht hvm hw hB hz1 hk1 hS => ?_)
  obtain ⟨g6, hwit6⟩ : ∃ w9, w9 = u := ⟨u, rfl⟩
  subst hwit6
  obtain ⟨hP1, hK1, hD1⟩ := hB
  rw [ht] at hP1
  have hK1 := va_K.moved hvm.symm hK1
  obtain ⟨hP, hD⟩ := va_join (wr := [(d0, .inr (2, [.int 0, .ref (bb 0), .ref (bb 1), .ref (bb 2), .ref (bb 3), .int 0, .ref (bb 4), .ref (bb 5), .ref (bb 6), .ref (bb 7), .ref (bb 8), .int 0, .ref (bb 9), .ref (bb 10)]))]) (w1 := [((bb 7), .inl ((kd 7), 12, .inl g6))]) hP hD [1] [0] rfl rfl (by decide) (by decide) hk1 hFc hP1 hD1
  generalize H1 = H at hP hS ⊢
  have hP : va_P (dC, dI) vwCl [(d0, .inr (2, [.int 0, .ref (bb 0), .ref (bb 1), .ref (bb 2), .ref (bb 3), .int 0, .ref (bb 4), .ref (bb 5), .ref (bb 6), .ref (bb 7), .ref (bb 8), .int 0, .ref (bb 9), .ref (bb 10)])), ((bb 7), .inl ((kd 7), 12, .inl g6))] H := hP
  have hD : va_D A [(d0, .inr (2, [.int 0, .ref (bb 0), .ref (bb 1), .ref (bb 2), .ref (bb 3), .int 0, .ref (bb 4), .ref (bb 5), .ref (bb 6), .ref (bb 7), .ref (bb 8), .int 0, .ref (bb 9), .ref (bb 10)])), ((bb 7), .inl ((kd 7), 12, .inl g6))] := hD
  have f6_0 := hw
  try dsimp only at f6_0
  refine lv_aload_n hx hb dX2_measure_9 rfl (lv_at hl 0 rfl) ?_
  refine va_get (D := (dC, dI)) (ci := 2) (v := .ref (bb 7)) (C := RX2) (T := TX2) (N := 14) hx hb hts iwsPX2_measure_in2 hown hK hP 0 rfl rfl 9 (by decide) (hts (.fieldLink RX2 33 "OptimaWorks$NetDesk" "length" "[I") (by decide +kernel)) (fun _ h9 => h9) rfl dX2_measure_10 ?_
  refine lv_iload_n hx hb dX2_measure_13 rfl (lv_at hl 1 rfl) ?_
  refine lv_iconst (v := 0) hx hb dX2_measure_14 (by decide) ?_
  refine va_iast hx hb hK hP hD hS 1 0 rfl rfl (vp_in_nI (show si < 12 by omega) (by omega)) dX2_measure_15 (fun H locs hP hD hS => ?_)
  have hP : va_P (dC, dI) vwCl [(d0, .inr (2, [.int 0, .ref (bb 0), .ref (bb 1), .ref (bb 2), .ref (bb 3), .int 0, .ref (bb 4), .ref (bb 5), .ref (bb 6), .ref (bb 7), .ref (bb 8), .int 0, .ref (bb 9), .ref (bb 10)])), ((bb 7), .inl ((kd 7), 12, .inl (upd g6 ((nI si)).toNatClampNeg 0)))] H := hP
  have hD : va_D A [(d0, .inr (2, [.int 0, .ref (bb 0), .ref (bb 1), .ref (bb 2), .ref (bb 3), .int 0, .ref (bb 4), .ref (bb 5), .ref (bb 6), .ref (bb 7), .ref (bb 8), .int 0, .ref (bb 9), .ref (bb 10)])), ((bb 7), .inl ((kd 7), 12, .inl (upd g6 ((nI si)).toNatClampNeg 0)))] := hD
  refine lv_iconst (v := 1) hx hb dX2_measure_16 (by decide) ?_
  refine lv_istore_n (lv' := [(2, .int 1), (0, .ref d0), (1, .int (nI si))]) hx hb dX2_measure_17 rfl hl (by decide) rfl (fun ls hl => ?_)
  refine lv_iconst (v := 0) hx hb dX2_measure_18 (by decide) ?_
  refine lv_istore_n (lv' := [(3, .int 0), (2, .int 1), (0, .ref d0), (1, .int (nI si))]) hx hb dX2_measure_19 rfl hl (by decide) rfl (fun ls hl => ?_)
  refine lv_iload_n hx hb dX2_measure_20 rfl (lv_at hl 0 rfl) ?_
  refine lv_bipush (v := 12) hx hb dX2_measure_21 (by decide) ?_
  refine lv_icmp_ge (tgt := 286) hx hb dX2_measure_23 (by decide) (fun c9 => absurd c9 (by decide)) (fun _ => ?_)
  refine lv_iload_n hx hb dX2_measure_26 rfl (lv_at hl 1 rfl) ?_
  refine lv_if_eq (tgt := 286) hx hb dX2_measure_27 (by decide) (fun c9 => absurd c9 (by decide)) (fun _ => ?_)
  refine lv_iconst (v := 0) hx hb dX2_measure_30 (by decide) ?_
  refine lv_istore_n (lv' := [(2, .int 0), (3, .int 0), (0, .ref d0), (1, .int (nI si))]) hx hb dX2_measure_31 rfl hl (by decide) rfl (fun ls hl => ?_)
  refine lv_iconst (v := 0) hx hb dX2_measure_32 (by decide) ?_
  refine lv_istore (lv' := [(4, .int 0), (2, .int 0), (3, .int 0), (0, .ref d0), (1, .int (nI si))]) hx hb dX2_measure_33 hl (by decide) rfl (fun ls hl => ?_)
  refine lv_iload hx hb dX2_measure_35 (lv_at hl 0 rfl) ?_
  refine lv_aload_n hx hb dX2_measure_37 rfl (lv_at hl 3 rfl) ?_
  refine va_get (D := (dC, dI)) (ci := 2) (v := .int 0) (C := RX2) (T := TX2) (N := 14) hx hb hts iwsPX2_measure_in2 hown hK hP 0 rfl rfl 0 (by decide) (hts (.fieldLink RX2 45 "OptimaWorks$NetDesk" "arcs" "I") (by decide +kernel)) (fun _ h9 => h9) rfl dX2_measure_38 ?_
  refine lv_icmp_ge (tgt := 280) hx hb dX2_measure_41 (by decide) (fun _ => ?_) (fun c9 => absurd (by decide) c9)
  refine lv_iinc (v := 1) (lv' := [(3, .int 1), (4, .int 0), (2, .int 0), (0, .ref d0), (1, .int (nI si))]) hx hb dX2_measure_280 hl (k := 2) rfl (by decide) (by decide) rfl (fun ls hl => ?_)
  refine lv_goto (tgt := 20) hx hb dX2_measure_283 (by decide) ?_
  refine lv_iload_n hx hb dX2_measure_20 rfl (lv_at hl 0 rfl) ?_
  refine lv_bipush (v := 12) hx hb dX2_measure_21 (by decide) ?_
  refine lv_icmp_ge (tgt := 286) hx hb dX2_measure_23 (by decide) (fun c9 => absurd c9 (by decide)) (fun _ => ?_)
  refine lv_iload_n hx hb dX2_measure_26 rfl (lv_at hl 2 rfl) ?_
  refine lv_if_eq (tgt := 286) hx hb dX2_measure_27 (by decide) (fun _ => ?_) (fun c9 => absurd (by decide) c9)
  refine W.widen (k := 0) (n := 0) (by decide +kernel) (by decide +kernel) ?_
  exact W.vret hx hb hr (fun t ht hW => ⟨⟨(upd g6 ((nI si)).toNatClampNeg 0), rfl, fun j h1 h2 => by rw [upd_at (by omega), if_neg h2]; exact f6_0 j h1, by rw [ht]; exact hP.sub [0, 1] rfl, va_K.moved hW.alike (hK.sub [] rfl), hD.sub [0, 1] (by decide) rfl⟩, hS.F ht⟩) hS.2.2 dX2_measure_286
theorem dX2_measureBack_0 : decode cX2_measureBack 0 = .ok (.aload_n 0, 1) := by decide +kernel
theorem dX2_measureBack_1 : decode cX2_measureBack 1 = .ok (.getfield 33, 3) := by decide +kernel
theorem dX2_measureBack_4 : decode cX2_measureBack 4 = .ok (.ldc 60, 2) := by decide +kernel
theorem dX2_measureBack_6 : decode cX2_measureBack 6 = .ok (.invokestatic 49, 3) := by decide +kernel
theorem dX2_measureBack_9 : decode cX2_measureBack 9 = .ok (.aload_n 0, 1) := by decide +kernel
theorem dX2_measureBack_10 : decode cX2_measureBack 10 = .ok (.getfield 33, 3) := by decide +kernel
theorem dX2_measureBack_13 : decode cX2_measureBack 13 = .ok (.iload_n 1, 1) := by decide +kernel
theorem dX2_measureBack_14 : decode cX2_measureBack 14 = .ok (.iconst 0, 1) := by decide +kernel
theorem dX2_measureBack_15 : decode cX2_measureBack 15 = .ok (.iastore, 1) := by decide +kernel
theorem dX2_measureBack_16 : decode cX2_measureBack 16 = .ok (.iconst 1, 1) := by decide +kernel
theorem dX2_measureBack_17 : decode cX2_measureBack 17 = .ok (.istore_n 2, 1) := by decide +kernel
theorem dX2_measureBack_18 : decode cX2_measureBack 18 = .ok (.iconst 0, 1) := by decide +kernel
theorem dX2_measureBack_19 : decode cX2_measureBack 19 = .ok (.istore_n 3, 1) := by decide +kernel
theorem dX2_measureBack_20 : decode cX2_measureBack 20 = .ok (.iload_n 3, 1) := by decide +kernel
theorem dX2_measureBack_21 : decode cX2_measureBack 21 = .ok (.bipush 12, 2) := by decide +kernel
theorem dX2_measureBack_23 : decode cX2_measureBack 23 = .ok (.if_icmp .ge 110, 3) := by decide +kernel
theorem dX2_measureBack_26 : decode cX2_measureBack 26 = .ok (.iload_n 2, 1) := by decide +kernel
theorem dX2_measureBack_27 : decode cX2_measureBack 27 = .ok (.ifCond .eq 106, 3) := by decide +kernel
theorem dX2_measureBack_30 : decode cX2_measureBack 30 = .ok (.iconst 0, 1) := by decide +kernel
theorem dX2_measureBack_31 : decode cX2_measureBack 31 = .ok (.istore_n 2, 1) := by decide +kernel
theorem dX2_measureBack_32 : decode cX2_measureBack 32 = .ok (.iconst 0, 1) := by decide +kernel
theorem dX2_measureBack_33 : decode cX2_measureBack 33 = .ok (.istore 4, 2) := by decide +kernel
theorem dX2_measureBack_35 : decode cX2_measureBack 35 = .ok (.iload 4, 2) := by decide +kernel
theorem dX2_measureBack_37 : decode cX2_measureBack 37 = .ok (.aload_n 0, 1) := by decide +kernel
theorem dX2_measureBack_38 : decode cX2_measureBack 38 = .ok (.getfield 45, 3) := by decide +kernel
theorem dX2_measureBack_41 : decode cX2_measureBack 41 = .ok (.if_icmp .ge 86, 3) := by decide +kernel
theorem dX2_measureBack_127 : decode cX2_measureBack 127 = .ok (.iinc 3 1, 3) := by decide +kernel
theorem dX2_measureBack_130 : decode cX2_measureBack 130 = .ok (.goto (-110), 3) := by decide +kernel
theorem dX2_measureBack_133 : decode cX2_measureBack 133 = .ok (.return_, 1) := by decide +kernel
def wsPX2_measureBack : List Cond := .code yX2_measureBack cX2_measureBack 6 none :: ([.fieldLink RX2 33 "OptimaWorks$NetDesk" "length" "[I", .constant RX2 60 536870912, .fieldLink RX2 45 "OptimaWorks$NetDesk" "arcs" "I"] ++ wsX20 ++ (va_wsS RX2 49 yJ7_fill_53178 wsPJ7_fill_53178))
theorem iwsPX2_measureBack_in2 : ∀ w ∈ wsX20, w ∈ wsPX2_measureBack := fun _ h => List.mem_cons_of_mem _ (List.mem_append_left _ (List.mem_append_right _ h))
theorem gwsPX2_measureBack_0 : GoodIn wsPX2_measureBack (va_wsS RX2 49 yJ7_fill_53178 wsPJ7_fill_53178) := goodIn_sub (fun _ h => List.mem_cons_of_mem _ (List.mem_append_right _ h)) (by decide +kernel)
set_option maxHeartbeats 4000000 in
set_option maxRecDepth 100000 in
/-- measureBack(t) without arcs -/
theorem p_X2_measureBack (l : Launch) (dC : Nat → ClassId) (dI : Nat → Nat → Nat) (d0 : Nat) (bb : Nat → Nat) (kd : Nat → ClassId) (g0 : Nat → Int32) (si : Nat) (hsi : si < 12) (sz : Nat) : Met l yX2_measureBack wsPX2_measureBack ({ frames := 1, cells := 0, slots := 0, locals := 23 }) (va_Pc [.ref d0, .int (nI si)] (fun U => U.heap.size = sz ∧ va_P (dC, dI) vwCl [(d0, .inr (2, [.int 0, .ref (bb 0), .ref (bb 1), .ref (bb 2), .ref (bb 3), .int 0, .ref (bb 4), .ref (bb 5), .ref (bb 6), .ref (bb 7), .ref (bb 8), .int 0, .ref (bb 9), .ref (bb 10)])), ((bb 7), .inl ((kd 7), 12, .inl g0))] U.heap ∧ va_K (dC, dI) vwCl [((kd 7), .int)] U ∧ va_D (fun _ => True) [(d0, .inr (2, [.int 0, .ref (bb 0), .ref (bb 1), .ref (bb 2), .ref (bb 3), .int 0, .ref (bb 4), .ref (bb 5), .ref (bb 6), .ref (bb 7), .ref (bb 8), .int 0, .ref (bb 9), .ref (bb 10)])), ((bb 7), .inl ((kd 7), 12, .inl g0))])) (va_Qv (fun (u : Nat → Int32) => (∀ j, j < 12 → ¬ j = si → u j = 536870912)) (fun (u : Nat → Int32) t => va_P (dC, dI) vwCl [(d0, .inr (2, [.int 0, .ref (bb 0), .ref (bb 1), .ref (bb 2), .ref (bb 3), .int 0, .ref (bb 4), .ref (bb 5), .ref (bb 6), .ref (bb 7), .ref (bb 8), .int 0, .ref (bb 9), .ref (bb 10)])), ((bb 7), .inl ((kd 7), 12, .inl u))] t.heap ∧ va_K (dC, dI) vwCl [] t ∧ va_D (va_A [(d0, .inr (2, [.int 0, .ref (bb 0), .ref (bb 1), .ref (bb 2), .ref (bb 3), .int 0, .ref (bb 4), .ref (bb 5), .ref (bb 6), .ref (bb 7), .ref (bb 8), .int 0, .ref (bb 9), .ref (bb 10)])), ((bb 7), .inl ((kd 7), 12, .inl g0))] sz) [(d0, .inr (2, [.int 0, .ref (bb 0), .ref (bb 1), .ref (bb 2), .ref (bb 3), .int 0, .ref (bb 4), .ref (bb 5), .ref (bb 6), .ref (bb 7), .ref (bb 8), .int 0, .ref (bb 9), .ref (bb 10)])), ((bb 7), .inl ((kd 7), 12, .inl u))]) (va_A [(d0, .inr (2, [.int 0, .ref (bb 0), .ref (bb 1), .ref (bb 2), .ref (bb 3), .int 0, .ref (bb 4), .ref (bb 5), .ref (bb 6), .ref (bb 7), .ref (bb 8), .int 0, .ref (bb 9), .ref (bb 10)])), ((bb 7), .inl ((kd 7), 12, .inl g0))] sz)) 0 0 (va_A [(d0, .inr (2, [.int 0, .ref (bb 0), .ref (bb 1), .ref (bb 2), .ref (bb 3), .int 0, .ref (bb 4), .ref (bb 5), .ref (bb 6), .ref (bb 7), .ref (bb 8), .int 0, .ref (bb 9), .ref (bb 10)])), ((bb 7), .inl ((kd 7), 12, .inl g0))] sz) := by
  refine Met.ofW (cc := cX2_measureBack) (maxL := 6) (ret := none) (by decide) rfl ?_
  intro p e s m args below meth c s₁ B hml hv
  obtain ⟨rfl, hsz, hP, hK, hD0⟩ := hv
  have hx := B.exec
  have hb := B.bytes
  have hr := B.returns
  have hts := atoms_spec (ws := wsPX2_measureBack) B.pre
  have hown : s.vm.findClass RX2 = some m.cls := findClass_of_methodNamed B.named
  have hlocks := B.notSynchronized
  subst hsz
  have hD := hD0.self (sz := s.heap.size)
  generalize hAe : va_A [(d0, .inr (2, [.int 0, .ref (bb 0), .ref (bb 1), .ref (bb 2), .ref (bb 3), .int 0, .ref (bb 4), .ref (bb 5), .ref (bb 6), .ref (bb 7), .ref (bb 8), .int 0, .ref (bb 9), .ref (bb 10)])), ((bb 7), .inl ((kd 7), 12, .inl g0))] s.heap.size = A at hD ⊢
  have hA : ∀ q : Nat, s.heap.size ≤ q → A q := fun q h => by rw [← hAe]; exact Or.inr h
  have hS : va_S A s.heap s.heap [] := va_S.rf
  have hP : va_P (dC, dI) vwCl [(d0, .inr (2, [.int 0, .ref (bb 0), .ref (bb 1), .ref (bb 2), .ref (bb 3), .int 0, .ref (bb 4), .ref (bb 5), .ref (bb 6), .ref (bb 7), .ref (bb 8), .int 0, .ref (bb 9), .ref (bb 10)])), ((bb 7), .inl ((kd 7), 12, .inl g0))] s.heap := hP
  have hl := lv_entry ([.ref d0, .int (nI si)]) (n := 6) (Nat.le_of_ble_eq_true rfl)
  rw [lg_entry_eq]
  generalize (lg_sl ([.ref d0, .int (nI si)]) ++ List.replicate (6 - (lg_sl ([.ref d0, .int (nI si)])).length) Slot.unset).toArray = ls at hl ⊢
  have hl : lv_has ls 6 [(0, .ref d0), (1, .int (nI si))] := hl
  refine lv_aload_n hx hb dX2_measureBack_0 rfl (lv_at hl 0 rfl) ?_
  refine va_get (D := (dC, dI)) (ci := 2) (v := .ref (bb 7)) (C := RX2) (T := TX2) (N := 14) hx hb hts iwsPX2_measureBack_in2 hown hK hP 0 rfl rfl 9 (by decide) (hts (.fieldLink RX2 33 "OptimaWorks$NetDesk" "length" "[I") (by decide +kernel)) (fun _ h9 => h9) rfl dX2_measureBack_1 ?_
  refine lv_ldc (v := 536870912) hx hb hown (hts (.constant RX2 60 536870912) (by decide +kernel)) dX2_measureBack_4 ?_
  have hPc := hP.sub (ws' := [((bb 7), .inl ((kd 7), 12, .inl g0))]) [1] rfl
  have hDc := hD.sub (ws' := [((bb 7), .inl ((kd 7), 12, .inl g0))]) [1] (by decide) rfl
  have hKc := hK.sub (tys' := [((kd 7), .int)]) [0] rfl
  have hFc := va_free (wc := [((bb 7), .inl ((kd 7), 12, .inl g0))]) hD hS hA [1] rfl
  refine va_callv (va_runS (As := [.ref (bb 7), .int 536870912]) (rest := []) ⟨hx, hb, hml, hown, hts⟩ (p_J7_fill_53178 l dC dI (bb 7) (kd 7) 12 (by first | omega | decide | assumption | rfl) g0 536870912 s.heap.size) (va_cwS 2 hts gwsPX2_measureBack_0 rfl rfl rfl (by decide +kernel) ⟨by decide +kernel, by decide +kernel⟩) ⟨fun a U g mk q => by obtain ⟨q0, q1, qP, qK, qD⟩ := q; exact ⟨q0, q1, qP, va_K.moved (u := U) (U := U.calling g mk a) (Vm.Alike.refl U.vm) qK, qD⟩, fun U hU9 hW => ⟨rfl, by rw [hU9], by rw [hU9]; exact hPc, va_K.moved hW.alike hKc, hDc.weaken (fun _ _ _ _ => trivial)⟩⟩ rfl rfl hl.1 rfl (lv_room (Nat.le_of_ble_eq_true rfl)) dX2_measureBack_6 ⟨by decide +kernel, by decide +kernel⟩) hS (fun q _ h => hFc q h) hFc (fun u t H1 locs ht hvm hw hB hz1 hk1 hS => ?_)
  obtain ⟨g6, hwit6⟩ : ∃ w9, w9 = u := ⟨u, rfl⟩
  subst hwit6
  obtain ⟨hP1, hK1, hD1⟩ := hB
  rw [ht] at hP1
  have hK1 := va_K.moved hvm.symm hK1
  obtain ⟨hP, hD⟩ := va_join (wr := [(d0, .inr (2, [.int 0, .ref (bb 0), .ref (bb 1), .ref (bb 2), .ref (bb 3), .int 0, .ref (bb 4), .ref (bb 5), .ref (bb 6), .ref (bb 7), .ref (bb 8), .int 0, .ref (bb 9), .ref (bb 10)]))]) (w1 := [((bb 7), .inl ((kd 7), 12, .inl g6))]) hP hD [1] [0] rfl rfl (by decide) (by decide) hk1 hFc hP1 hD1
  generalize H1 = H at hP hS ⊢
  have hP : va_P (dC, dI) vwCl [(d0, .inr (2, [.int 0, .ref (bb 0), .ref (bb 1), .ref (bb 2), .ref (bb 3), .int 0, .ref (bb 4), .ref (bb 5), .ref (bb 6), .ref (bb 7), .ref (bb 8), .int 0, .ref (bb 9), .ref (bb 10)])), ((bb 7), .inl ((kd 7), 12, .inl g6))] H := hP
  have hD : va_D A [(d0, .inr (2, [.int 0, .ref (bb 0), .ref (bb 1), .ref (bb 2), .ref (bb 3), .int 0, .ref (bb 4), .ref (bb 5), .ref (bb 6), .ref (bb 7), .ref (bb 8), .int 0, .ref (bb 9), .ref (bb 10)])), ((bb 7), .inl ((kd 7), 12, .inl g6))] := hD
  have f6_0 := hw
  try dsimp only at f6_0
  refine lv_aload_n hx hb dX2_measureBack_9 rfl (lv_at hl 0 rfl) ?_
  refine va_get (D := (dC, dI)) (ci := 2) (v := .ref (bb 7)) (C := RX2) (T := TX2) (N := 14) hx hb hts iwsPX2_measureBack_in2 hown hK hP 0 rfl rfl 9 (by decide) (hts (.fieldLink RX2 33 "OptimaWorks$NetDesk" "length" "[I") (by decide +kernel)) (fun _ h9 => h9) rfl dX2_measureBack_10 ?_
  refine lv_iload_n hx hb dX2_measureBack_13 rfl (lv_at hl 1 rfl) ?_
  refine lv_iconst (v := 0) hx hb dX2_measureBack_14 (by decide) ?_
  refine va_iast hx hb hK hP hD hS 1 0 rfl rfl (vp_in_nI (show si < 12 by omega) (by omega)) dX2_measureBack_15 (fun H locs hP hD hS => ?_)
  have hP : va_P (dC, dI) vwCl [(d0, .inr (2, [.int 0, .ref (bb 0), .ref (bb 1), .ref (bb 2), .ref (bb 3), .int 0, .ref (bb 4), .ref (bb 5), .ref (bb 6), .ref (bb 7), .ref (bb 8), .int 0, .ref (bb 9), .ref (bb 10)])), ((bb 7), .inl ((kd 7), 12, .inl (upd g6 ((nI si)).toNatClampNeg 0)))] H := hP
  have hD : va_D A [(d0, .inr (2, [.int 0, .ref (bb 0), .ref (bb 1), .ref (bb 2), .ref (bb 3), .int 0, .ref (bb 4), .ref (bb 5), .ref (bb 6), .ref (bb 7), .ref (bb 8), .int 0, .ref (bb 9), .ref (bb 10)])), ((bb 7), .inl ((kd 7), 12, .inl (upd g6 ((nI si)).toNatClampNeg 0)))] := hD
  refine lv_iconst (v := 1) hx hb dX2_measureBack_16 (by decide) ?_
  refine lv_istore_n (lv' := [(2, .int 1), (0, .ref d0), (1, .int (nI si))]) hx hb dX2_measureBack_17 rfl hl (by decide) rfl (fun ls hl => ?_)
  refine lv_iconst (v := 0) hx hb dX2_measureBack_18 (by decide) ?_
  refine lv_istore_n (lv' := [(3, .int 0), (2, .int 1), (0, .ref d0), (1, .int (nI si))]) hx hb dX2_measureBack_19 rfl hl (by decide) rfl (fun ls hl => ?_)
  refine lv_iload_n hx hb dX2_measureBack_20 rfl (lv_at hl 0 rfl) ?_
  refine lv_bipush (v := 12) hx hb dX2_measureBack_21 (by decide) ?_
  refine lv_icmp_ge (tgt := 133) hx hb dX2_measureBack_23 (by decide) (fun c9 => absurd c9 (by decide)) (fun _ => ?_)
  refine lv_iload_n hx hb dX2_measureBack_26 rfl (lv_at hl 1 rfl) ?_
  refine lv_if_eq (tgt := 133) hx hb dX2_measureBack_27 (by decide) (fun c9 => absurd c9 (by decide)) (fun _ => ?_)
  refine lv_iconst (v := 0) hx hb dX2_measureBack_30 (by decide) ?_
  refine lv_istore_n (lv' := [(2, .int 0), (3, .int 0), (0, .ref d0), (1, .int (nI si))]) hx hb dX2_measureBack_31 rfl hl (by decide) rfl (fun ls hl => ?_)
  refine lv_iconst (v := 0) hx hb dX2_measureBack_32 (by decide) ?_
  refine lv_istore (lv' := [(4, .int 0), (2, .int 0), (3, .int 0), (0, .ref d0), (1, .int (nI si))]) hx hb dX2_measureBack_33 hl (by decide) rfl (fun ls hl => ?_)
  refine lv_iload hx hb dX2_measureBack_35 (lv_at hl 0 rfl) ?_
  refine lv_aload_n hx hb dX2_measureBack_37 rfl (lv_at hl 3 rfl) ?_
  refine va_get (D := (dC, dI)) (ci := 2) (v := .int 0) (C := RX2) (T := TX2) (N := 14) hx hb hts iwsPX2_measureBack_in2 hown hK hP 0 rfl rfl 0 (by decide) (hts (.fieldLink RX2 45 "OptimaWorks$NetDesk" "arcs" "I") (by decide +kernel)) (fun _ h9 => h9) rfl dX2_measureBack_38 ?_
  refine lv_icmp_ge (tgt := 127) hx hb dX2_measureBack_41 (by decide) (fun _ => ?_) (fun c9 => absurd (by decide) c9)
  refine lv_iinc (v := 1) (lv' := [(3, .int 1), (4, .int 0), (2, .int 0), (0, .ref d0), (1, .int (nI si))]) hx hb dX2_measureBack_127 hl (k := 2) rfl (by decide) (by decide) rfl (fun ls hl => ?_)
  refine lv_goto (tgt := 20) hx hb dX2_measureBack_130 (by decide) ?_
  refine lv_iload_n hx hb dX2_measureBack_20 rfl (lv_at hl 0 rfl) ?_
  refine lv_bipush (v := 12) hx hb dX2_measureBack_21 (by decide) ?_
  refine lv_icmp_ge (tgt := 133) hx hb dX2_measureBack_23 (by decide) (fun c9 => absurd c9 (by decide)) (fun _ => ?_)
  refine lv_iload_n hx hb dX2_measureBack_26 rfl (lv_at hl 2 rfl) ?_
  refine lv_if_eq (tgt := 133) hx hb dX2_measureBack_27 (by decide) (fun _ => ?_) (fun c9 => absurd (by decide) c9)
  refine W.widen (k := 0) (n := 0) (by decide +kernel) (by decide +kernel) ?_
  exact W.vret hx hb hr (fun t ht hW => ⟨⟨(upd g6 ((nI si)).toNatClampNeg 0), rfl, fun j h1 h2 => by rw [upd_at (by omega), if_neg h2]; exact f6_0 j h1, by rw [ht]; exact hP.sub [0, 1] rfl, va_K.moved hW.alike (hK.sub [] rfl), hD.sub [0, 1] (by decide) rfl⟩, hS.F ht⟩) hS.2.2 dX2_measureBack_133
theorem dX2_leastCost_0 : decode cX2_leastCost 0 = .ok (.iload_n 3, 1) := by decide +kernel
theorem dX2_leastCost_1 : decode cX2_leastCost 1 = .ok (.ifCond .ge 5, 3) := by decide +kernel
theorem dX2_leastCost_4 : decode cX2_leastCost 4 = .ok (.iconst (-1), 1) := by decide +kernel
theorem dX2_leastCost_5 : decode cX2_leastCost 5 = .ok (.ireturn, 1) := by decide +kernel
theorem dX2_leastCost_6 : decode cX2_leastCost 6 = .ok (.aload_n 0, 1) := by decide +kernel
theorem dX2_leastCost_7 : decode cX2_leastCost 7 = .ok (.getfield 30, 3) := by decide +kernel
theorem dX2_leastCost_10 : decode cX2_leastCost 10 = .ok (.iconst 0, 1) := by decide +kernel
theorem dX2_leastCost_11 : decode cX2_leastCost 11 = .ok (.invokestatic 49, 3) := by decide +kernel
theorem dX2_leastCost_14 : decode cX2_leastCost 14 = .ok (.iload_n 3, 1) := by decide +kernel
theorem dX2_leastCost_15 : decode cX2_leastCost 15 = .ok (.istore 4, 2) := by decide +kernel
theorem dX2_leastCost_17 : decode cX2_leastCost 17 = .ok (.iconst 0, 1) := by decide +kernel
theorem dX2_leastCost_18 : decode cX2_leastCost 18 = .ok (.istore 5, 2) := by decide +kernel
theorem dX2_leastCost_20 : decode cX2_leastCost 20 = .ok (.iconst 0, 1) := by decide +kernel
theorem dX2_leastCost_21 : decode cX2_leastCost 21 = .ok (.istore 6, 2) := by decide +kernel
theorem dX2_leastCost_23 : decode cX2_leastCost 23 = .ok (.iload 6, 2) := by decide +kernel
theorem dX2_leastCost_25 : decode cX2_leastCost 25 = .ok (.ldc 55, 2) := by decide +kernel
theorem dX2_leastCost_27 : decode cX2_leastCost 27 = .ok (.if_icmp .ge 63, 3) := by decide +kernel
theorem dX2_leastCost_30 : decode cX2_leastCost 30 = .ok (.iload 4, 2) := by decide +kernel
theorem dX2_leastCost_32 : decode cX2_leastCost 32 = .ok (.ifCond .le 58, 3) := by decide +kernel
theorem dX2_leastCost_35 : decode cX2_leastCost 35 = .ok (.aload_n 0, 1) := by decide +kernel
theorem dX2_leastCost_36 : decode cX2_leastCost 36 = .ok (.iload_n 1, 1) := by decide +kernel
theorem dX2_leastCost_37 : decode cX2_leastCost 37 = .ok (.invokevirtual 70, 3) := by decide +kernel
theorem dX2_leastCost_40 : decode cX2_leastCost 40 = .ok (.aload_n 0, 1) := by decide +kernel
theorem dX2_leastCost_41 : decode cX2_leastCost 41 = .ok (.getfield 33, 3) := by decide +kernel
theorem dX2_leastCost_44 : decode cX2_leastCost 44 = .ok (.iload_n 2, 1) := by decide +kernel
theorem dX2_leastCost_45 : decode cX2_leastCost 45 = .ok (.iaload, 1) := by decide +kernel
theorem dX2_leastCost_46 : decode cX2_leastCost 46 = .ok (.ldc 60, 2) := by decide +kernel
theorem dX2_leastCost_48 : decode cX2_leastCost 48 = .ok (.if_icmp .lt 5, 3) := by decide +kernel
theorem dX2_leastCost_51 : decode cX2_leastCost 51 = .ok (.iconst (-1), 1) := by decide +kernel
theorem dX2_leastCost_52 : decode cX2_leastCost 52 = .ok (.ireturn, 1) := by decide +kernel
theorem dX2_leastCost_90 : decode cX2_leastCost 90 = .ok (.iload 5, 2) := by decide +kernel
theorem dX2_leastCost_92 : decode cX2_leastCost 92 = .ok (.ireturn, 1) := by decide +kernel
def wsPX2_leastCost : List Cond := .code yX2_leastCost cX2_leastCost 8 (some .int) :: ([.fieldLink RX2 30 "OptimaWorks$NetDesk" "flow" "[I", .constant RX2 55 1000000, .fieldLink RX2 33 "OptimaWorks$NetDesk" "length" "[I", .constant RX2 60 536870912] ++ wsX20 ++ (va_wsS RX2 49 yJ7_fill_53178 wsPJ7_fill_53178) ++ (wsV RX2 70 RX2 yX2_measure wsPX2_measure))
theorem iwsPX2_leastCost_in2 : ∀ w ∈ wsX20, w ∈ wsPX2_leastCost := fun _ h => List.mem_cons_of_mem _ (List.mem_append_left _ (List.mem_append_left _ (List.mem_append_right _ h)))
theorem gwsPX2_leastCost_0 : GoodIn wsPX2_leastCost (va_wsS RX2 49 yJ7_fill_53178 wsPJ7_fill_53178) := goodIn_sub (fun _ h => List.mem_cons_of_mem _ (List.mem_append_left _ (List.mem_append_right _ h))) (by decide +kernel)
theorem gwsPX2_leastCost_1 : GoodIn wsPX2_leastCost (wsV RX2 70 RX2 yX2_measure wsPX2_measure) := goodIn_sub (fun _ h => List.mem_cons_of_mem _ (List.mem_append_right _ h)) (by decide +kernel)
set_option maxHeartbeats 4000000 in
set_option maxRecDepth 100000 in
/-- leastCost(s, t, amount) without arcs -/
theorem p_X2_leastCost (l : Launch) (dC : Nat → ClassId) (dI : Nat → Nat → Nat) (d0 : Nat) (bb : Nat → Nat) (kd : Nat → ClassId) (si : Nat) (tj : Nat) (hsi : si < 12) (htj : tj < 12) (hne : ¬ si = tj) (am : Int32) (sz : Nat) : Met l yX2_leastCost wsPX2_leastCost ({ frames := 2, cells := 0, slots := 0, locals := 47 }) (va_Pc [.ref d0, .int (nI si), .int (nI tj), .int am] (fun U => U.heap.size = sz ∧ va_P (dC, dI) vwCl [(d0, .inr (2, [.int 0, .ref (bb 0), .ref (bb 1), .ref (bb 2), .ref (bb 3), .int 0, .ref (bb 4), .ref (bb 5), .ref (bb 6), .ref (bb 7), .ref (bb 8), .int 0, .ref (bb 9), .ref (bb 10)])), ((bb 6), .inl ((kd 6), 40, .inl (fun _ => 0))), ((bb 7), .inl ((kd 7), 12, .inl (fun _ => 0)))] U.heap ∧ va_K (dC, dI) vwCl [((kd 6), .int), ((kd 7), .int)] U ∧ va_D (fun _ => True) [(d0, .inr (2, [.int 0, .ref (bb 0), .ref (bb 1), .ref (bb 2), .ref (bb 3), .int 0, .ref (bb 4), .ref (bb 5), .ref (bb 6), .ref (bb 7), .ref (bb 8), .int 0, .ref (bb 9), .ref (bb 10)])), ((bb 6), .inl ((kd 6), 40, .inl (fun _ => 0))), ((bb 7), .inl ((kd 7), 12, .inl (fun _ => 0)))])) (va_Qi (fun (r : Int32) (u : Unit) => (r = 0 ∧ ((am).toInt = 0)) ∨ (r = (-1) ∧ (¬ (am).toInt = 0))) (fun (u : Unit) t => va_P (dC, dI) vwCl [] t.heap ∧ va_K (dC, dI) vwCl [] t ∧ va_D (va_A [(d0, .inr (2, [.int 0, .ref (bb 0), .ref (bb 1), .ref (bb 2), .ref (bb 3), .int 0, .ref (bb 4), .ref (bb 5), .ref (bb 6), .ref (bb 7), .ref (bb 8), .int 0, .ref (bb 9), .ref (bb 10)])), ((bb 6), .inl ((kd 6), 40, .inl (fun _ => 0))), ((bb 7), .inl ((kd 7), 12, .inl (fun _ => 0)))] sz) []) (va_A [(d0, .inr (2, [.int 0, .ref (bb 0), .ref (bb 1), .ref (bb 2), .ref (bb 3), .int 0, .ref (bb 4), .ref (bb 5), .ref (bb 6), .ref (bb 7), .ref (bb 8), .int 0, .ref (bb 9), .ref (bb 10)])), ((bb 6), .inl ((kd 6), 40, .inl (fun _ => 0))), ((bb 7), .inl ((kd 7), 12, .inl (fun _ => 0)))] sz)) 0 0 (va_A [(d0, .inr (2, [.int 0, .ref (bb 0), .ref (bb 1), .ref (bb 2), .ref (bb 3), .int 0, .ref (bb 4), .ref (bb 5), .ref (bb 6), .ref (bb 7), .ref (bb 8), .int 0, .ref (bb 9), .ref (bb 10)])), ((bb 6), .inl ((kd 6), 40, .inl (fun _ => 0))), ((bb 7), .inl ((kd 7), 12, .inl (fun _ => 0)))] sz) := by
  refine Met.ofW (cc := cX2_leastCost) (maxL := 8) (ret := (some .int)) (by decide) rfl ?_
  intro p e s m args below meth c s₁ B hml hv
  obtain ⟨rfl, hsz, hP, hK, hD0⟩ := hv
  have hx := B.exec
  have hb := B.bytes
  have hr := B.returns
  have hts := atoms_spec (ws := wsPX2_leastCost) B.pre
  have hown : s.vm.findClass RX2 = some m.cls := findClass_of_methodNamed B.named
  have hlocks := B.notSynchronized
  subst hsz
  have hD := hD0.self (sz := s.heap.size)
  generalize hAe : va_A [(d0, .inr (2, [.int 0, .ref (bb 0), .ref (bb 1), .ref (bb 2), .ref (bb 3), .int 0, .ref (bb 4), .ref (bb 5), .ref (bb 6), .ref (bb 7), .ref (bb 8), .int 0, .ref (bb 9), .ref (bb 10)])), ((bb 6), .inl ((kd 6), 40, .inl (fun _ => 0))), ((bb 7), .inl ((kd 7), 12, .inl (fun _ => 0)))] s.heap.size = A at hD ⊢
  have hA : ∀ q : Nat, s.heap.size ≤ q → A q := fun q h => by rw [← hAe]; exact Or.inr h
  have hS : va_S A s.heap s.heap [] := va_S.rf
  have hP : va_P (dC, dI) vwCl [(d0, .inr (2, [.int 0, .ref (bb 0), .ref (bb 1), .ref (bb 2), .ref (bb 3), .int 0, .ref (bb 4), .ref (bb 5), .ref (bb 6), .ref (bb 7), .ref (bb 8), .int 0, .ref (bb 9), .ref (bb 10)])), ((bb 6), .inl ((kd 6), 40, .inl (fun _ => 0))), ((bb 7), .inl ((kd 7), 12, .inl (fun _ => 0)))] s.heap := hP
  have hl := lv_entry ([.ref d0, .int (nI si), .int (nI tj), .int am]) (n := 8) (Nat.le_of_ble_eq_true rfl)
  rw [lg_entry_eq]
  generalize (lg_sl ([.ref d0, .int (nI si), .int (nI tj), .int am]) ++ List.replicate (8 - (lg_sl ([.ref d0, .int (nI si), .int (nI tj), .int am])).length) Slot.unset).toArray = ls at hl ⊢
  have hl : lv_has ls 8 [(0, .ref d0), (1, .int (nI si)), (2, .int (nI tj)), (3, .int am)] := hl
  refine lv_iload_n hx hb dX2_leastCost_0 rfl (lv_at hl 3 rfl) ?_
  refine lv_if_ge (tgt := 6) hx hb dX2_leastCost_1 (by decide) (fun c_1 => ?_) (fun c_1 => ?_)
  · have t_1 : (am).toInt ≥ 0 := toI_ge c_1 rfl (by decide)
    refine lv_aload_n hx hb dX2_leastCost_6 rfl (lv_at hl 0 rfl) ?_
    refine va_get (D := (dC, dI)) (ci := 2) (v := .ref (bb 6)) (C := RX2) (T := TX2) (N := 14) hx hb hts iwsPX2_leastCost_in2 hown hK hP 0 rfl rfl 8 (by decide) (hts (.fieldLink RX2 30 "OptimaWorks$NetDesk" "flow" "[I") (by decide +kernel)) (fun _ h9 => h9) rfl dX2_leastCost_7 ?_
    refine lv_iconst (v := 0) hx hb dX2_leastCost_10 (by decide) ?_
    have hPc := hP.sub (ws' := [((bb 6), .inl ((kd 6), 40, .inl (fun _ => 0)))]) [1] rfl
    have hDc := hD.sub (ws' := [((bb 6), .inl ((kd 6), 40, .inl (fun _ => 0)))]) [1] (by decide) rfl
    have hKc := hK.sub (tys' := [((kd 6), .int)]) [0] rfl
    have hFc := va_free (wc := [((bb 6), .inl ((kd 6), 40, .inl (fun _ => 0)))]) hD hS hA [1] rfl
    refine va_callv (va_runS (As := [.ref (bb 6), .int 0]) (rest := []) ⟨hx, hb, hml, hown, hts⟩ (p_J7_fill_53178 l dC dI (bb 6) (kd 6) 40 (by first | omega | decide | assumption | rfl) (fun _ => 0) 0 s.heap.size) (va_cwS 2 hts gwsPX2_leastCost_0 rfl rfl rfl (by decide +kernel) ⟨by decide +kernel, by decide +kernel⟩) ⟨fun a U g mk q => by obtain ⟨q0, q1, qP, qK, qD⟩ := q; exact ⟨q0, q1, qP, va_K.moved (u := U) (U := U.calling g mk a) (Vm.Alike.refl U.vm) qK, qD⟩, fun U hU9 hW => ⟨rfl, by rw [hU9], by rw [hU9]; exact hPc, va_K.moved hW.alike hKc, hDc.weaken (fun _ _ _ _ => trivial)⟩⟩ rfl rfl hl.1 rfl (lv_room (Nat.le_of_ble_eq_true rfl)) dX2_leastCost_11 ⟨by decide +kernel, by decide +kernel⟩) hS (fun q _ h => hFc q h) hFc (fun u t H1 locs ht hvm hw hB hz1 hk1 hS => ?_)
    obtain ⟨g11, hwit11⟩ : ∃ w9, w9 = u := ⟨u, rfl⟩
    subst hwit11
    obtain ⟨hP1, hK1, hD1⟩ := hB
    rw [ht] at hP1
    have hK1 := va_K.moved hvm.symm hK1
    obtain ⟨hP, hD⟩ := va_join (wr := [(d0, .inr (2, [.int 0, .ref (bb 0), .ref (bb 1), .ref (bb 2), .ref (bb 3), .int 0, .ref (bb 4), .ref (bb 5), .ref (bb 6), .ref (bb 7), .ref (bb 8), .int 0, .ref (bb 9), .ref (bb 10)])), ((bb 7), .inl ((kd 7), 12, .inl (fun _ => 0)))]) (w1 := [((bb 6), .inl ((kd 6), 40, .inl g11))]) hP hD [1] [0, 2] rfl rfl (by decide) (by decide) hk1 hFc hP1 hD1
    generalize H1 = H at hP hS ⊢
    have hP : va_P (dC, dI) vwCl [(d0, .inr (2, [.int 0, .ref (bb 0), .ref (bb 1), .ref (bb 2), .ref (bb 3), .int 0, .ref (bb 4), .ref (bb 5), .ref (bb 6), .ref (bb 7), .ref (bb 8), .int 0, .ref (bb 9), .ref (bb 10)])), ((bb 7), .inl ((kd 7), 12, .inl (fun _ => 0))), ((bb 6), .inl ((kd 6), 40, .inl g11))] H := hP
    have hD : va_D A [(d0, .inr (2, [.int 0, .ref (bb 0), .ref (bb 1), .ref (bb 2), .ref (bb 3), .int 0, .ref (bb 4), .ref (bb 5), .ref (bb 6), .ref (bb 7), .ref (bb 8), .int 0, .ref (bb 9), .ref (bb 10)])), ((bb 7), .inl ((kd 7), 12, .inl (fun _ => 0))), ((bb 6), .inl ((kd 6), 40, .inl g11))] := hD
    have f11_0 := hw
    try dsimp only at f11_0
    refine lv_iload_n hx hb dX2_leastCost_14 rfl (lv_at hl 3 rfl) ?_
    refine lv_istore (lv' := [(4, .int am), (0, .ref d0), (1, .int (nI si)), (2, .int (nI tj)), (3, .int am)]) hx hb dX2_leastCost_15 hl (by decide) rfl (fun ls hl => ?_)
    refine lv_iconst (v := 0) hx hb dX2_leastCost_17 (by decide) ?_
    refine lv_istore (lv' := [(5, .int 0), (4, .int am), (0, .ref d0), (1, .int (nI si)), (2, .int (nI tj)), (3, .int am)]) hx hb dX2_leastCost_18 hl (by decide) rfl (fun ls hl => ?_)
    refine lv_iconst (v := 0) hx hb dX2_leastCost_20 (by decide) ?_
    refine lv_istore (lv' := [(6, .int 0), (5, .int 0), (4, .int am), (0, .ref d0), (1, .int (nI si)), (2, .int (nI tj)), (3, .int am)]) hx hb dX2_leastCost_21 hl (by decide) rfl (fun ls hl => ?_)
    refine lv_iload hx hb dX2_leastCost_23 (lv_at hl 0 rfl) ?_
    refine lv_ldc (v := 1000000) hx hb hown (hts (.constant RX2 55 1000000) (by decide +kernel)) dX2_leastCost_25 ?_
    refine lv_icmp_ge (tgt := 90) hx hb dX2_leastCost_27 (by decide) (fun c9 => absurd c9 (by decide)) (fun _ => ?_)
    refine lv_iload hx hb dX2_leastCost_30 (lv_at hl 2 rfl) ?_
    refine lv_if_le (tgt := 90) hx hb dX2_leastCost_32 (by decide) (fun c_32 => ?_) (fun c_32 => ?_)
    · have t_32 : (am).toInt ≤ 0 := toI_le c_32 rfl (by decide)
      refine lv_iload hx hb dX2_leastCost_90 (lv_at hl 1 rfl) ?_
      refine W.widen (k := 0) (n := 0) (by decide +kernel) (by decide +kernel) ?_
      exact W.iret (v := 0) hx hb hr (fun t ht hW => ⟨⟨0, (), rfl, by first | (left; (refine ⟨?_, ?_⟩ <;> (first | rfl | assumption | trivial | omega | (simp [c_1, c_32]; done) | (simp; omega)))) | (right; (refine ⟨?_, ?_⟩ <;> (first | rfl | assumption | trivial | omega | (simp [c_1, c_32]; done) | (simp; omega)))), by rw [ht]; exact hP.sub [] rfl, va_K.moved hW.alike (hK.sub [] rfl), hD.sub [] (by decide) rfl⟩, hS.F ht⟩) hS.2.2 dX2_leastCost_92
    · have t_32 : ¬ (am).toInt ≤ 0 := toI_nle c_32 rfl (by decide)
      refine lv_aload_n hx hb dX2_leastCost_35 rfl (lv_at hl 3 rfl) ?_
      refine lv_iload_n hx hb dX2_leastCost_36 rfl (lv_at hl 4 rfl) ?_
      have hPc := hP.sub (ws' := [(d0, .inr (2, [.int 0, .ref (bb 0), .ref (bb 1), .ref (bb 2), .ref (bb 3), .int 0, .ref (bb 4), .ref (bb 5), .ref (bb 6), .ref (bb 7), .ref (bb 8), .int 0, .ref (bb 9), .ref (bb 10)])), ((bb 7), .inl ((kd 7), 12, .inl (fun _ => 0)))]) [0, 1] rfl
      have hDc := hD.sub (ws' := [(d0, .inr (2, [.int 0, .ref (bb 0), .ref (bb 1), .ref (bb 2), .ref (bb 3), .int 0, .ref (bb 4), .ref (bb 5), .ref (bb 6), .ref (bb 7), .ref (bb 8), .int 0, .ref (bb 9), .ref (bb 10)])), ((bb 7), .inl ((kd 7), 12, .inl (fun _ => 0)))]) [0, 1] (by decide) rfl
      have hKc := hK.sub (tys' := [((kd 7), .int)]) [1] rfl
      have hFc := va_free (wc := [(d0, .inr (2, [.int 0, .ref (bb 0), .ref (bb 1), .ref (bb 2), .ref (bb 3), .int 0, .ref (bb 4), .ref (bb 5), .ref (bb 6), .ref (bb 7), .ref (bb 8), .int 0, .ref (bb 9), .ref (bb 10)])), ((bb 7), .inl ((kd 7), 12, .inl (fun _ => 0)))]) hD hS hA [0, 1] rfl
      refine va_callv (va_runV (As := [.int (nI si)]) (rest := []) ⟨hx, hb, hml, hown, hts⟩ (p_X2_measure l dC dI d0 bb kd (fun _ => 0) si (by first | omega | decide | assumption | rfl) H.size) (cwV 1 hts gwsPX2_leastCost_1 rfl rfl rfl (by decide +kernel) ⟨by decide +kernel, by decide +kernel⟩) ⟨fun a U g mk q => by obtain ⟨q0, q1, qP, qK, qD⟩ := q; exact ⟨q0, q1, qP, va_K.moved (u := U) (U := U.calling g mk a) (Vm.Alike.refl U.vm) qK, qD⟩, va_recv hKc hPc (ci := 2) (q0 := 0) rfl rfl, fun U hU9 hW => ⟨rfl, by rw [hU9], by rw [hU9]; exact hPc, va_K.moved hW.alike hKc, hDc.weaken (fun _ _ _ _ => trivial)⟩⟩ rfl rfl hl.1 rfl (lv_room (Nat.le_of_ble_eq_true rfl)) dX2_leastCost_37 ⟨by decide +kernel, by decide +kernel⟩) hS (fun q _ h => hFc q h) hFc (fun u t H1 locs ht hvm hw hB hz1 hk1 hS => ?_)
      obtain ⟨g37, hwit37⟩ : ∃ w9, w9 = u := ⟨u, rfl⟩
      subst hwit37
      obtain ⟨hP1, hK1, hD1⟩ := hB
      rw [ht] at hP1
      have hK1 := va_K.moved hvm.symm hK1
      obtain ⟨hP, hD⟩ := va_join (wr := [((bb 6), .inl ((kd 6), 40, .inl g11))]) (w1 := [(d0, .inr (2, [.int 0, .ref (bb 0), .ref (bb 1), .ref (bb 2), .ref (bb 3), .int 0, .ref (bb 4), .ref (bb 5), .ref (bb 6), .ref (bb 7), .ref (bb 8), .int 0, .ref (bb 9), .ref (bb 10)])), ((bb 7), .inl ((kd 7), 12, .inl g37))]) hP hD [0, 1] [2] rfl rfl (by decide) (by decide) hk1 hFc hP1 hD1
      generalize H1 = H at hP hS ⊢
      have hP : va_P (dC, dI) vwCl [((bb 6), .inl ((kd 6), 40, .inl g11)), (d0, .inr (2, [.int 0, .ref (bb 0), .ref (bb 1), .ref (bb 2), .ref (bb 3), .int 0, .ref (bb 4), .ref (bb 5), .ref (bb 6), .ref (bb 7), .ref (bb 8), .int 0, .ref (bb 9), .ref (bb 10)])), ((bb 7), .inl ((kd 7), 12, .inl g37))] H := hP
      have hD : va_D A [((bb 6), .inl ((kd 6), 40, .inl g11)), (d0, .inr (2, [.int 0, .ref (bb 0), .ref (bb 1), .ref (bb 2), .ref (bb 3), .int 0, .ref (bb 4), .ref (bb 5), .ref (bb 6), .ref (bb 7), .ref (bb 8), .int 0, .ref (bb 9), .ref (bb 10)])), ((bb 7), .inl ((kd 7), 12, .inl g37))] := hD
      have f37_0 := hw
      try dsimp only at f37_0
      refine lv_aload_n hx hb dX2_leastCost_40 rfl (lv_at hl 3 rfl) ?_
      refine va_get (D := (dC, dI)) (ci := 2) (v := .ref (bb 7)) (C := RX2) (T := TX2) (N := 14) hx hb hts iwsPX2_leastCost_in2 hown hK hP 1 rfl rfl 9 (by decide) (hts (.fieldLink RX2 33 "OptimaWorks$NetDesk" "length" "[I") (by decide +kernel)) (fun _ h9 => h9) rfl dX2_leastCost_41 ?_
      refine lv_iload_n hx hb dX2_leastCost_44 rfl (lv_at hl 5 rfl) ?_
      refine va_iald hx hb hK hP 2 1 rfl rfl (vp_in_nI (show tj < 12 by omega) (by omega)) dX2_leastCost_45 ?_
      refine lv_topi (fun y1 hy1 => ?_)
      obtain rfl : 536870912 = y1 := (hy1.trans (by rw [nI_clamp (by omega)]; exact f37_0 tj (by omega) (by omega))).symm
      refine lv_ldc (v := 536870912) hx hb hown (hts (.constant RX2 60 536870912) (by decide +kernel)) dX2_leastCost_46 ?_
      refine lv_icmp_lt (tgt := 53) hx hb dX2_leastCost_48 (by decide) (fun c9 => absurd c9 (by decide)) (fun _ => ?_)
      refine lv_iconst (v := (-1)) hx hb dX2_leastCost_51 (by decide) ?_
      refine W.widen (k := 0) (n := 0) (by decide +kernel) (by decide +kernel) ?_
      exact W.iret (v := (-1)) hx hb hr (fun t ht hW => ⟨⟨(-1), (), rfl, by first | (left; (refine ⟨?_, ?_⟩ <;> (first | rfl | assumption | trivial | omega | (simp [c_1, c_32]; done) | (simp; omega)))) | (right; (refine ⟨?_, ?_⟩ <;> (first | rfl | assumption | trivial | omega | (simp [c_1, c_32]; done) | (simp; omega)))), by rw [ht]; exact hP.sub [] rfl, va_K.moved hW.alike (hK.sub [] rfl), hD.sub [] (by decide) rfl⟩, hS.F ht⟩) hS.2.2 dX2_leastCost_52
  · have t_1 : ¬ (am).toInt ≥ 0 := toI_nge c_1 rfl (by decide)
    refine lv_iconst (v := (-1)) hx hb dX2_leastCost_4 (by decide) ?_
    refine W.widen (k := 0) (n := 0) (by decide +kernel) (by decide +kernel) ?_
    exact W.iret (v := (-1)) hx hb hr (fun t ht hW => ⟨⟨(-1), (), rfl, by first | (left; (refine ⟨?_, ?_⟩ <;> (first | rfl | assumption | trivial | omega | (simp [c_1]; done) | (simp; omega)))) | (right; (refine ⟨?_, ?_⟩ <;> (first | rfl | assumption | trivial | omega | (simp [c_1]; done) | (simp; omega)))), by rw [ht]; exact hP.sub [] rfl, va_K.moved hW.alike (hK.sub [] rfl), hD.sub [] (by decide) rfl⟩, hS.F ht⟩) hS.2.2 dX2_leastCost_5
theorem dX11_cheapest_0 : decode cX11_cheapest 0 = .ok (.iload_n 1, 1) := by decide +kernel
theorem dX11_cheapest_1 : decode cX11_cheapest 1 = .ok (.iload_n 2, 1) := by decide +kernel
theorem dX11_cheapest_2 : decode cX11_cheapest 2 = .ok (.invokestatic 438, 3) := by decide +kernel
theorem dX11_cheapest_5 : decode cX11_cheapest 5 = .ok (.aload_n 0, 1) := by decide +kernel
theorem dX11_cheapest_6 : decode cX11_cheapest 6 = .ok (.invokevirtual 425, 3) := by decide +kernel
theorem dX11_cheapest_9 : decode cX11_cheapest 9 = .ok (.iload_n 1, 1) := by decide +kernel
theorem dX11_cheapest_10 : decode cX11_cheapest 10 = .ok (.iload_n 2, 1) := by decide +kernel
theorem dX11_cheapest_11 : decode cX11_cheapest 11 = .ok (.iload_n 3, 1) := by decide +kernel
theorem dX11_cheapest_12 : decode cX11_cheapest 12 = .ok (.invokevirtual 446, 3) := by decide +kernel
theorem dX11_cheapest_15 : decode cX11_cheapest 15 = .ok (.ireturn, 1) := by decide +kernel
def wsPX11_cheapest : List Cond := .code yX11_cheapest cX11_cheapest 4 (some .int) :: ([] ++ (va_wsS RX11 438 yX11_needNodes wsPX11_needNodes) ++ (wsV RX11 425 RX11 yX11_theNets wsPX11_theNets) ++ (wsV RX11 446 RX2 yX2_leastCost wsPX2_leastCost))
theorem gwsPX11_cheapest_0 : GoodIn wsPX11_cheapest (va_wsS RX11 438 yX11_needNodes wsPX11_needNodes) := goodIn_sub (fun _ h => List.mem_cons_of_mem _ (List.mem_append_left _ (List.mem_append_left _ (List.mem_append_right _ h)))) (by decide +kernel)
theorem gwsPX11_cheapest_1 : GoodIn wsPX11_cheapest (wsV RX11 425 RX11 yX11_theNets wsPX11_theNets) := goodIn_sub (fun _ h => List.mem_cons_of_mem _ (List.mem_append_left _ (List.mem_append_right _ h))) (by decide +kernel)
theorem gwsPX11_cheapest_2 : GoodIn wsPX11_cheapest (wsV RX11 446 RX2 yX2_leastCost wsPX2_leastCost) := goodIn_sub (fun _ h => List.mem_cons_of_mem _ (List.mem_append_right _ h)) (by decide +kernel)
set_option maxHeartbeats 4000000 in
set_option maxRecDepth 100000 in
/-- cheapest(s, t, amount) -/
theorem p_X11_cheapest (l : Launch) (hst : l.stackTraces = false) (dC : Nat → ClassId) (dI : Nat → Nat → Nat) (h0 : Nat) (a : Nat → Nat) (ns : Int32) (nt : Int32) (am : Int32) (sz : Nat) : vx_Met l yX11_cheapest wsPX11_cheapest ({ frames := 7, cells := 13, slots := 1484, locals := 102 }) (va_Pc [.ref h0, .int ns, .int nt, .int am] (fun U => U.heap.size = sz ∧ va_P (dC, dI) vwCl [(h0, .inr (11, [.ref (a 0), .ref (a 1), .ref (a 3), .ref (a 14), .int 0, .null, .null, .null, .null, .null, .null]))] U.heap ∧ va_K (dC, dI) vwCl [] U ∧ va_D (fun _ => True) [(h0, .inr (11, [.ref (a 0), .ref (a 1), .ref (a 3), .ref (a 14), .int 0, .null, .null, .null, .null, .null, .null]))] ∧ vx_Zq Bundle.tN "UNASSIGNED_STACK" Bundle.steD (va_A [(h0, .inr (11, [.ref (a 0), .ref (a 1), .ref (a 3), .ref (a 14), .int 0, .null, .null, .null, .null, .null, .null]))] sz) U U.heap ∧ vx_Zq Bundle.tN "SUPPRESSED_SENTINEL" Bundle.listD (va_A [(h0, .inr (11, [.ref (a 0), .ref (a 1), .ref (a 3), .ref (a 14), .int 0, .null, .null, .null, .null, .null, .null]))] sz) U U.heap ∧ (∀ w ∈ ngX11_79, va_Nw w U) ∧ (∀ w ∈ ngX11_95, va_Nw w U) ∧ va_Nw (.methodLinkNest RX11 421 yX2_init RX11) U)) (va_Qi (fun (r : Int32) (u : Unit) => (r = 0 ∧ (0 ≤ (ns).toInt ∧ (ns).toInt < 12 ∧ 0 ≤ (nt).toInt ∧ (nt).toInt < 12 ∧ ¬ (ns).toInt = (nt).toInt) ∧ ((am).toInt = 0)) ∨ (r = (-1) ∧ (0 ≤ (ns).toInt ∧ (ns).toInt < 12 ∧ 0 ≤ (nt).toInt ∧ (nt).toInt < 12 ∧ ¬ (ns).toInt = (nt).toInt) ∧ (¬ (am).toInt = 0))) (fun (u : Unit) t => va_P (dC, dI) vwCl [] t.heap ∧ va_K (dC, dI) vwCl [] t ∧ va_D (va_A [(h0, .inr (11, [.ref (a 0), .ref (a 1), .ref (a 3), .ref (a 14), .int 0, .null, .null, .null, .null, .null, .null]))] sz) []) (va_A [(h0, .inr (11, [.ref (a 0), .ref (a 1), .ref (a 3), .ref (a 14), .int 0, .null, .null, .null, .null, .null, .null]))] sz)) (vx_X (fun n : String => (n = "java/lang/IndexOutOfBoundsException" ∧ ((ns).toInt < 0 ∨ 12 ≤ (ns).toInt ∨ (nt).toInt < 0 ∨ 12 ≤ (nt).toInt)) ∨ (n = "java/lang/IllegalArgumentException" ∧ (0 ≤ (ns).toInt ∧ (ns).toInt < 12 ∧ 0 ≤ (nt).toInt ∧ (nt).toInt < 12 ∧ (ns).toInt = (nt).toInt))) (fun E n t => E = n) (va_A [(h0, .inr (11, [.ref (a 0), .ref (a 1), .ref (a 3), .ref (a 14), .int 0, .null, .null, .null, .null, .null, .null]))] sz)) 13 1484 (va_A [(h0, .inr (11, [.ref (a 0), .ref (a 1), .ref (a 3), .ref (a 14), .int 0, .null, .null, .null, .null, .null, .null]))] sz) := by
  refine vx_ofW (cc := cX11_cheapest) (maxL := 4) (ret := (some .int)) (by decide) rfl ?_
  intro p e s m args below meth c s₁ B hml htab hv
  obtain ⟨rfl, hsz, hP, hK, hD0, hU, hN, hngX11_79, hngX11_95, hnX11_421⟩ := hv
  have hx := B.exec
  have hb := B.bytes
  have hr := B.returns
  have hts := atoms_spec (ws := wsPX11_cheapest) B.pre
  have hown : s.vm.findClass RX11 = some m.cls := findClass_of_methodNamed B.named
  have hlocks := B.notSynchronized
  subst hsz
  have hD := hD0.self (sz := s.heap.size)
  generalize hAe : va_A [(h0, .inr (11, [.ref (a 0), .ref (a 1), .ref (a 3), .ref (a 14), .int 0, .null, .null, .null, .null, .null, .null]))] s.heap.size = A at hD hU hN ⊢
  have hA : ∀ q : Nat, s.heap.size ≤ q → A q := fun q h => by rw [← hAe]; exact Or.inr h
  have hS : va_S A s.heap s.heap [] := va_S.rf
  have hP : va_P (dC, dI) vwCl [(h0, .inr (11, [.ref (a 0), .ref (a 1), .ref (a 3), .ref (a 14), .int 0, .null, .null, .null, .null, .null, .null]))] s.heap := hP
  have hl := lv_entry ([.ref h0, .int ns, .int nt, .int am]) (n := 4) (Nat.le_of_ble_eq_true rfl)
  rw [lg_entry_eq]
  generalize (lg_sl ([.ref h0, .int ns, .int nt, .int am]) ++ List.replicate (4 - (lg_sl ([.ref h0, .int ns, .int nt, .int am])).length) Slot.unset).toArray = ls at hl ⊢
  have hl : lv_has ls 4 [(0, .ref h0), (1, .int ns), (2, .int nt), (3, .int am)] := hl
  refine lv_iload_n hx hb dX11_cheapest_0 rfl (lv_at hl 1 rfl) ?_
  refine lv_iload_n hx hb dX11_cheapest_1 rfl (lv_at hl 2 rfl) ?_
  have hPc := hP.sub (ws' := []) [] rfl
  have hDc := hD.sub (ws' := []) [] (by decide) rfl
  have hKc := hK.sub (tys' := []) [] rfl
  have hFc := va_free (wc := []) hD hS hA [] rfl
  refine vx_callv (vx_runS (As := [.int ns, .int nt]) (rest := []) ⟨hx, hb, hml, hown, hts⟩ (p_X11_needNodes l hst dC dI ns nt s.heap.size) (va_cwS 2 hts gwsPX11_cheapest_0 rfl rfl rfl (by decide +kernel) ⟨by decide +kernel, by decide +kernel⟩) ⟨fun a U g mk q => by obtain ⟨q0, q1, qP, qK, qD, qU, qN, qngX11_79, qngX11_95⟩ := q; exact ⟨q0, q1, qP, va_K.moved (u := U) (U := U.calling g mk a) (Vm.Alike.refl U.vm) qK, qD, vx_Zq.moved (u := U) (U := U.calling g mk a) (Vm.Alike.refl U.vm) qU, vx_Zq.moved (u := U) (U := U.calling g mk a) (Vm.Alike.refl U.vm) qN, fun w h => va_Nw.same (u := U) (U := U.calling g mk a) (ngX11_79_ot w h) rfl (qngX11_79 w h), fun w h => va_Nw.same (u := U) (U := U.calling g mk a) (ngX11_95_ot w h) rfl (qngX11_95 w h)⟩, fun U hU9 hW => ⟨rfl, by rw [hU9], by rw [hU9]; exact hPc, va_K.moved hW.alike hKc, hDc.weaken (fun _ _ _ _ => trivial), by rw [hU9]; exact ((hU.kept (fun a h1 h2 => hS.2.1 a h1 h2)).narrow hFc).moved hW.alike, by rw [hU9]; exact ((hN.kept (fun a h1 h2 => hS.2.1 a h1 h2)).narrow hFc).moved hW.alike, fun w h => cd_warm (ngX11_79_cd w h) hW (hngX11_79 w h), fun w h => cd_warm (ngX11_95_cd w h) hW (hngX11_95 w h)⟩⟩ rfl rfl hl.1 rfl (lv_room (Nat.le_of_ble_eq_true rfl)) dX11_cheapest_2 ⟨by decide +kernel, by decide +kernel⟩) hS (fun q _ h => hFc q h) hFc (fun q _ h => hFc q h) (fun E ce q9 u t H1 locs1 ht hvm hw hB hz1 hk1 hS hc1 hc2 hc3 => ?_) (fun u t H1 locs ht hvm hw hB hz1 hk1 hS => ?_)
  · have hE : E = u := hB
    subst hE
    exact vx_out (fun x hx9 => (htab x hx9).elim) hlocks hc1 hc2 hc3 (fun t ht hvm => ⟨_, by first | exact hw | (rcases hw with ⟨h, h1⟩ | ⟨h, h1⟩ <;> subst h <;> first | exact Or.inl ⟨rfl, by omega⟩ | exact Or.inr ⟨rfl, by omega⟩ | exact Or.inl ⟨rfl, h1⟩ | exact Or.inr ⟨rfl, h1⟩) | (obtain ⟨h, h1⟩ := hw; subst h; first | exact ⟨rfl, by omega⟩ | exact Or.inl ⟨rfl, by omega⟩ | exact Or.inr ⟨rfl, by omega⟩), rfl, hS.F ht⟩) hS.2.2 (by decide +kernel) (by decide +kernel)
  obtain ⟨hP1, hK1, hD1⟩ := hB
  rw [ht] at hP1
  have hK1 := va_K.moved hvm.symm hK1
  obtain ⟨hP, hD⟩ := va_join (wr := [(h0, .inr (11, [.ref (a 0), .ref (a 1), .ref (a 3), .ref (a 14), .int 0, .null, .null, .null, .null, .null, .null]))]) (w1 := []) hP hD [] [0] rfl rfl (by decide) (by decide) hk1 hFc hP1 hD1
  generalize H1 = H at hP hS ⊢
  have hP : va_P (dC, dI) vwCl [(h0, .inr (11, [.ref (a 0), .ref (a 1), .ref (a 3), .ref (a 14), .int 0, .null, .null, .null, .null, .null, .null]))] H := hP
  have hD : va_D A [(h0, .inr (11, [.ref (a 0), .ref (a 1), .ref (a 3), .ref (a 14), .int 0, .null, .null, .null, .null, .null, .null]))] := hD
  refine W.widen (k := 1) (n := 6) (by decide +kernel) (by decide +kernel) ?_
  have f2_0 := hw
  try dsimp only at f2_0
  obtain ⟨si, h_si, rfl⟩ := of_toInt (x := ns) (k := 12) (by omega) (by omega)
  have e_si : (nI si).toInt = (si : Int) := nI_toInt (by omega)
  obtain ⟨tj, h_tj, rfl⟩ := of_toInt (x := nt) (k := 12) (by omega) (by omega)
  have e_tj : (nI tj).toInt = (tj : Int) := nI_toInt (by omega)
  refine lv_aload_n hx hb dX11_cheapest_5 rfl (lv_at hl 0 rfl) ?_
  have hPc := hP.sub (ws' := [(h0, .inr (11, [.ref (a 0), .ref (a 1), .ref (a 3), .ref (a 14), .int 0, .null, .null, .null, .null, .null, .null]))]) [0] rfl
  have hDc := hD.sub (ws' := [(h0, .inr (11, [.ref (a 0), .ref (a 1), .ref (a 3), .ref (a 14), .int 0, .null, .null, .null, .null, .null, .null]))]) [0] (by decide) rfl
  have hKc := hK.sub (tys' := []) [] rfl
  have hFc := va_free (wc := [(h0, .inr (11, [.ref (a 0), .ref (a 1), .ref (a 3), .ref (a 14), .int 0, .null, .null, .null, .null, .null, .null]))]) hD hS hA [0] rfl
  refine va_callr (va_runV (As := []) (rest := []) ⟨hx, hb, hml, hown, hts⟩ (p_X11_theNets l dC dI h0 a H.size) (cwV 0 hts gwsPX11_cheapest_1 rfl rfl rfl (by decide +kernel) ⟨by decide +kernel, by decide +kernel⟩) ⟨fun a U g mk q => by obtain ⟨q0, q1, qP, qK, qD, qhnX11_421⟩ := q; exact ⟨q0, q1, qP, va_K.moved (u := U) (U := U.calling g mk a) (Vm.Alike.refl U.vm) qK, qD, va_Nw.same (u := U) (U := U.calling g mk a) rfl rfl qhnX11_421⟩, va_recv hKc hPc (ci := 11) (q0 := 0) rfl rfl, fun U hU9 hW => ⟨rfl, by rw [hU9], by rw [hU9]; exact hPc, va_K.moved hW.alike hKc, hDc.weaken (fun _ _ _ _ => trivial), va_Nw.warmM hW hnX11_421⟩⟩ rfl rfl hl.1 rfl (lv_room (Nat.le_of_ble_eq_true rfl)) dX11_cheapest_6 ⟨by decide +kernel, by decide +kernel⟩) hS (fun q _ h => hFc q h) hFc (fun u a6 t H1 locs ht hvm hw hB hz1 hk1 hS => ?_)
  obtain ⟨aa6, kk6⟩ := u
  obtain ⟨hP1, hK1, hD1⟩ := hB
  rw [ht] at hP1
  have hK1 := va_K.moved hvm.symm hK1
  obtain ⟨hP, hD⟩ := va_join (wr := []) (w1 := [(h0, .inr (11, [.ref (a 0), .ref (a 1), .ref (a 3), .ref (a 14), .int 0, .null, .null, .null, .null, .null, .ref a6])), (a6, .inr (2, [.int 0, .ref (aa6 0), .ref (aa6 1), .ref (aa6 2), .ref (aa6 3), .int 0, .ref (aa6 4), .ref (aa6 5), .ref (aa6 6), .ref (aa6 7), .ref (aa6 8), .int 0, .ref (aa6 9), .ref (aa6 10)])), ((aa6 0), .inl ((kk6 0), 40, .inl (fun _ => 0))), ((aa6 1), .inl ((kk6 1), 40, .inl (fun _ => 0))), ((aa6 2), .inl ((kk6 2), 40, .inl (fun _ => 0))), ((aa6 3), .inl ((kk6 3), 40, .inl (fun _ => 0))), ((aa6 4), .inl ((kk6 4), 144, .inl (fun _ => 0))), ((aa6 5), .inl ((kk6 5), 12, .inl (fun _ => 0))), ((aa6 6), .inl ((kk6 6), 40, .inl (fun _ => 0))), ((aa6 7), .inl ((kk6 7), 12, .inl (fun _ => 0))), ((aa6 8), .inl ((kk6 8), 8, .inl (fun _ => 0))), ((aa6 9), .inl ((kk6 9), 64, .inl (fun _ => 0))), ((aa6 10), .inl ((kk6 10), 1024, .inl (fun _ => 0)))]) hP hD [0] [] rfl rfl (by decide) (by decide) hk1 hFc hP1 hD1
  have hK := hK.app hK1
  generalize H1 = H at hP hS ⊢
  have hP : va_P (dC, dI) vwCl [(h0, .inr (11, [.ref (a 0), .ref (a 1), .ref (a 3), .ref (a 14), .int 0, .null, .null, .null, .null, .null, .ref a6])), (a6, .inr (2, [.int 0, .ref (aa6 0), .ref (aa6 1), .ref (aa6 2), .ref (aa6 3), .int 0, .ref (aa6 4), .ref (aa6 5), .ref (aa6 6), .ref (aa6 7), .ref (aa6 8), .int 0, .ref (aa6 9), .ref (aa6 10)])), ((aa6 0), .inl ((kk6 0), 40, .inl (fun _ => 0))), ((aa6 1), .inl ((kk6 1), 40, .inl (fun _ => 0))), ((aa6 2), .inl ((kk6 2), 40, .inl (fun _ => 0))), ((aa6 3), .inl ((kk6 3), 40, .inl (fun _ => 0))), ((aa6 4), .inl ((kk6 4), 144, .inl (fun _ => 0))), ((aa6 5), .inl ((kk6 5), 12, .inl (fun _ => 0))), ((aa6 6), .inl ((kk6 6), 40, .inl (fun _ => 0))), ((aa6 7), .inl ((kk6 7), 12, .inl (fun _ => 0))), ((aa6 8), .inl ((kk6 8), 8, .inl (fun _ => 0))), ((aa6 9), .inl ((kk6 9), 64, .inl (fun _ => 0))), ((aa6 10), .inl ((kk6 10), 1024, .inl (fun _ => 0)))] H := hP
  have hD : va_D A [(h0, .inr (11, [.ref (a 0), .ref (a 1), .ref (a 3), .ref (a 14), .int 0, .null, .null, .null, .null, .null, .ref a6])), (a6, .inr (2, [.int 0, .ref (aa6 0), .ref (aa6 1), .ref (aa6 2), .ref (aa6 3), .int 0, .ref (aa6 4), .ref (aa6 5), .ref (aa6 6), .ref (aa6 7), .ref (aa6 8), .int 0, .ref (aa6 9), .ref (aa6 10)])), ((aa6 0), .inl ((kk6 0), 40, .inl (fun _ => 0))), ((aa6 1), .inl ((kk6 1), 40, .inl (fun _ => 0))), ((aa6 2), .inl ((kk6 2), 40, .inl (fun _ => 0))), ((aa6 3), .inl ((kk6 3), 40, .inl (fun _ => 0))), ((aa6 4), .inl ((kk6 4), 144, .inl (fun _ => 0))), ((aa6 5), .inl ((kk6 5), 12, .inl (fun _ => 0))), ((aa6 6), .inl ((kk6 6), 40, .inl (fun _ => 0))), ((aa6 7), .inl ((kk6 7), 12, .inl (fun _ => 0))), ((aa6 8), .inl ((kk6 8), 8, .inl (fun _ => 0))), ((aa6 9), .inl ((kk6 9), 64, .inl (fun _ => 0))), ((aa6 10), .inl ((kk6 10), 1024, .inl (fun _ => 0)))] := hD
  have hK : va_K (dC, dI) vwCl [((kk6 0), .int), ((kk6 1), .int), ((kk6 2), .int), ((kk6 3), .int), ((kk6 4), .int), ((kk6 5), .int), ((kk6 6), .int), ((kk6 7), .int), ((kk6 8), .int), ((kk6 9), .int), ((kk6 10), .int)] s := hK
  refine W.widen (k := 13) (n := 1484) (by decide +kernel) (by decide +kernel) ?_
  refine lv_iload_n hx hb dX11_cheapest_9 rfl (lv_at hl 1 rfl) ?_
  refine lv_iload_n hx hb dX11_cheapest_10 rfl (lv_at hl 2 rfl) ?_
  refine lv_iload_n hx hb dX11_cheapest_11 rfl (lv_at hl 3 rfl) ?_
  have hPc := hP.sub (ws' := [(a6, .inr (2, [.int 0, .ref (aa6 0), .ref (aa6 1), .ref (aa6 2), .ref (aa6 3), .int 0, .ref (aa6 4), .ref (aa6 5), .ref (aa6 6), .ref (aa6 7), .ref (aa6 8), .int 0, .ref (aa6 9), .ref (aa6 10)])), ((aa6 6), .inl ((kk6 6), 40, .inl (fun _ => 0))), ((aa6 7), .inl ((kk6 7), 12, .inl (fun _ => 0)))]) [1, 8, 9] rfl
  have hDc := hD.sub (ws' := [(a6, .inr (2, [.int 0, .ref (aa6 0), .ref (aa6 1), .ref (aa6 2), .ref (aa6 3), .int 0, .ref (aa6 4), .ref (aa6 5), .ref (aa6 6), .ref (aa6 7), .ref (aa6 8), .int 0, .ref (aa6 9), .ref (aa6 10)])), ((aa6 6), .inl ((kk6 6), 40, .inl (fun _ => 0))), ((aa6 7), .inl ((kk6 7), 12, .inl (fun _ => 0)))]) [1, 8, 9] (by decide) rfl
  have hKc := hK.sub (tys' := [((kk6 6), .int), ((kk6 7), .int)]) [6, 7] rfl
  have hFc := va_free (wc := [(a6, .inr (2, [.int 0, .ref (aa6 0), .ref (aa6 1), .ref (aa6 2), .ref (aa6 3), .int 0, .ref (aa6 4), .ref (aa6 5), .ref (aa6 6), .ref (aa6 7), .ref (aa6 8), .int 0, .ref (aa6 9), .ref (aa6 10)])), ((aa6 6), .inl ((kk6 6), 40, .inl (fun _ => 0))), ((aa6 7), .inl ((kk6 7), 12, .inl (fun _ => 0)))]) hD hS hA [1, 8, 9] rfl
  refine va_calli (va_runV (As := [.int (nI si), .int (nI tj), .int am]) (rest := []) ⟨hx, hb, hml, hown, hts⟩ (p_X2_leastCost l dC dI a6 aa6 kk6 si tj (by first | omega | decide | assumption | rfl) (by first | omega | decide | assumption | rfl) (by first | omega | decide | assumption | rfl) am H.size) (cwV 3 hts gwsPX11_cheapest_2 rfl rfl rfl (by decide +kernel) ⟨by decide +kernel, by decide +kernel⟩) ⟨fun a U g mk q => by obtain ⟨q0, q1, qP, qK, qD⟩ := q; exact ⟨q0, q1, qP, va_K.moved (u := U) (U := U.calling g mk a) (Vm.Alike.refl U.vm) qK, qD⟩, va_recv hKc hPc (ci := 2) (q0 := 0) rfl rfl, fun U hU9 hW => ⟨rfl, by rw [hU9], by rw [hU9]; exact hPc, va_K.moved hW.alike hKc, hDc.weaken (fun _ _ _ _ => trivial)⟩⟩ rfl rfl hl.1 rfl (lv_room (Nat.le_of_ble_eq_true rfl)) dX11_cheapest_12 ⟨by decide +kernel, by decide +kernel⟩) hS (fun q _ h => hFc q h) hFc (fun r12 u t H1 locs ht hvm hw hB hz1 hk1 hS => ?_)
  obtain ⟨hP1, hK1, hD1⟩ := hB
  rw [ht] at hP1
  have hK1 := va_K.moved hvm.symm hK1
  obtain ⟨hP, hD⟩ := va_join (wr := [(h0, .inr (11, [.ref (a 0), .ref (a 1), .ref (a 3), .ref (a 14), .int 0, .null, .null, .null, .null, .null, .ref a6])), ((aa6 0), .inl ((kk6 0), 40, .inl (fun _ => 0))), ((aa6 1), .inl ((kk6 1), 40, .inl (fun _ => 0))), ((aa6 2), .inl ((kk6 2), 40, .inl (fun _ => 0))), ((aa6 3), .inl ((kk6 3), 40, .inl (fun _ => 0))), ((aa6 4), .inl ((kk6 4), 144, .inl (fun _ => 0))), ((aa6 5), .inl ((kk6 5), 12, .inl (fun _ => 0))), ((aa6 8), .inl ((kk6 8), 8, .inl (fun _ => 0))), ((aa6 9), .inl ((kk6 9), 64, .inl (fun _ => 0))), ((aa6 10), .inl ((kk6 10), 1024, .inl (fun _ => 0)))]) (w1 := []) hP hD [1, 8, 9] [0, 2, 3, 4, 5, 6, 7, 10, 11, 12] rfl rfl (by decide) (by decide) hk1 hFc hP1 hD1
  generalize H1 = H at hP hS ⊢
  have hP : va_P (dC, dI) vwCl [(h0, .inr (11, [.ref (a 0), .ref (a 1), .ref (a 3), .ref (a 14), .int 0, .null, .null, .null, .null, .null, .ref a6])), ((aa6 0), .inl ((kk6 0), 40, .inl (fun _ => 0))), ((aa6 1), .inl ((kk6 1), 40, .inl (fun _ => 0))), ((aa6 2), .inl ((kk6 2), 40, .inl (fun _ => 0))), ((aa6 3), .inl ((kk6 3), 40, .inl (fun _ => 0))), ((aa6 4), .inl ((kk6 4), 144, .inl (fun _ => 0))), ((aa6 5), .inl ((kk6 5), 12, .inl (fun _ => 0))), ((aa6 8), .inl ((kk6 8), 8, .inl (fun _ => 0))), ((aa6 9), .inl ((kk6 9), 64, .inl (fun _ => 0))), ((aa6 10), .inl ((kk6 10), 1024, .inl (fun _ => 0)))] H := hP
  have hD : va_D A [(h0, .inr (11, [.ref (a 0), .ref (a 1), .ref (a 3), .ref (a 14), .int 0, .null, .null, .null, .null, .null, .ref a6])), ((aa6 0), .inl ((kk6 0), 40, .inl (fun _ => 0))), ((aa6 1), .inl ((kk6 1), 40, .inl (fun _ => 0))), ((aa6 2), .inl ((kk6 2), 40, .inl (fun _ => 0))), ((aa6 3), .inl ((kk6 3), 40, .inl (fun _ => 0))), ((aa6 4), .inl ((kk6 4), 144, .inl (fun _ => 0))), ((aa6 5), .inl ((kk6 5), 12, .inl (fun _ => 0))), ((aa6 8), .inl ((kk6 8), 8, .inl (fun _ => 0))), ((aa6 9), .inl ((kk6 9), 64, .inl (fun _ => 0))), ((aa6 10), .inl ((kk6 10), 1024, .inl (fun _ => 0)))] := hD
  rcases hw with ⟨rfl, f12_0⟩ | ⟨rfl, f12_0⟩
  · refine vx_ret ?_
    refine W.widen (k := 13) (n := 1484) (by decide +kernel) (by decide +kernel) ?_
    exact W.iret (v := 0) hx hb hr (fun t ht hW => ⟨⟨0, (), rfl, by first | (left; (refine ⟨?_, ?_, ?_⟩ <;> (first | rfl | assumption | trivial | omega | (simp []; done) | (simp; omega)))) | (right; (refine ⟨?_, ?_, ?_⟩ <;> (first | rfl | assumption | trivial | omega | (simp []; done) | (simp; omega)))), by rw [ht]; exact hP.sub [] rfl, va_K.moved hW.alike (hK.sub [] rfl), hD.sub [] (by decide) rfl⟩, hS.F ht⟩) hS.2.2 dX11_cheapest_15
  · refine vx_ret ?_
    refine W.widen (k := 13) (n := 1484) (by decide +kernel) (by decide +kernel) ?_
    exact W.iret (v := (-1)) hx hb hr (fun t ht hW => ⟨⟨(-1), (), rfl, by first | (left; (refine ⟨?_, ?_, ?_⟩ <;> (first | rfl | assumption | trivial | omega | (simp []; done) | (simp; omega)))) | (right; (refine ⟨?_, ?_, ?_⟩ <;> (first | rfl | assumption | trivial | omega | (simp []; done) | (simp; omega)))), by rw [ht]; exact hP.sub [] rfl, va_K.moved hW.alike (hK.sub [] rfl), hD.sub [] (by decide) rfl⟩, hS.F ht⟩) hS.2.2 dX11_cheapest_15
theorem dX2_shortest_0 : decode cX2_shortest 0 = .ok (.aload_n 0, 1) := by decide +kernel
theorem dX2_shortest_1 : decode cX2_shortest 1 = .ok (.iload_n 2, 1) := by decide +kernel
theorem dX2_shortest_2 : decode cX2_shortest 2 = .ok (.invokevirtual 78, 3) := by decide +kernel
theorem dX2_shortest_5 : decode cX2_shortest 5 = .ok (.aload_n 0, 1) := by decide +kernel
theorem dX2_shortest_6 : decode cX2_shortest 6 = .ok (.getfield 33, 3) := by decide +kernel
theorem dX2_shortest_9 : decode cX2_shortest 9 = .ok (.iload_n 1, 1) := by decide +kernel
theorem dX2_shortest_10 : decode cX2_shortest 10 = .ok (.iaload, 1) := by decide +kernel
theorem dX2_shortest_11 : decode cX2_shortest 11 = .ok (.ldc 60, 2) := by decide +kernel
theorem dX2_shortest_13 : decode cX2_shortest 13 = .ok (.if_icmp .lt 7, 3) := by decide +kernel
theorem dX2_shortest_16 : decode cX2_shortest 16 = .ok (.iconst 1, 1) := by decide +kernel
theorem dX2_shortest_17 : decode cX2_shortest 17 = .ok (.goto 4, 3) := by decide +kernel
theorem dX2_shortest_21 : decode cX2_shortest 21 = .ok (.istore 4, 2) := by decide +kernel
theorem dX2_shortest_23 : decode cX2_shortest 23 = .ok (.iload_n 3, 1) := by decide +kernel
theorem dX2_shortest_24 : decode cX2_shortest 24 = .ok (.bipush (-2), 2) := by decide +kernel
theorem dX2_shortest_26 : decode cX2_shortest 26 = .ok (.if_icmp .ne 22, 3) := by decide +kernel
theorem dX2_shortest_29 : decode cX2_shortest 29 = .ok (.iload 4, 2) := by decide +kernel
theorem dX2_shortest_31 : decode cX2_shortest 31 = .ok (.ifCond .eq 7, 3) := by decide +kernel
theorem dX2_shortest_34 : decode cX2_shortest 34 = .ok (.iconst (-1), 1) := by decide +kernel
theorem dX2_shortest_35 : decode cX2_shortest 35 = .ok (.goto 12, 3) := by decide +kernel
theorem dX2_shortest_47 : decode cX2_shortest 47 = .ok (.ireturn, 1) := by decide +kernel
theorem dX2_shortest_48 : decode cX2_shortest 48 = .ok (.iload 4, 2) := by decide +kernel
theorem dX2_shortest_50 : decode cX2_shortest 50 = .ok (.ifCond .eq 7, 3) := by decide +kernel
theorem dX2_shortest_53 : decode cX2_shortest 53 = .ok (.iconst 0, 1) := by decide +kernel
theorem dX2_shortest_54 : decode cX2_shortest 54 = .ok (.goto 14, 3) := by decide +kernel
theorem dX2_shortest_68 : decode cX2_shortest 68 = .ok (.istore 5, 2) := by decide +kernel
theorem dX2_shortest_70 : decode cX2_shortest 70 = .ok (.iload_n 3, 1) := by decide +kernel
theorem dX2_shortest_71 : decode cX2_shortest 71 = .ok (.bipush (-3), 2) := by decide +kernel
theorem dX2_shortest_73 : decode cX2_shortest 73 = .ok (.if_icmp .ne 6, 3) := by decide +kernel
theorem dX2_shortest_76 : decode cX2_shortest 76 = .ok (.iload 5, 2) := by decide +kernel
theorem dX2_shortest_78 : decode cX2_shortest 78 = .ok (.ireturn, 1) := by decide +kernel
theorem dX2_shortest_79 : decode cX2_shortest 79 = .ok (.iload_n 3, 1) := by decide +kernel
theorem dX2_shortest_80 : decode cX2_shortest 80 = .ok (.ifCond .lt 9, 3) := by decide +kernel
theorem dX2_shortest_83 : decode cX2_shortest 83 = .ok (.iload_n 3, 1) := by decide +kernel
theorem dX2_shortest_84 : decode cX2_shortest 84 = .ok (.iload 5, 2) := by decide +kernel
theorem dX2_shortest_86 : decode cX2_shortest 86 = .ok (.if_icmp .lt 5, 3) := by decide +kernel
theorem dX2_shortest_89 : decode cX2_shortest 89 = .ok (.iconst (-1), 1) := by decide +kernel
theorem dX2_shortest_90 : decode cX2_shortest 90 = .ok (.ireturn, 1) := by decide +kernel
def wsPX2_shortest : List Cond := .code yX2_shortest cX2_shortest 8 (some .int) :: ([.fieldLink RX2 33 "OptimaWorks$NetDesk" "length" "[I", .constant RX2 60 536870912] ++ wsX20 ++ (wsV RX2 78 RX2 yX2_measureBack wsPX2_measureBack))
theorem iwsPX2_shortest_in2 : ∀ w ∈ wsX20, w ∈ wsPX2_shortest := fun _ h => List.mem_cons_of_mem _ (List.mem_append_left _ (List.mem_append_right _ h))
theorem gwsPX2_shortest_0 : GoodIn wsPX2_shortest (wsV RX2 78 RX2 yX2_measureBack wsPX2_measureBack) := goodIn_sub (fun _ h => List.mem_cons_of_mem _ (List.mem_append_right _ h)) (by decide +kernel)
set_option maxHeartbeats 4000000 in
set_option maxRecDepth 100000 in
/-- shortest(s, t, i) without arcs -/
theorem p_X2_shortest (l : Launch) (dC : Nat → ClassId) (dI : Nat → Nat → Nat) (d0 : Nat) (bb : Nat → Nat) (kd : Nat → ClassId) (si : Nat) (tj : Nat) (hsi : si < 12) (htj : tj < 12) (hne : ¬ si = tj) (ii : Int32) (sz : Nat) : Met l yX2_shortest wsPX2_shortest ({ frames := 2, cells := 0, slots := 0, locals := 48 }) (va_Pc [.ref d0, .int (nI si), .int (nI tj), .int ii] (fun U => U.heap.size = sz ∧ va_P (dC, dI) vwCl [(d0, .inr (2, [.int 0, .ref (bb 0), .ref (bb 1), .ref (bb 2), .ref (bb 3), .int 0, .ref (bb 4), .ref (bb 5), .ref (bb 6), .ref (bb 7), .ref (bb 8), .int 0, .ref (bb 9), .ref (bb 10)])), ((bb 7), .inl ((kd 7), 12, .inl (fun _ => 0)))] U.heap ∧ va_K (dC, dI) vwCl [((kd 7), .int)] U ∧ va_D (fun _ => True) [(d0, .inr (2, [.int 0, .ref (bb 0), .ref (bb 1), .ref (bb 2), .ref (bb 3), .int 0, .ref (bb 4), .ref (bb 5), .ref (bb 6), .ref (bb 7), .ref (bb 8), .int 0, .ref (bb 9), .ref (bb 10)])), ((bb 7), .inl ((kd 7), 12, .inl (fun _ => 0)))])) (va_Qi (fun (r : Int32) (u : Unit) => (r = 0 ∧ ((ii).toInt = -3)) ∨ (r = (-1) ∧ (¬ (ii).toInt = -3))) (fun (u : Unit) t => va_P (dC, dI) vwCl [] t.heap ∧ va_K (dC, dI) vwCl [] t ∧ va_D (va_A [(d0, .inr (2, [.int 0, .ref (bb 0), .ref (bb 1), .ref (bb 2), .ref (bb 3), .int 0, .ref (bb 4), .ref (bb 5), .ref (bb 6), .ref (bb 7), .ref (bb 8), .int 0, .ref (bb 9), .ref (bb 10)])), ((bb 7), .inl ((kd 7), 12, .inl (fun _ => 0)))] sz) []) (va_A [(d0, .inr (2, [.int 0, .ref (bb 0), .ref (bb 1), .ref (bb 2), .ref (bb 3), .int 0, .ref (bb 4), .ref (bb 5), .ref (bb 6), .ref (bb 7), .ref (bb 8), .int 0, .ref (bb 9), .ref (bb 10)])), ((bb 7), .inl ((kd 7), 12, .inl (fun _ => 0)))] sz)) 0 0 (va_A [(d0, .inr (2, [.int 0, .ref (bb 0), .ref (bb 1), .ref (bb 2), .ref (bb 3), .int 0, .ref (bb 4), .ref (bb 5), .ref (bb 6), .ref (bb 7), .ref (bb 8), .int 0, .ref (bb 9), .ref (bb 10)])), ((bb 7), .inl ((kd 7), 12, .inl (fun _ => 0)))] sz) := by
  refine Met.ofW (cc := cX2_shortest) (maxL := 8) (ret := (some .int)) (by decide) rfl ?_
  intro p e s m args below meth c s₁ B hml hv
  obtain ⟨rfl, hsz, hP, hK, hD0⟩ := hv
  have hx := B.exec
  have hb := B.bytes
  have hr := B.returns
  have hts := atoms_spec (ws := wsPX2_shortest) B.pre
  have hown : s.vm.findClass RX2 = some m.cls := findClass_of_methodNamed B.named
  have hlocks := B.notSynchronized
  subst hsz
  have hD := hD0.self (sz := s.heap.size)
  generalize hAe : va_A [(d0, .inr (2, [.int 0, .ref (bb 0), .ref (bb 1), .ref (bb 2), .ref (bb 3), .int 0, .ref (bb 4), .ref (bb 5), .ref (bb 6), .ref (bb 7), .ref (bb 8), .int 0, .ref (bb 9), .ref (bb 10)])), ((bb 7), .inl ((kd 7), 12, .inl (fun _ => 0)))] s.heap.size = A at hD ⊢
  have hA : ∀ q : Nat, s.heap.size ≤ q → A q := fun q h => by rw [← hAe]; exact Or.inr h
  have hS : va_S A s.heap s.heap [] := va_S.rf
  have hP : va_P (dC, dI) vwCl [(d0, .inr (2, [.int 0, .ref (bb 0), .ref (bb 1), .ref (bb 2), .ref (bb 3), .int 0, .ref (bb 4), .ref (bb 5), .ref (bb 6), .ref (bb 7), .ref (bb 8), .int 0, .ref (bb 9), .ref (bb 10)])), ((bb 7), .inl ((kd 7), 12, .inl (fun _ => 0)))] s.heap := hP
  have hl := lv_entry ([.ref d0, .int (nI si), .int (nI tj), .int ii]) (n := 8) (Nat.le_of_ble_eq_true rfl)
  rw [lg_entry_eq]
  generalize (lg_sl ([.ref d0, .int (nI si), .int (nI tj), .int ii]) ++ List.replicate (8 - (lg_sl ([.ref d0, .int (nI si), .int (nI tj), .int ii])).length) Slot.unset).toArray = ls at hl ⊢
  have hl : lv_has ls 8 [(0, .ref d0), (1, .int (nI si)), (2, .int (nI tj)), (3, .int ii)] := hl
  refine lv_aload_n hx hb dX2_shortest_0 rfl (lv_at hl 0 rfl) ?_
  refine lv_iload_n hx hb dX2_shortest_1 rfl (lv_at hl 2 rfl) ?_
  have hPc := hP.sub (ws' := [(d0, .inr (2, [.int 0, .ref (bb 0), .ref (bb 1), .ref (bb 2), .ref (bb 3), .int 0, .ref (bb 4), .ref (bb 5), .ref (bb 6), .ref (bb 7), .ref (bb 8), .int 0, .ref (bb 9), .ref (bb 10)])), ((bb 7), .inl ((kd 7), 12, .inl (fun _ => 0)))]) [0, 1] rfl
  have hDc := hD.sub (ws' := [(d0, .inr (2, [.int 0, .ref (bb 0), .ref (bb 1), .ref (bb 2), .ref (bb 3), .int 0, .ref (bb 4), .ref (bb 5), .ref (bb 6), .ref (bb 7), .ref (bb 8), .int 0, .ref (bb 9), .ref (bb 10)])), ((bb 7), .inl ((kd 7), 12, .inl (fun _ => 0)))]) [0, 1] (by decide) rfl
  have hKc := hK.sub (tys' := [((kd 7), .int)]) [0] rfl
  have hFc := va_free (wc := [(d0, .inr (2, [.int 0, .ref (bb 0), .ref (bb 1), .ref (bb 2), .ref (bb 3), .int 0, .ref (bb 4), .ref (bb 5), .ref (bb 6), .ref (bb 7), .ref (bb 8), .int 0, .ref (bb 9), .ref (bb 10)])), ((bb 7), .inl ((kd 7), 12, .inl (fun _ => 0)))]) hD hS hA [0, 1] rfl
  refine va_callv (va_runV (As := [.int (nI tj)]) (rest := []) ⟨hx, hb, hml, hown, hts⟩ (p_X2_measureBack l dC dI d0 bb kd (fun _ => 0) tj (by first | omega | decide | assumption | rfl) s.heap.size) (cwV 1 hts gwsPX2_shortest_0 rfl rfl rfl (by decide +kernel) ⟨by decide +kernel, by decide +kernel⟩) ⟨fun a U g mk q => by obtain ⟨q0, q1, qP, qK, qD⟩ := q; exact ⟨q0, q1, qP, va_K.moved (u := U) (U := U.calling g mk a) (Vm.Alike.refl U.vm) qK, qD⟩, va_recv hKc hPc (ci := 2) (q0 := 0) rfl rfl, fun U hU9 hW => ⟨rfl, by rw [hU9], by rw [hU9]; exact hPc, va_K.moved hW.alike hKc, hDc.weaken (fun _ _ _ _ => trivial)⟩⟩ rfl rfl hl.1 rfl (lv_room (Nat.le_of_ble_eq_true rfl)) dX2_shortest_2 ⟨by decide +kernel, by decide +kernel⟩) hS (fun q _ h => hFc q h) hFc (fun u t H1 locs ht hvm hw hB hz1 hk1 hS => ?_)
  obtain ⟨g2, hwit2⟩ : ∃ w9, w9 = u := ⟨u, rfl⟩
  subst hwit2
  obtain ⟨hP1, hK1, hD1⟩ := hB
  rw [ht] at hP1
  have hK1 := va_K.moved hvm.symm hK1
  obtain ⟨hP, hD⟩ := va_join (wr := []) (w1 := [(d0, .inr (2, [.int 0, .ref (bb 0), .ref (bb 1), .ref (bb 2), .ref (bb 3), .int 0, .ref (bb 4), .ref (bb 5), .ref (bb 6), .ref (bb 7), .ref (bb 8), .int 0, .ref (bb 9), .ref (bb 10)])), ((bb 7), .inl ((kd 7), 12, .inl g2))]) hP hD [0, 1] [] rfl rfl (by decide) (by decide) hk1 hFc hP1 hD1
  generalize H1 = H at hP hS ⊢
  have hP : va_P (dC, dI) vwCl [(d0, .inr (2, [.int 0, .ref (bb 0), .ref (bb 1), .ref (bb 2), .ref (bb 3), .int 0, .ref (bb 4), .ref (bb 5), .ref (bb 6), .ref (bb 7), .ref (bb 8), .int 0, .ref (bb 9), .ref (bb 10)])), ((bb 7), .inl ((kd 7), 12, .inl g2))] H := hP
  have hD : va_D A [(d0, .inr (2, [.int 0, .ref (bb 0), .ref (bb 1), .ref (bb 2), .ref (bb 3), .int 0, .ref (bb 4), .ref (bb 5), .ref (bb 6), .ref (bb 7), .ref (bb 8), .int 0, .ref (bb 9), .ref (bb 10)])), ((bb 7), .inl ((kd 7), 12, .inl g2))] := hD
  have f2_0 := hw
  try dsimp only at f2_0
  refine lv_aload_n hx hb dX2_shortest_5 rfl (lv_at hl 0 rfl) ?_
  refine va_get (D := (dC, dI)) (ci := 2) (v := .ref (bb 7)) (C := RX2) (T := TX2) (N := 14) hx hb hts iwsPX2_shortest_in2 hown hK hP 0 rfl rfl 9 (by decide) (hts (.fieldLink RX2 33 "OptimaWorks$NetDesk" "length" "[I") (by decide +kernel)) (fun _ h9 => h9) rfl dX2_shortest_6 ?_
  refine lv_iload_n hx hb dX2_shortest_9 rfl (lv_at hl 1 rfl) ?_
  refine va_iald hx hb hK hP 1 0 rfl rfl (vp_in_nI (show si < 12 by omega) (by omega)) dX2_shortest_10 ?_
  refine lv_topi (fun y1 hy1 => ?_)
  obtain rfl : 536870912 = y1 := (hy1.trans (by rw [nI_clamp (by omega)]; exact f2_0 si (by omega) (by omega))).symm
  refine lv_ldc (v := 536870912) hx hb hown (hts (.constant RX2 60 536870912) (by decide +kernel)) dX2_shortest_11 ?_
  refine lv_icmp_lt (tgt := 20) hx hb dX2_shortest_13 (by decide) (fun c9 => absurd c9 (by decide)) (fun _ => ?_)
  refine lv_iconst (v := 1) hx hb dX2_shortest_16 (by decide) ?_
  refine lv_goto (tgt := 21) hx hb dX2_shortest_17 (by decide) ?_
  refine lv_istore (lv' := [(4, .int 1), (0, .ref d0), (1, .int (nI si)), (2, .int (nI tj)), (3, .int ii)]) hx hb dX2_shortest_21 hl (by decide) rfl (fun ls hl => ?_)
  refine lv_iload_n hx hb dX2_shortest_23 rfl (lv_at hl 4 rfl) ?_
  refine lv_bipush (v := (-2)) hx hb dX2_shortest_24 (by decide) ?_
  refine lv_icmp_ne (tgt := 48) hx hb dX2_shortest_26 (by decide) (fun c_26 => ?_) (fun c_26 => ?_)
  · have t_26 : (ii).toInt ≠ -2 := toI_ne c_26 rfl (by decide)
    refine lv_iload hx hb dX2_shortest_48 (lv_at hl 0 rfl) ?_
    refine lv_if_eq (tgt := 57) hx hb dX2_shortest_50 (by decide) (fun c9 => absurd c9 (by decide)) (fun _ => ?_)
    refine lv_iconst (v := 0) hx hb dX2_shortest_53 (by decide) ?_
    refine lv_goto (tgt := 68) hx hb dX2_shortest_54 (by decide) ?_
    refine lv_istore (lv' := [(5, .int 0), (4, .int 1), (0, .ref d0), (1, .int (nI si)), (2, .int (nI tj)), (3, .int ii)]) hx hb dX2_shortest_68 hl (by decide) rfl (fun ls hl => ?_)
    refine lv_iload_n hx hb dX2_shortest_70 rfl (lv_at hl 5 rfl) ?_
    refine lv_bipush (v := (-3)) hx hb dX2_shortest_71 (by decide) ?_
    refine lv_icmp_ne (tgt := 79) hx hb dX2_shortest_73 (by decide) (fun c_73 => ?_) (fun c_73 => ?_)
    · have t_73 : (ii).toInt ≠ -3 := toI_ne c_73 rfl (by decide)
      refine lv_iload_n hx hb dX2_shortest_79 rfl (lv_at hl 5 rfl) ?_
      refine lv_if_lt (tgt := 89) hx hb dX2_shortest_80 (by decide) (fun c_80 => ?_) (fun c_80 => ?_)
      · have t_80 : (ii).toInt < 0 := toI_lt c_80 rfl (by decide)
        refine lv_iconst (v := (-1)) hx hb dX2_shortest_89 (by decide) ?_
        refine W.widen (k := 0) (n := 0) (by decide +kernel) (by decide +kernel) ?_
        exact W.iret (v := (-1)) hx hb hr (fun t ht hW => ⟨⟨(-1), (), rfl, by first | (left; (refine ⟨?_, ?_⟩ <;> (first | rfl | assumption | trivial | omega | (simp [c_26, c_73, c_80]; done) | (simp; omega)))) | (right; (refine ⟨?_, ?_⟩ <;> (first | rfl | assumption | trivial | omega | (simp [c_26, c_73, c_80]; done) | (simp; omega)))), by rw [ht]; exact hP.sub [] rfl, va_K.moved hW.alike (hK.sub [] rfl), hD.sub [] (by decide) rfl⟩, hS.F ht⟩) hS.2.2 dX2_shortest_90
      · have t_80 : ¬ (ii).toInt < 0 := toI_nlt c_80 rfl (by decide)
        refine lv_iload_n hx hb dX2_shortest_83 rfl (lv_at hl 5 rfl) ?_
        refine lv_iload hx hb dX2_shortest_84 (lv_at hl 0 rfl) ?_
        refine lv_icmp_lt (tgt := 91) hx hb dX2_shortest_86 (by decide) (fun c9 => False.elim (by have t9 : (ii).toInt < 0 := toI_lt c9 rfl (by decide); omega)) (fun c_86 => ?_)
        have t_86 : ¬ (ii).toInt < 0 := toI_nlt c_86 rfl (by decide)
        refine lv_iconst (v := (-1)) hx hb dX2_shortest_89 (by decide) ?_
        refine W.widen (k := 0) (n := 0) (by decide +kernel) (by decide +kernel) ?_
        exact W.iret (v := (-1)) hx hb hr (fun t ht hW => ⟨⟨(-1), (), rfl, by first | (left; (refine ⟨?_, ?_⟩ <;> (first | rfl | assumption | trivial | omega | (simp [c_26, c_73, c_80]; done) | (simp; omega)))) | (right; (refine ⟨?_, ?_⟩ <;> (first | rfl | assumption | trivial | omega | (simp [c_26, c_73, c_80]; done) | (simp; omega)))), by rw [ht]; exact hP.sub [] rfl, va_K.moved hW.alike (hK.sub [] rfl), hD.sub [] (by decide) rfl⟩, hS.F ht⟩) hS.2.2 dX2_shortest_90
    · have t_73 : (ii).toInt = -3 := toI_nne c_73 rfl (by decide)
      refine lv_iload hx hb dX2_shortest_76 (lv_at hl 0 rfl) ?_
      refine W.widen (k := 0) (n := 0) (by decide +kernel) (by decide +kernel) ?_
      exact W.iret (v := 0) hx hb hr (fun t ht hW => ⟨⟨0, (), rfl, by first | (left; (refine ⟨?_, ?_⟩ <;> (first | rfl | assumption | trivial | omega | (simp [c_26, c_73]; done) | (simp; omega)))) | (right; (refine ⟨?_, ?_⟩ <;> (first | rfl | assumption | trivial | omega | (simp [c_26, c_73]; done) | (simp; omega)))), by rw [ht]; exact hP.sub [] rfl, va_K.moved hW.alike (hK.sub [] rfl), hD.sub [] (by decide) rfl⟩, hS.F ht⟩) hS.2.2 dX2_shortest_78
  · have t_26 : (ii).toInt = -2 := toI_nne c_26 rfl (by decide)
    refine lv_iload hx hb dX2_shortest_29 (lv_at hl 0 rfl) ?_
    refine lv_if_eq (tgt := 38) hx hb dX2_shortest_31 (by decide) (fun c9 => absurd c9 (by decide)) (fun _ => ?_)
    refine lv_iconst (v := (-1)) hx hb dX2_shortest_34 (by decide) ?_
    refine lv_goto (tgt := 47) hx hb dX2_shortest_35 (by decide) ?_
    refine W.widen (k := 0) (n := 0) (by decide +kernel) (by decide +kernel) ?_
    exact W.iret (v := (-1)) hx hb hr (fun t ht hW => ⟨⟨(-1), (), rfl, by first | (left; (refine ⟨?_, ?_⟩ <;> (first | rfl | assumption | trivial | omega | (simp [c_26]; done) | (simp; omega)))) | (right; (refine ⟨?_, ?_⟩ <;> (first | rfl | assumption | trivial | omega | (simp [c_26]; done) | (simp; omega)))), by rw [ht]; exact hP.sub [] rfl, va_K.moved hW.alike (hK.sub [] rfl), hD.sub [] (by decide) rfl⟩, hS.F ht⟩) hS.2.2 dX2_shortest_47
theorem dX11_path_0 : decode cX11_path 0 = .ok (.iload_n 1, 1) := by decide +kernel
theorem dX11_path_1 : decode cX11_path 1 = .ok (.iload_n 2, 1) := by decide +kernel
theorem dX11_path_2 : decode cX11_path 2 = .ok (.invokestatic 438, 3) := by decide +kernel
theorem dX11_path_5 : decode cX11_path 5 = .ok (.aload_n 0, 1) := by decide +kernel
theorem dX11_path_6 : decode cX11_path 6 = .ok (.invokevirtual 425, 3) := by decide +kernel
theorem dX11_path_9 : decode cX11_path 9 = .ok (.iload_n 1, 1) := by decide +kernel
theorem dX11_path_10 : decode cX11_path 10 = .ok (.iload_n 2, 1) := by decide +kernel
theorem dX11_path_11 : decode cX11_path 11 = .ok (.iload_n 3, 1) := by decide +kernel
theorem dX11_path_12 : decode cX11_path 12 = .ok (.invokevirtual 449, 3) := by decide +kernel
theorem dX11_path_15 : decode cX11_path 15 = .ok (.ireturn, 1) := by decide +kernel
def wsPX11_path : List Cond := .code yX11_path cX11_path 4 (some .int) :: ([] ++ (va_wsS RX11 438 yX11_needNodes wsPX11_needNodes) ++ (wsV RX11 425 RX11 yX11_theNets wsPX11_theNets) ++ (wsV RX11 449 RX2 yX2_shortest wsPX2_shortest))
theorem gwsPX11_path_0 : GoodIn wsPX11_path (va_wsS RX11 438 yX11_needNodes wsPX11_needNodes) := goodIn_sub (fun _ h => List.mem_cons_of_mem _ (List.mem_append_left _ (List.mem_append_left _ (List.mem_append_right _ h)))) (by decide +kernel)
theorem gwsPX11_path_1 : GoodIn wsPX11_path (wsV RX11 425 RX11 yX11_theNets wsPX11_theNets) := goodIn_sub (fun _ h => List.mem_cons_of_mem _ (List.mem_append_left _ (List.mem_append_right _ h))) (by decide +kernel)
theorem gwsPX11_path_2 : GoodIn wsPX11_path (wsV RX11 449 RX2 yX2_shortest wsPX2_shortest) := goodIn_sub (fun _ h => List.mem_cons_of_mem _ (List.mem_append_right _ h)) (by decide +kernel)
set_option maxHeartbeats 4000000 in
set_option maxRecDepth 100000 in
/-- path(s, t, i) -/
theorem p_X11_path (l : Launch) (hst : l.stackTraces = false) (dC : Nat → ClassId) (dI : Nat → Nat → Nat) (h0 : Nat) (a : Nat → Nat) (ns : Int32) (nt : Int32) (ii : Int32) (sz : Nat) : vx_Met l yX11_path wsPX11_path ({ frames := 7, cells := 13, slots := 1484, locals := 102 }) (va_Pc [.ref h0, .int ns, .int nt, .int ii] (fun U => U.heap.size = sz ∧ va_P (dC, dI) vwCl [(h0, .inr (11, [.ref (a 0), .ref (a 1), .ref (a 3), .ref (a 14), .int 0, .null, .null, .null, .null, .null, .null]))] U.heap ∧ va_K (dC, dI) vwCl [] U ∧ va_D (fun _ => True) [(h0, .inr (11, [.ref (a 0), .ref (a 1), .ref (a 3), .ref (a 14), .int 0, .null, .null, .null, .null, .null, .null]))] ∧ vx_Zq Bundle.tN "UNASSIGNED_STACK" Bundle.steD (va_A [(h0, .inr (11, [.ref (a 0), .ref (a 1), .ref (a 3), .ref (a 14), .int 0, .null, .null, .null, .null, .null, .null]))] sz) U U.heap ∧ vx_Zq Bundle.tN "SUPPRESSED_SENTINEL" Bundle.listD (va_A [(h0, .inr (11, [.ref (a 0), .ref (a 1), .ref (a 3), .ref (a 14), .int 0, .null, .null, .null, .null, .null, .null]))] sz) U U.heap ∧ (∀ w ∈ ngX11_79, va_Nw w U) ∧ (∀ w ∈ ngX11_95, va_Nw w U) ∧ va_Nw (.methodLinkNest RX11 421 yX2_init RX11) U)) (va_Qi (fun (r : Int32) (u : Unit) => (r = 0 ∧ (0 ≤ (ns).toInt ∧ (ns).toInt < 12 ∧ 0 ≤ (nt).toInt ∧ (nt).toInt < 12 ∧ ¬ (ns).toInt = (nt).toInt) ∧ ((ii).toInt = -3)) ∨ (r = (-1) ∧ (0 ≤ (ns).toInt ∧ (ns).toInt < 12 ∧ 0 ≤ (nt).toInt ∧ (nt).toInt < 12 ∧ ¬ (ns).toInt = (nt).toInt) ∧ (¬ (ii).toInt = -3))) (fun (u : Unit) t => va_P (dC, dI) vwCl [] t.heap ∧ va_K (dC, dI) vwCl [] t ∧ va_D (va_A [(h0, .inr (11, [.ref (a 0), .ref (a 1), .ref (a 3), .ref (a 14), .int 0, .null, .null, .null, .null, .null, .null]))] sz) []) (va_A [(h0, .inr (11, [.ref (a 0), .ref (a 1), .ref (a 3), .ref (a 14), .int 0, .null, .null, .null, .null, .null, .null]))] sz)) (vx_X (fun n : String => (n = "java/lang/IndexOutOfBoundsException" ∧ ((ns).toInt < 0 ∨ 12 ≤ (ns).toInt ∨ (nt).toInt < 0 ∨ 12 ≤ (nt).toInt)) ∨ (n = "java/lang/IllegalArgumentException" ∧ (0 ≤ (ns).toInt ∧ (ns).toInt < 12 ∧ 0 ≤ (nt).toInt ∧ (nt).toInt < 12 ∧ (ns).toInt = (nt).toInt))) (fun E n t => E = n) (va_A [(h0, .inr (11, [.ref (a 0), .ref (a 1), .ref (a 3), .ref (a 14), .int 0, .null, .null, .null, .null, .null, .null]))] sz)) 13 1484 (va_A [(h0, .inr (11, [.ref (a 0), .ref (a 1), .ref (a 3), .ref (a 14), .int 0, .null, .null, .null, .null, .null, .null]))] sz) := by
  refine vx_ofW (cc := cX11_path) (maxL := 4) (ret := (some .int)) (by decide) rfl ?_
  intro p e s m args below meth c s₁ B hml htab hv
  obtain ⟨rfl, hsz, hP, hK, hD0, hU, hN, hngX11_79, hngX11_95, hnX11_421⟩ := hv
  have hx := B.exec
  have hb := B.bytes
  have hr := B.returns
  have hts := atoms_spec (ws := wsPX11_path) B.pre
  have hown : s.vm.findClass RX11 = some m.cls := findClass_of_methodNamed B.named
  have hlocks := B.notSynchronized
  subst hsz
  have hD := hD0.self (sz := s.heap.size)
  generalize hAe : va_A [(h0, .inr (11, [.ref (a 0), .ref (a 1), .ref (a 3), .ref (a 14), .int 0, .null, .null, .null, .null, .null, .null]))] s.heap.size = A at hD hU hN ⊢
  have hA : ∀ q : Nat, s.heap.size ≤ q → A q := fun q h => by rw [← hAe]; exact Or.inr h
  have hS : va_S A s.heap s.heap [] := va_S.rf
  have hP : va_P (dC, dI) vwCl [(h0, .inr (11, [.ref (a 0), .ref (a 1), .ref (a 3), .ref (a 14), .int 0, .null, .null, .null, .null, .null, .null]))] s.heap := hP
  have hl := lv_entry ([.ref h0, .int ns, .int nt, .int ii]) (n := 4) (Nat.le_of_ble_eq_true rfl)
  rw [lg_entry_eq]
  generalize (lg_sl ([.ref h0, .int ns, .int nt, .int ii]) ++ List.replicate (4 - (lg_sl ([.ref h0, .int ns, .int nt, .int ii])).length) Slot.unset).toArray = ls at hl ⊢
  have hl : lv_has ls 4 [(0, .ref h0), (1, .int ns), (2, .int nt), (3, .int ii)] := hl
  refine lv_iload_n hx hb dX11_path_0 rfl (lv_at hl 1 rfl) ?_
  refine lv_iload_n hx hb dX11_path_1 rfl (lv_at hl 2 rfl) ?_
  have hPc := hP.sub (ws' := []) [] rfl
  have hDc := hD.sub (ws' := []) [] (by decide) rfl
  have hKc := hK.sub (tys' := []) [] rfl
  have hFc := va_free (wc := []) hD hS hA [] rfl
  refine vx_callv (vx_runS (As := [.int ns, .int nt]) (rest := []) ⟨hx, hb, hml, hown, hts⟩ (p_X11_needNodes l hst dC dI ns nt s.heap.size) (va_cwS 2 hts gwsPX11_path_0 rfl rfl rfl (by decide +kernel) ⟨by decide +kernel, by decide +kernel⟩) ⟨fun a U g mk q => by obtain ⟨q0, q1, qP, qK, qD, qU, qN, qngX11_79, qngX11_95⟩ := q; exact ⟨q0, q1, qP, va_K.moved (u := U) (U := U.calling g mk a) (Vm.Alike.refl U.vm) qK, qD, vx_Zq.moved (u := U) (U := U.calling g mk a) (Vm.Alike.refl U.vm) qU, vx_Zq.moved (u := U) (U := U.calling g mk a) (Vm.Alike.refl U.vm) qN, fun w h => va_Nw.same (u := U) (U := U.calling g mk a) (ngX11_79_ot w h) rfl (qngX11_79 w h), fun w h => va_Nw.same (u := U) (U := U.calling g mk a) (ngX11_95_ot w h) rfl (qngX11_95 w h)⟩, fun U hU9 hW => ⟨rfl, by rw [hU9], by rw [hU9]; exact hPc, va_K.moved hW.alike hKc, hDc.weaken (fun _ _ _ _ => trivial), by rw [hU9]; exact ((hU.kept (fun a h1 h2 => hS.2.1 a h1 h2)).narrow hFc).moved hW.alike, by rw [hU9]; exact ((hN.kept (fun a h1 h2 => hS.2.1 a h1 h2)).narrow hFc).moved hW.alike, fun w h => cd_warm (ngX11_79_cd w h) hW (hngX11_79 w h), fun w h => cd_warm (ngX11_95_cd w h) hW (hngX11_95 w h)⟩⟩ rfl rfl hl.1 rfl (lv_room (Nat.le_of_ble_eq_true rfl)) dX11_path_2 ⟨by decide +kernel, by decide +kernel⟩) hS (fun q _ h => hFc q h) hFc (fun q _ h => hFc q h) (fun E ce q9 u t H1 locs1 ht hvm hw hB hz1 hk1 hS hc1 hc2 hc3 => ?_) (fun u t H1 locs ht hvm hw hB hz1 hk1 hS => ?_)
  · have hE : E = u := hB
    subst hE
    exact vx_out (fun x hx9 => (htab x hx9).elim) hlocks hc1 hc2 hc3 (fun t ht hvm => ⟨_, by first | exact hw | (rcases hw with ⟨h, h1⟩ | ⟨h, h1⟩ <;> subst h <;> first | exact Or.inl ⟨rfl, by omega⟩ | exact Or.inr ⟨rfl, by omega⟩ | exact Or.inl ⟨rfl, h1⟩ | exact Or.inr ⟨rfl, h1⟩) | (obtain ⟨h, h1⟩ := hw; subst h; first | exact ⟨rfl, by omega⟩ | exact Or.inl ⟨rfl, by omega⟩ | exact Or.inr ⟨rfl, by omega⟩), rfl, hS.F ht⟩) hS.2.2 (by decide +kernel) (by decide +kernel)
  obtain ⟨hP1, hK1, hD1⟩ := hB
  rw [ht] at hP1
  have hK1 := va_K.moved hvm.symm hK1
  obtain ⟨hP, hD⟩ := va_join (wr := [(h0, .inr (11, [.ref (a 0), .ref (a 1), .ref (a 3), .ref (a 14), .int 0, .null, .null, .null, .null, .null, .null]))]) (w1 := []) hP hD [] [0] rfl rfl (by decide) (by decide) hk1 hFc hP1 hD1
  generalize H1 = H at hP hS ⊢
  have hP : va_P (dC, dI) vwCl [(h0, .inr (11, [.ref (a 0), .ref (a 1), .ref (a 3), .ref (a 14), .int 0, .null, .null, .null, .null, .null, .null]))] H := hP
  have hD : va_D A [(h0, .inr (11, [.ref (a 0), .ref (a 1), .ref (a 3), .ref (a 14), .int 0, .null, .null, .null, .null, .null, .null]))] := hD
  refine W.widen (k := 1) (n := 6) (by decide +kernel) (by decide +kernel) ?_
  have f2_0 := hw
  try dsimp only at f2_0
  obtain ⟨si, h_si, rfl⟩ := of_toInt (x := ns) (k := 12) (by omega) (by omega)
  have e_si : (nI si).toInt = (si : Int) := nI_toInt (by omega)
  obtain ⟨tj, h_tj, rfl⟩ := of_toInt (x := nt) (k := 12) (by omega) (by omega)
  have e_tj : (nI tj).toInt = (tj : Int) := nI_toInt (by omega)
  refine lv_aload_n hx hb dX11_path_5 rfl (lv_at hl 0 rfl) ?_
  have hPc := hP.sub (ws' := [(h0, .inr (11, [.ref (a 0), .ref (a 1), .ref (a 3), .ref (a 14), .int 0, .null, .null, .null, .null, .null, .null]))]) [0] rfl
  have hDc := hD.sub (ws' := [(h0, .inr (11, [.ref (a 0), .ref (a 1), .ref (a 3), .ref (a 14), .int 0, .null, .null, .null, .null, .null, .null]))]) [0] (by decide) rfl
  have hKc := hK.sub (tys' := []) [] rfl
  have hFc := va_free (wc := [(h0, .inr (11, [.ref (a 0), .ref (a 1), .ref (a 3), .ref (a 14), .int 0, .null, .null, .null, .null, .null, .null]))]) hD hS hA [0] rfl
  refine va_callr (va_runV (As := []) (rest := []) ⟨hx, hb, hml, hown, hts⟩ (p_X11_theNets l dC dI h0 a H.size) (cwV 0 hts gwsPX11_path_1 rfl rfl rfl (by decide +kernel) ⟨by decide +kernel, by decide +kernel⟩) ⟨fun a U g mk q => by obtain ⟨q0, q1, qP, qK, qD, qhnX11_421⟩ := q; exact ⟨q0, q1, qP, va_K.moved (u := U) (U := U.calling g mk a) (Vm.Alike.refl U.vm) qK, qD, va_Nw.same (u := U) (U := U.calling g mk a) rfl rfl qhnX11_421⟩, va_recv hKc hPc (ci := 11) (q0 := 0) rfl rfl, fun U hU9 hW => ⟨rfl, by rw [hU9], by rw [hU9]; exact hPc, va_K.moved hW.alike hKc, hDc.weaken (fun _ _ _ _ => trivial), va_Nw.warmM hW hnX11_421⟩⟩ rfl rfl hl.1 rfl (lv_room (Nat.le_of_ble_eq_true rfl)) dX11_path_6 ⟨by decide +kernel, by decide +kernel⟩) hS (fun q _ h => hFc q h) hFc (fun u a6 t H1 locs ht hvm hw hB hz1 hk1 hS => ?_)
  obtain ⟨aa6, kk6⟩ := u
  obtain ⟨hP1, hK1, hD1⟩ := hB
  rw [ht] at hP1
  have hK1 := va_K.moved hvm.symm hK1
  obtain ⟨hP, hD⟩ := va_join (wr := []) (w1 := [(h0, .inr (11, [.ref (a 0), .ref (a 1), .ref (a 3), .ref (a 14), .int 0, .null, .null, .null, .null, .null, .ref a6])), (a6, .inr (2, [.int 0, .ref (aa6 0), .ref (aa6 1), .ref (aa6 2), .ref (aa6 3), .int 0, .ref (aa6 4), .ref (aa6 5), .ref (aa6 6), .ref (aa6 7), .ref (aa6 8), .int 0, .ref (aa6 9), .ref (aa6 10)])), ((aa6 0), .inl ((kk6 0), 40, .inl (fun _ => 0))), ((aa6 1), .inl ((kk6 1), 40, .inl (fun _ => 0))), ((aa6 2), .inl ((kk6 2), 40, .inl (fun _ => 0))), ((aa6 3), .inl ((kk6 3), 40, .inl (fun _ => 0))), ((aa6 4), .inl ((kk6 4), 144, .inl (fun _ => 0))), ((aa6 5), .inl ((kk6 5), 12, .inl (fun _ => 0))), ((aa6 6), .inl ((kk6 6), 40, .inl (fun _ => 0))), ((aa6 7), .inl ((kk6 7), 12, .inl (fun _ => 0))), ((aa6 8), .inl ((kk6 8), 8, .inl (fun _ => 0))), ((aa6 9), .inl ((kk6 9), 64, .inl (fun _ => 0))), ((aa6 10), .inl ((kk6 10), 1024, .inl (fun _ => 0)))]) hP hD [0] [] rfl rfl (by decide) (by decide) hk1 hFc hP1 hD1
  have hK := hK.app hK1
  generalize H1 = H at hP hS ⊢
  have hP : va_P (dC, dI) vwCl [(h0, .inr (11, [.ref (a 0), .ref (a 1), .ref (a 3), .ref (a 14), .int 0, .null, .null, .null, .null, .null, .ref a6])), (a6, .inr (2, [.int 0, .ref (aa6 0), .ref (aa6 1), .ref (aa6 2), .ref (aa6 3), .int 0, .ref (aa6 4), .ref (aa6 5), .ref (aa6 6), .ref (aa6 7), .ref (aa6 8), .int 0, .ref (aa6 9), .ref (aa6 10)])), ((aa6 0), .inl ((kk6 0), 40, .inl (fun _ => 0))), ((aa6 1), .inl ((kk6 1), 40, .inl (fun _ => 0))), ((aa6 2), .inl ((kk6 2), 40, .inl (fun _ => 0))), ((aa6 3), .inl ((kk6 3), 40, .inl (fun _ => 0))), ((aa6 4), .inl ((kk6 4), 144, .inl (fun _ => 0))), ((aa6 5), .inl ((kk6 5), 12, .inl (fun _ => 0))), ((aa6 6), .inl ((kk6 6), 40, .inl (fun _ => 0))), ((aa6 7), .inl ((kk6 7), 12, .inl (fun _ => 0))), ((aa6 8), .inl ((kk6 8), 8, .inl (fun _ => 0))), ((aa6 9), .inl ((kk6 9), 64, .inl (fun _ => 0))), ((aa6 10), .inl ((kk6 10), 1024, .inl (fun _ => 0)))] H := hP
  have hD : va_D A [(h0, .inr (11, [.ref (a 0), .ref (a 1), .ref (a 3), .ref (a 14), .int 0, .null, .null, .null, .null, .null, .ref a6])), (a6, .inr (2, [.int 0, .ref (aa6 0), .ref (aa6 1), .ref (aa6 2), .ref (aa6 3), .int 0, .ref (aa6 4), .ref (aa6 5), .ref (aa6 6), .ref (aa6 7), .ref (aa6 8), .int 0, .ref (aa6 9), .ref (aa6 10)])), ((aa6 0), .inl ((kk6 0), 40, .inl (fun _ => 0))), ((aa6 1), .inl ((kk6 1), 40, .inl (fun _ => 0))), ((aa6 2), .inl ((kk6 2), 40, .inl (fun _ => 0))), ((aa6 3), .inl ((kk6 3), 40, .inl (fun _ => 0))), ((aa6 4), .inl ((kk6 4), 144, .inl (fun _ => 0))), ((aa6 5), .inl ((kk6 5), 12, .inl (fun _ => 0))), ((aa6 6), .inl ((kk6 6), 40, .inl (fun _ => 0))), ((aa6 7), .inl ((kk6 7), 12, .inl (fun _ => 0))), ((aa6 8), .inl ((kk6 8), 8, .inl (fun _ => 0))), ((aa6 9), .inl ((kk6 9), 64, .inl (fun _ => 0))), ((aa6 10), .inl ((kk6 10), 1024, .inl (fun _ => 0)))] := hD
  have hK : va_K (dC, dI) vwCl [((kk6 0), .int), ((kk6 1), .int), ((kk6 2), .int), ((kk6 3), .int), ((kk6 4), .int), ((kk6 5), .int), ((kk6 6), .int), ((kk6 7), .int), ((kk6 8), .int), ((kk6 9), .int), ((kk6 10), .int)] s := hK
  refine W.widen (k := 13) (n := 1484) (by decide +kernel) (by decide +kernel) ?_
  refine lv_iload_n hx hb dX11_path_9 rfl (lv_at hl 1 rfl) ?_
  refine lv_iload_n hx hb dX11_path_10 rfl (lv_at hl 2 rfl) ?_
  refine lv_iload_n hx hb dX11_path_11 rfl (lv_at hl 3 rfl) ?_
  have hPc := hP.sub (ws' := [(a6, .inr (2, [.int 0, .ref (aa6 0), .ref (aa6 1), .ref (aa6 2), .ref (aa6 3), .int 0, .ref (aa6 4), .ref (aa6 5), .ref (aa6 6), .ref (aa6 7), .ref (aa6 8), .int 0, .ref (aa6 9), .ref (aa6 10)])), ((aa6 7), .inl ((kk6 7), 12, .inl (fun _ => 0)))]) [1, 9] rfl
  have hDc := hD.sub (ws' := [(a6, .inr (2, [.int 0, .ref (aa6 0), .ref (aa6 1), .ref (aa6 2), .ref (aa6 3), .int 0, .ref (aa6 4), .ref (aa6 5), .ref (aa6 6), .ref (aa6 7), .ref (aa6 8), .int 0, .ref (aa6 9), .ref (aa6 10)])), ((aa6 7), .inl ((kk6 7), 12, .inl (fun _ => 0)))]) [1, 9] (by decide) rfl
  have hKc := hK.sub (tys' := [((kk6 7), .int)]) [7] rfl
  have hFc := va_free (wc := [(a6, .inr (2, [.int 0, .ref (aa6 0), .ref (aa6 1), .ref (aa6 2), .ref (aa6 3), .int 0, .ref (aa6 4), .ref (aa6 5), .ref (aa6 6), .ref (aa6 7), .ref (aa6 8), .int 0, .ref (aa6 9), .ref (aa6 10)])), ((aa6 7), .inl ((kk6 7), 12, .inl (fun _ => 0)))]) hD hS hA [1, 9] rfl
  refine va_calli (va_runV (As := [.int (nI si), .int (nI tj), .int ii]) (rest := []) ⟨hx, hb, hml, hown, hts⟩ (p_X2_shortest l dC dI a6 aa6 kk6 si tj (by first | omega | decide | assumption | rfl) (by first | omega | decide | assumption | rfl) (by first | omega | decide | assumption | rfl) ii H.size) (cwV 3 hts gwsPX11_path_2 rfl rfl rfl (by decide +kernel) ⟨by decide +kernel, by decide +kernel⟩) ⟨fun a U g mk q => by obtain ⟨q0, q1, qP, qK, qD⟩ := q; exact ⟨q0, q1, qP, va_K.moved (u := U) (U := U.calling g mk a) (Vm.Alike.refl U.vm) qK, qD⟩, va_recv hKc hPc (ci := 2) (q0 := 0) rfl rfl, fun U hU9 hW => ⟨rfl, by rw [hU9], by rw [hU9]; exact hPc, va_K.moved hW.alike hKc, hDc.weaken (fun _ _ _ _ => trivial)⟩⟩ rfl rfl hl.1 rfl (lv_room (Nat.le_of_ble_eq_true rfl)) dX11_path_12 ⟨by decide +kernel, by decide +kernel⟩) hS (fun q _ h => hFc q h) hFc (fun r12 u t H1 locs ht hvm hw hB hz1 hk1 hS => ?_)
  obtain ⟨hP1, hK1, hD1⟩ := hB
  rw [ht] at hP1
  have hK1 := va_K.moved hvm.symm hK1
  obtain ⟨hP, hD⟩ := va_join (wr := [(h0, .inr (11, [.ref (a 0), .ref (a 1), .ref (a 3), .ref (a 14), .int 0, .null, .null, .null, .null, .null, .ref a6])), ((aa6 0), .inl ((kk6 0), 40, .inl (fun _ => 0))), ((aa6 1), .inl ((kk6 1), 40, .inl (fun _ => 0))), ((aa6 2), .inl ((kk6 2), 40, .inl (fun _ => 0))), ((aa6 3), .inl ((kk6 3), 40, .inl (fun _ => 0))), ((aa6 4), .inl ((kk6 4), 144, .inl (fun _ => 0))), ((aa6 5), .inl ((kk6 5), 12, .inl (fun _ => 0))), ((aa6 6), .inl ((kk6 6), 40, .inl (fun _ => 0))), ((aa6 8), .inl ((kk6 8), 8, .inl (fun _ => 0))), ((aa6 9), .inl ((kk6 9), 64, .inl (fun _ => 0))), ((aa6 10), .inl ((kk6 10), 1024, .inl (fun _ => 0)))]) (w1 := []) hP hD [1, 9] [0, 2, 3, 4, 5, 6, 7, 8, 10, 11, 12] rfl rfl (by decide) (by decide) hk1 hFc hP1 hD1
  generalize H1 = H at hP hS ⊢
  have hP : va_P (dC, dI) vwCl [(h0, .inr (11, [.ref (a 0), .ref (a 1), .ref (a 3), .ref (a 14), .int 0, .null, .null, .null, .null, .null, .ref a6])), ((aa6 0), .inl ((kk6 0), 40, .inl (fun _ => 0))), ((aa6 1), .inl ((kk6 1), 40, .inl (fun _ => 0))), ((aa6 2), .inl ((kk6 2), 40, .inl (fun _ => 0))), ((aa6 3), .inl ((kk6 3), 40, .inl (fun _ => 0))), ((aa6 4), .inl ((kk6 4), 144, .inl (fun _ => 0))), ((aa6 5), .inl ((kk6 5), 12, .inl (fun _ => 0))), ((aa6 6), .inl ((kk6 6), 40, .inl (fun _ => 0))), ((aa6 8), .inl ((kk6 8), 8, .inl (fun _ => 0))), ((aa6 9), .inl ((kk6 9), 64, .inl (fun _ => 0))), ((aa6 10), .inl ((kk6 10), 1024, .inl (fun _ => 0)))] H := hP
  have hD : va_D A [(h0, .inr (11, [.ref (a 0), .ref (a 1), .ref (a 3), .ref (a 14), .int 0, .null, .null, .null, .null, .null, .ref a6])), ((aa6 0), .inl ((kk6 0), 40, .inl (fun _ => 0))), ((aa6 1), .inl ((kk6 1), 40, .inl (fun _ => 0))), ((aa6 2), .inl ((kk6 2), 40, .inl (fun _ => 0))), ((aa6 3), .inl ((kk6 3), 40, .inl (fun _ => 0))), ((aa6 4), .inl ((kk6 4), 144, .inl (fun _ => 0))), ((aa6 5), .inl ((kk6 5), 12, .inl (fun _ => 0))), ((aa6 6), .inl ((kk6 6), 40, .inl (fun _ => 0))), ((aa6 8), .inl ((kk6 8), 8, .inl (fun _ => 0))), ((aa6 9), .inl ((kk6 9), 64, .inl (fun _ => 0))), ((aa6 10), .inl ((kk6 10), 1024, .inl (fun _ => 0)))] := hD
  rcases hw with ⟨rfl, f12_0⟩ | ⟨rfl, f12_0⟩
  · refine vx_ret ?_
    refine W.widen (k := 13) (n := 1484) (by decide +kernel) (by decide +kernel) ?_
    exact W.iret (v := 0) hx hb hr (fun t ht hW => ⟨⟨0, (), rfl, by first | (left; (refine ⟨?_, ?_, ?_⟩ <;> (first | rfl | assumption | trivial | omega | (simp []; done) | (simp; omega)))) | (right; (refine ⟨?_, ?_, ?_⟩ <;> (first | rfl | assumption | trivial | omega | (simp []; done) | (simp; omega)))), by rw [ht]; exact hP.sub [] rfl, va_K.moved hW.alike (hK.sub [] rfl), hD.sub [] (by decide) rfl⟩, hS.F ht⟩) hS.2.2 dX11_path_15
  · refine vx_ret ?_
    refine W.widen (k := 13) (n := 1484) (by decide +kernel) (by decide +kernel) ?_
    exact W.iret (v := (-1)) hx hb hr (fun t ht hW => ⟨⟨(-1), (), rfl, by first | (left; (refine ⟨?_, ?_, ?_⟩ <;> (first | rfl | assumption | trivial | omega | (simp []; done) | (simp; omega)))) | (right; (refine ⟨?_, ?_, ?_⟩ <;> (first | rfl | assumption | trivial | omega | (simp []; done) | (simp; omega)))), by rw [ht]; exact hP.sub [] rfl, va_K.moved hW.alike (hK.sub [] rfl), hD.sub [] (by decide) rfl⟩, hS.F ht⟩) hS.2.2 dX11_path_15
theorem dX2_treeArcs_0 : decode cX2_treeArcs 0 = .ok (.lconst 0, 1) := by decide +kernel
theorem dX2_treeArcs_1 : decode cX2_treeArcs 1 = .ok (.lstore_n 1, 1) := by decide +kernel
theorem dX2_treeArcs_2 : decode cX2_treeArcs 2 = .ok (.lconst 0, 1) := by decide +kernel
theorem dX2_treeArcs_3 : decode cX2_treeArcs 3 = .ok (.lstore_n 3, 1) := by decide +kernel
theorem dX2_treeArcs_4 : decode cX2_treeArcs 4 = .ok (.aload_n 0, 1) := by decide +kernel
theorem dX2_treeArcs_5 : decode cX2_treeArcs 5 = .ok (.getfield 27, 3) := by decide +kernel
theorem dX2_treeArcs_8 : decode cX2_treeArcs 8 = .ok (.astore 5, 2) := by decide +kernel
theorem dX2_treeArcs_10 : decode cX2_treeArcs 10 = .ok (.iconst 0, 1) := by decide +kernel
theorem dX2_treeArcs_11 : decode cX2_treeArcs 11 = .ok (.istore 6, 2) := by decide +kernel
theorem dX2_treeArcs_13 : decode cX2_treeArcs 13 = .ok (.iload 6, 2) := by decide +kernel
theorem dX2_treeArcs_15 : decode cX2_treeArcs 15 = .ok (.bipush 12, 2) := by decide +kernel
theorem dX2_treeArcs_17 : decode cX2_treeArcs 17 = .ok (.if_icmp .ge 16, 3) := by decide +kernel
theorem dX2_treeArcs_20 : decode cX2_treeArcs 20 = .ok (.aload 5, 2) := by decide +kernel
theorem dX2_treeArcs_22 : decode cX2_treeArcs 22 = .ok (.iload 6, 2) := by decide +kernel
theorem dX2_treeArcs_24 : decode cX2_treeArcs 24 = .ok (.iload 6, 2) := by decide +kernel
theorem dX2_treeArcs_26 : decode cX2_treeArcs 26 = .ok (.iastore, 1) := by decide +kernel
theorem dX2_treeArcs_27 : decode cX2_treeArcs 27 = .ok (.iinc 6 1, 3) := by decide +kernel
theorem dX2_treeArcs_30 : decode cX2_treeArcs 30 = .ok (.goto (-17), 3) := by decide +kernel
theorem dX2_treeArcs_33 : decode cX2_treeArcs 33 = .ok (.iconst 0, 1) := by decide +kernel
theorem dX2_treeArcs_34 : decode cX2_treeArcs 34 = .ok (.istore 6, 2) := by decide +kernel
theorem dX2_treeArcs_36 : decode cX2_treeArcs 36 = .ok (.iload 6, 2) := by decide +kernel
theorem dX2_treeArcs_38 : decode cX2_treeArcs 38 = .ok (.aload_n 0, 1) := by decide +kernel
theorem dX2_treeArcs_39 : decode cX2_treeArcs 39 = .ok (.getfield 45, 3) := by decide +kernel
theorem dX2_treeArcs_42 : decode cX2_treeArcs 42 = .ok (.if_icmp .ge 102, 3) := by decide +kernel
theorem dX2_treeArcs_144 : decode cX2_treeArcs 144 = .ok (.lload_n 1, 1) := by decide +kernel
theorem dX2_treeArcs_145 : decode cX2_treeArcs 145 = .ok (.lreturn, 1) := by decide +kernel
def wsPX2_treeArcs : List Cond := .code yX2_treeArcs cX2_treeArcs 11 (some .long) :: ([.fieldLink RX2 27 "OptimaWorks$NetDesk" "before" "[I", .fieldLink RX2 45 "OptimaWorks$NetDesk" "arcs" "I"] ++ wsX20)
theorem iwsPX2_treeArcs_in2 : ∀ w ∈ wsX20, w ∈ wsPX2_treeArcs := fun _ h => List.mem_cons_of_mem _ (List.mem_append_right _ h)
set_option maxHeartbeats 4000000 in
set_option maxRecDepth 100000 in
/-- treeArcs() without arcs -/
theorem p_X2_treeArcs (l : Launch) (dC : Nat → ClassId) (dI : Nat → Nat → Nat) (d0 : Nat) (bb : Nat → Nat) (kd : Nat → ClassId) (sz : Nat) : Met l yX2_treeArcs wsPX2_treeArcs ({ frames := 0, cells := 0, slots := 0, locals := 0 }) (va_Pc [.ref d0] (fun U => U.heap.size = sz ∧ va_P (dC, dI) vwCl [(d0, .inr (2, [.int 0, .ref (bb 0), .ref (bb 1), .ref (bb 2), .ref (bb 3), .int 0, .ref (bb 4), .ref (bb 5), .ref (bb 6), .ref (bb 7), .ref (bb 8), .int 0, .ref (bb 9), .ref (bb 10)])), ((bb 5), .inl ((kd 5), 12, .inl (fun _ => 0)))] U.heap ∧ va_K (dC, dI) vwCl [((kd 5), .int)] U ∧ va_D (fun _ => True) [(d0, .inr (2, [.int 0, .ref (bb 0), .ref (bb 1), .ref (bb 2), .ref (bb 3), .int 0, .ref (bb 4), .ref (bb 5), .ref (bb 6), .ref (bb 7), .ref (bb 8), .int 0, .ref (bb 9), .ref (bb 10)])), ((bb 5), .inl ((kd 5), 12, .inl (fun _ => 0)))])) (va_Ql (fun (r : Int64) (u : Unit) => r = 0) (fun (u : Unit) t => va_P (dC, dI) vwCl [] t.heap ∧ va_K (dC, dI) vwCl [] t ∧ va_D (va_A [(d0, .inr (2, [.int 0, .ref (bb 0), .ref (bb 1), .ref (bb 2), .ref (bb 3), .int 0, .ref (bb 4), .ref (bb 5), .ref (bb 6), .ref (bb 7), .ref (bb 8), .int 0, .ref (bb 9), .ref (bb 10)])), ((bb 5), .inl ((kd 5), 12, .inl (fun _ => 0)))] sz) []) (va_A [(d0, .inr (2, [.int 0, .ref (bb 0), .ref (bb 1), .ref (bb 2), .ref (bb 3), .int 0, .ref (bb 4), .ref (bb 5), .ref (bb 6), .ref (bb 7), .ref (bb 8), .int 0, .ref (bb 9), .ref (bb 10)])), ((bb 5), .inl ((kd 5), 12, .inl (fun _ => 0)))] sz)) 0 0 (va_A [(d0, .inr (2, [.int 0, .ref (bb 0), .ref (bb 1), .ref (bb 2), .ref (bb 3), .int 0, .ref (bb 4), .ref (bb 5), .ref (bb 6), .ref (bb 7), .ref (bb 8), .int 0, .ref (bb 9), .ref (bb 10)])), ((bb 5), .inl ((kd 5), 12, .inl (fun _ => 0)))] sz) := by
  refine Met.ofW (cc := cX2_treeArcs) (maxL := 11) (ret := (some .long)) (by decide) rfl ?_
  intro p e s m args below meth c s₁ B hml hv
  obtain ⟨rfl, hsz, hP, hK, hD0⟩ := hv
  have hx := B.exec
  have hb := B.bytes
  have hr := B.returns
  have hts := atoms_spec (ws := wsPX2_treeArcs) B.pre
  have hown : s.vm.findClass RX2 = some m.cls := findClass_of_methodNamed B.named
  have hlocks := B.notSynchronized
  subst hsz
  have hD := hD0.self (sz := s.heap.size)
  generalize hAe : va_A [(d0, .inr (2, [.int 0, .ref (bb 0), .ref (bb 1), .ref (bb 2), .ref (bb 3), .int 0, .ref (bb 4), .ref (bb 5), .ref (bb 6), .ref (bb 7), .ref (bb 8), .int 0, .ref (bb 9), .ref (bb 10)])), ((bb 5), .inl ((kd 5), 12, .inl (fun _ => 0)))] s.heap.size = A at hD ⊢
  have hA : ∀ q : Nat, s.heap.size ≤ q → A q := fun q h => by rw [← hAe]; exact Or.inr h
  have hS : va_S A s.heap s.heap [] := va_S.rf
  have hP : va_P (dC, dI) vwCl [(d0, .inr (2, [.int 0, .ref (bb 0), .ref (bb 1), .ref (bb 2), .ref (bb 3), .int 0, .ref (bb 4), .ref (bb 5), .ref (bb 6), .ref (bb 7), .ref (bb 8), .int 0, .ref (bb 9), .ref (bb 10)])), ((bb 5), .inl ((kd 5), 12, .inl (fun _ => 0)))] s.heap := hP
  have hl := lv_entry ([.ref d0]) (n := 11) (Nat.le_of_ble_eq_true rfl)
  rw [lg_entry_eq]
  generalize (lg_sl ([.ref d0]) ++ List.replicate (11 - (lg_sl ([.ref d0])).length) Slot.unset).toArray = ls at hl ⊢
  have hl : lv_has ls 11 [(0, .ref d0)] := hl
  refine lv_lconst (v := 0) hx hb dX2_treeArcs_0 (by decide) ?_
  refine lv_lstore_n (lv' := [(1, .long 0), (0, .ref d0)]) hx hb dX2_treeArcs_1 rfl hl (by decide) rfl (fun ls hl => ?_)
  refine lv_lconst (v := 0) hx hb dX2_treeArcs_2 (by decide) ?_
  refine lv_lstore_n (lv' := [(3, .long 0), (1, .long 0), (0, .ref d0)]) hx hb dX2_treeArcs_3 rfl hl (by decide) rfl (fun ls hl => ?_)
  refine lv_aload_n hx hb dX2_treeArcs_4 rfl (lv_at hl 2 rfl) ?_
  refine va_get (D := (dC, dI)) (ci := 2) (v := .ref (bb 5)) (C := RX2) (T := TX2) (N := 14) hx hb hts iwsPX2_treeArcs_in2 hown hK hP 0 rfl rfl 7 (by decide) (hts (.fieldLink RX2 27 "OptimaWorks$NetDesk" "before" "[I") (by decide +kernel)) (fun _ h9 => h9) rfl dX2_treeArcs_5 ?_
  refine lv_astore (lv' := [(5, .ref (bb 5)), (3, .long 0), (1, .long 0), (0, .ref d0)]) hx hb dX2_treeArcs_8 hl (by decide) rfl (fun ls hl => ?_)
  refine lv_iconst (v := 0) hx hb dX2_treeArcs_10 (by decide) ?_
  refine lv_istore (lv' := [(6, .int 0), (5, .ref (bb 5)), (3, .long 0), (1, .long 0), (0, .ref d0)]) hx hb dX2_treeArcs_11 hl (by decide) rfl (fun ls hl => ?_)
  have hl := lv_sub hl [0, 1, 3, 2, 4] (l' := [(6, .int (nI 0)), (5, .ref (bb 5)), (1, .long 0), (3, .long 0), (0, .ref d0)]) rfl
  refine (fun (loop : ∀ (n9 : Nat) (i : Nat) (g : Nat → Int32) (H : Heap) (locs : List Loc) (ls : Array Slot), (i ≤ 12) →  (12 < i + n9) → va_P (dC, dI) vwCl [(d0, .inr (2, [.int 0, .ref (bb 0), .ref (bb 1), .ref (bb 2), .ref (bb 3), .int 0, .ref (bb 4), .ref (bb 5), .ref (bb 6), .ref (bb 7), .ref (bb 8), .int 0, .ref (bb 9), .ref (bb 10)])), ((bb 5), .inl ((kd 5), 12, .inl g))] H → va_D A [(d0, .inr (2, [.int 0, .ref (bb 0), .ref (bb 1), .ref (bb 2), .ref (bb 3), .int 0, .ref (bb 4), .ref (bb 5), .ref (bb 6), .ref (bb 7), .ref (bb 8), .int 0, .ref (bb 9), .ref (bb 10)])), ((bb 5), .inl ((kd 5), 12, .inl g))] → va_S A s.heap H locs → lv_has ls 11 [(6, .int (nI i)), (5, .ref (bb 5)), (1, .long 0), (3, .long 0), (0, .ref d0)] → W p l e _ s m _ below meth c H locs 0 0 _ (F0 m 13 ls [])) => loop (13) 0 (fun _ => 0) _ _ _ (by omega) (by omega) hP hD hS hl) ?_
  intro n9
  induction n9 with
  | zero => intro i g H locs ls hi hf9; exact False.elim (by omega)
  | succ n9 ih13 =>
    intro i g H locs ls hi hf13 hP hD hS hl
    refine lv_iload hx hb dX2_treeArcs_13 (lv_at hl 0 rfl) ?_
    refine lv_bipush (v := 12) hx hb dX2_treeArcs_15 (by decide) ?_
    refine lv_icmp_ge (tgt := 33) hx hb dX2_treeArcs_17 (by decide) (fun c_17 => ?_) (fun c_17 => ?_)
    · have t_17 : ((i : Nat) : Int) ≥ 12 := toI_ge c_17 (nI_toInt (by omega)) (by decide)
      refine lv_iconst (v := 0) hx hb dX2_treeArcs_33 (by decide) ?_
      refine lv_istore (lv' := [(6, .int 0), (5, .ref (bb 5)), (1, .long 0), (3, .long 0), (0, .ref d0)]) hx hb dX2_treeArcs_34 hl (by decide) rfl (fun ls hl => ?_)
      refine lv_iload hx hb dX2_treeArcs_36 (lv_at hl 0 rfl) ?_
      refine lv_aload_n hx hb dX2_treeArcs_38 rfl (lv_at hl 4 rfl) ?_
      refine va_get (D := (dC, dI)) (ci := 2) (v := .int 0) (C := RX2) (T := TX2) (N := 14) hx hb hts iwsPX2_treeArcs_in2 hown hK hP 0 rfl rfl 0 (by decide) (hts (.fieldLink RX2 45 "OptimaWorks$NetDesk" "arcs" "I") (by decide +kernel)) (fun _ h9 => h9) rfl dX2_treeArcs_39 ?_
      refine lv_icmp_ge (tgt := 144) hx hb dX2_treeArcs_42 (by decide) (fun _ => ?_) (fun c9 => absurd (by decide) c9)
      refine lv_lload_n hx hb dX2_treeArcs_144 rfl (lv_at hl 2 rfl) ?_
      refine W.widen (k := 0) (n := 0) (by decide +kernel) (by decide +kernel) ?_
      exact W.lret (v := 0) hx hb hr (fun t ht hW => ⟨⟨0, (), rfl, by (first | rfl | assumption | trivial | omega | (simp [c_17]; done) | (simp; omega)), by rw [ht]; exact hP.sub [] rfl, va_K.moved hW.alike (hK.sub [] rfl), hD.sub [] (by decide) rfl⟩, hS.F ht⟩) hS.2.2 dX2_treeArcs_145
    · have t_17 : ¬ ((i : Nat) : Int) ≥ 12 := toI_nge c_17 (nI_toInt (by omega)) (by decide)
      refine lv_aload hx hb dX2_treeArcs_20 (lv_at hl 1 rfl) ?_
      refine lv_iload hx hb dX2_treeArcs_22 (lv_at hl 0 rfl) ?_
      refine lv_iload hx hb dX2_treeArcs_24 (lv_at hl 0 rfl) ?_
      refine va_iast hx hb hK hP hD hS 1 0 rfl rfl (vp_in_nI (show i < 12 by omega) (by omega)) dX2_treeArcs_26 (fun H locs hP hD hS => ?_)
      have hP : va_P (dC, dI) vwCl [(d0, .inr (2, [.int 0, .ref (bb 0), .ref (bb 1), .ref (bb 2), .ref (bb 3), .int 0, .ref (bb 4), .ref (bb 5), .ref (bb 6), .ref (bb 7), .ref (bb 8), .int 0, .ref (bb 9), .ref (bb 10)])), ((bb 5), .inl ((kd 5), 12, .inl (upd g ((nI i)).toNatClampNeg (nI i))))] H := hP
      have hD : va_D A [(d0, .inr (2, [.int 0, .ref (bb 0), .ref (bb 1), .ref (bb 2), .ref (bb 3), .int 0, .ref (bb 4), .ref (bb 5), .ref (bb 6), .ref (bb 7), .ref (bb 8), .int 0, .ref (bb 9), .ref (bb 10)])), ((bb 5), .inl ((kd 5), 12, .inl (upd g ((nI i)).toNatClampNeg (nI i))))] := hD
      refine lv_iinc (v := (nI (i + 1))) (lv' := [(6, .int (nI (i + 1))), (5, .ref (bb 5)), (1, .long 0), (3, .long 0), (0, .ref d0)]) hx hb dX2_treeArcs_27 hl (k := 0) rfl (nI_add i 1) (by decide) rfl (fun ls hl => ?_)
      refine lv_goto (tgt := 13) hx hb dX2_treeArcs_30 (by decide) ?_
      have hl := lv_sub hl [0, 1, 2, 3, 4] (l' := [(6, .int (nI (i + 1))), (5, .ref (bb 5)), (1, .long 0), (3, .long 0), (0, .ref d0)]) rfl
      exact ih13 (i + 1) (upd g ((nI i)).toNatClampNeg (nI i)) _ _ _ (by omega) (by omega) hP hD hS hl
theorem dX11_tree_0 : decode cX11_tree 0 = .ok (.aload_n 0, 1) := by decide +kernel
theorem dX11_tree_1 : decode cX11_tree 1 = .ok (.invokevirtual 425, 3) := by decide +kernel
theorem dX11_tree_4 : decode cX11_tree 4 = .ok (.invokevirtual 452, 3) := by decide +kernel
theorem dX11_tree_7 : decode cX11_tree 7 = .ok (.lreturn, 1) := by decide +kernel
def wsPX11_tree : List Cond := .code yX11_tree cX11_tree 1 (some .long) :: ([] ++ (wsV RX11 425 RX11 yX11_theNets wsPX11_theNets) ++ (wsV RX11 452 RX2 yX2_treeArcs wsPX2_treeArcs))
theorem gwsPX11_tree_0 : GoodIn wsPX11_tree (wsV RX11 425 RX11 yX11_theNets wsPX11_theNets) := goodIn_sub (fun _ h => List.mem_cons_of_mem _ (List.mem_append_left _ (List.mem_append_right _ h))) (by decide +kernel)
theorem gwsPX11_tree_1 : GoodIn wsPX11_tree (wsV RX11 452 RX2 yX2_treeArcs wsPX2_treeArcs) := goodIn_sub (fun _ h => List.mem_cons_of_mem _ (List.mem_append_right _ h)) (by decide +kernel)
set_option maxHeartbeats 4000000 in
set_option maxRecDepth 100000 in
/-- tree() -/
theorem p_X11_tree (l : Launch) (dC : Nat → ClassId) (dI : Nat → Nat → Nat) (h0 : Nat) (a : Nat → Nat) (sz : Nat) : Met l yX11_tree wsPX11_tree ({ frames := 3, cells := 12, slots := 1478, locals := 52 }) (va_Pc [.ref h0] (fun U => U.heap.size = sz ∧ va_P (dC, dI) vwCl [(h0, .inr (11, [.ref (a 0), .ref (a 1), .ref (a 3), .ref (a 14), .int 0, .null, .null, .null, .null, .null, .null]))] U.heap ∧ va_K (dC, dI) vwCl [] U ∧ va_D (fun _ => True) [(h0, .inr (11, [.ref (a 0), .ref (a 1), .ref (a 3), .ref (a 14), .int 0, .null, .null, .null, .null, .null, .null]))] ∧ va_Nw (.methodLinkNest RX11 421 yX2_init RX11) U)) (va_Ql (fun (r : Int64) (u : Unit) => r = 0) (fun (u : Unit) t => va_P (dC, dI) vwCl [] t.heap ∧ va_K (dC, dI) vwCl [] t ∧ va_D (va_A [(h0, .inr (11, [.ref (a 0), .ref (a 1), .ref (a 3), .ref (a 14), .int 0, .null, .null, .null, .null, .null, .null]))] sz) []) (va_A [(h0, .inr (11, [.ref (a 0), .ref (a 1), .ref (a 3), .ref (a 14), .int 0, .null, .null, .null, .null, .null, .null]))] sz)) 12 1478 (va_A [(h0, .inr (11, [.ref (a 0), .ref (a 1), .ref (a 3), .ref (a 14), .int 0, .null, .null, .null, .null, .null, .null]))] sz) := by
  refine Met.ofW (cc := cX11_tree) (maxL := 1) (ret := (some .long)) (by decide) rfl ?_
  intro p e s m args below meth c s₁ B hml hv
  obtain ⟨rfl, hsz, hP, hK, hD0, hnX11_421⟩ := hv
  have hx := B.exec
  have hb := B.bytes
  have hr := B.returns
  have hts := atoms_spec (ws := wsPX11_tree) B.pre
  have hown : s.vm.findClass RX11 = some m.cls := findClass_of_methodNamed B.named
  have hlocks := B.notSynchronized
  subst hsz
  have hD := hD0.self (sz := s.heap.size)
  generalize hAe : va_A [(h0, .inr (11, [.ref (a 0), .ref (a 1), .ref (a 3), .ref (a 14), .int 0, .null, .null, .null, .null, .null, .null]))] s.heap.size = A at hD ⊢
  have hA : ∀ q : Nat, s.heap.size ≤ q → A q := fun q h => by rw [← hAe]; exact Or.inr h
  have hS : va_S A s.heap s.heap [] := va_S.rf
  have hP : va_P (dC, dI) vwCl [(h0, .inr (11, [.ref (a 0), .ref (a 1), .ref (a 3), .ref (a 14), .int 0, .null, .null, .null, .null, .null, .null]))] s.heap := hP
  have hl := lv_entry ([.ref h0]) (n := 1) (Nat.le_of_ble_eq_true rfl)
  rw [lg_entry_eq]
  generalize (lg_sl ([.ref h0]) ++ List.replicate (1 - (lg_sl ([.ref h0])).length) Slot.unset).toArray = ls at hl ⊢
  have hl : lv_has ls 1 [(0, .ref h0)] := hl
  refine lv_aload_n hx hb dX11_tree_0 rfl (lv_at hl 0 rfl) ?_
  have hPc := hP.sub (ws' := [(h0, .inr (11, [.ref (a 0), .ref (a 1), .ref (a 3), .ref (a 14), .int 0, .null, .null, .null, .null, .null, .null]))]) [0] rfl
  have hDc := hD.sub (ws' := [(h0, .inr (11, [.ref (a 0), .ref (a 1), .ref (a 3), .ref (a 14), .int 0, .null, .null, .null, .null, .null, .null]))]) [0] (by decide) rfl
  have hKc := hK.sub (tys' := []) [] rfl
  have hFc := va_free (wc := [(h0, .inr (11, [.ref (a 0), .ref (a 1), .ref (a 3), .ref (a 14), .int 0, .null, .null, .null, .null, .null, .null]))]) hD hS hA [0] rfl
  refine va_callr (va_runV (As := []) (rest := []) ⟨hx, hb, hml, hown, hts⟩ (p_X11_theNets l dC dI h0 a s.heap.size) (cwV 0 hts gwsPX11_tree_0 rfl rfl rfl (by decide +kernel) ⟨by decide +kernel, by decide +kernel⟩) ⟨fun a U g mk q => by obtain ⟨q0, q1, qP, qK, qD, qhnX11_421⟩ := q; exact ⟨q0, q1, qP, va_K.moved (u := U) (U := U.calling g mk a) (Vm.Alike.refl U.vm) qK, qD, va_Nw.same (u := U) (U := U.calling g mk a) rfl rfl qhnX11_421⟩, va_recv hKc hPc (ci := 11) (q0 := 0) rfl rfl, fun U hU9 hW => ⟨rfl, by rw [hU9], by rw [hU9]; exact hPc, va_K.moved hW.alike hKc, hDc.weaken (fun _ _ _ _ => trivial), va_Nw.warmM hW hnX11_421⟩⟩ rfl rfl hl.1 rfl (lv_room (Nat.le_of_ble_eq_true rfl)) dX11_tree_1 ⟨by decide +kernel, by decide +kernel⟩) hS (fun q _ h => hFc q h) hFc (fun u a1 t H1 locs ht hvm hw hB hz1 hk1 hS => ?_)
  obtain ⟨aa1, kk1⟩ := u
  obtain ⟨hP1, hK1, hD1⟩ := hB
  rw [ht] at hP1
  have hK1 := va_K.moved hvm.symm hK1
  obtain ⟨hP, hD⟩ := va_join (wr := []) (w1 := [(h0, .inr (11, [.ref (a 0), .ref (a 1), .ref (a 3), .ref (a 14), .int 0, .null, .null, .null, .null, .null, .ref a1])), (a1, .inr (2, [.int 0, .ref (aa1 0), .ref (aa1 1), .ref (aa1 2), .ref (aa1 3), .int 0, .ref (aa1 4), .ref (aa1 5), .ref (aa1 6), .ref (aa1 7), .ref (aa1 8), .int 0, .ref (aa1 9), .ref (aa1 10)])), ((aa1 0), .inl ((kk1 0), 40, .inl (fun _ => 0))), ((aa1 1), .inl ((kk1 1), 40, .inl (fun _ => 0))), ((aa1 2), .inl ((kk1 2), 40, .inl (fun _ => 0))), ((aa1 3), .inl ((kk1 3), 40, .inl (fun _ => 0))), ((aa1 4), .inl ((kk1 4), 144, .inl (fun _ => 0))), ((aa1 5), .inl ((kk1 5), 12, .inl (fun _ => 0))), ((aa1 6), .inl ((kk1 6), 40, .inl (fun _ => 0))), ((aa1 7), .inl ((kk1 7), 12, .inl (fun _ => 0))), ((aa1 8), .inl ((kk1 8), 8, .inl (fun _ => 0))), ((aa1 9), .inl ((kk1 9), 64, .inl (fun _ => 0))), ((aa1 10), .inl ((kk1 10), 1024, .inl (fun _ => 0)))]) hP hD [0] [] rfl rfl (by decide) (by decide) hk1 hFc hP1 hD1
  have hK := hK.app hK1
  generalize H1 = H at hP hS ⊢
  have hP : va_P (dC, dI) vwCl [(h0, .inr (11, [.ref (a 0), .ref (a 1), .ref (a 3), .ref (a 14), .int 0, .null, .null, .null, .null, .null, .ref a1])), (a1, .inr (2, [.int 0, .ref (aa1 0), .ref (aa1 1), .ref (aa1 2), .ref (aa1 3), .int 0, .ref (aa1 4), .ref (aa1 5), .ref (aa1 6), .ref (aa1 7), .ref (aa1 8), .int 0, .ref (aa1 9), .ref (aa1 10)])), ((aa1 0), .inl ((kk1 0), 40, .inl (fun _ => 0))), ((aa1 1), .inl ((kk1 1), 40, .inl (fun _ => 0))), ((aa1 2), .inl ((kk1 2), 40, .inl (fun _ => 0))), ((aa1 3), .inl ((kk1 3), 40, .inl (fun _ => 0))), ((aa1 4), .inl ((kk1 4), 144, .inl (fun _ => 0))), ((aa1 5), .inl ((kk1 5), 12, .inl (fun _ => 0))), ((aa1 6), .inl ((kk1 6), 40, .inl (fun _ => 0))), ((aa1 7), .inl ((kk1 7), 12, .inl (fun _ => 0))), ((aa1 8), .inl ((kk1 8), 8, .inl (fun _ => 0))), ((aa1 9), .inl ((kk1 9), 64, .inl (fun _ => 0))), ((aa1 10), .inl ((kk1 10), 1024, .inl (fun _ => 0)))] H := hP
  have hD : va_D A [(h0, .inr (11, [.ref (a 0), .ref (a 1), .ref (a 3), .ref (a 14), .int 0, .null, .null, .null, .null, .null, .ref a1])), (a1, .inr (2, [.int 0, .ref (aa1 0), .ref (aa1 1), .ref (aa1 2), .ref (aa1 3), .int 0, .ref (aa1 4), .ref (aa1 5), .ref (aa1 6), .ref (aa1 7), .ref (aa1 8), .int 0, .ref (aa1 9), .ref (aa1 10)])), ((aa1 0), .inl ((kk1 0), 40, .inl (fun _ => 0))), ((aa1 1), .inl ((kk1 1), 40, .inl (fun _ => 0))), ((aa1 2), .inl ((kk1 2), 40, .inl (fun _ => 0))), ((aa1 3), .inl ((kk1 3), 40, .inl (fun _ => 0))), ((aa1 4), .inl ((kk1 4), 144, .inl (fun _ => 0))), ((aa1 5), .inl ((kk1 5), 12, .inl (fun _ => 0))), ((aa1 6), .inl ((kk1 6), 40, .inl (fun _ => 0))), ((aa1 7), .inl ((kk1 7), 12, .inl (fun _ => 0))), ((aa1 8), .inl ((kk1 8), 8, .inl (fun _ => 0))), ((aa1 9), .inl ((kk1 9), 64, .inl (fun _ => 0))), ((aa1 10), .inl ((kk1 10), 1024, .inl (fun _ => 0)))] := hD
  have hK : va_K (dC, dI) vwCl [((kk1 0), .int), ((kk1 1), .int), ((kk1 2), .int), ((kk1 3), .int), ((kk1 4), .int), ((kk1 5), .int), ((kk1 6), .int), ((kk1 7), .int), ((kk1 8), .int), ((kk1 9), .int), ((kk1 10), .int)] s := hK
  refine W.widen (k := 12) (n := 1478) (by decide +kernel) (by decide +kernel) ?_
  have hPc := hP.sub (ws' := [(a1, .inr (2, [.int 0, .ref (aa1 0), .ref (aa1 1), .ref (aa1 2), .ref (aa1 3), .int 0, .ref (aa1 4), .ref (aa1 5), .ref (aa1 6), .ref (aa1 7), .ref (aa1 8), .int 0, .ref (aa1 9), .ref (aa1 10)])), ((aa1 5), .inl ((kk1 5), 12, .inl (fun _ => 0)))]) [1, 7] rfl
  have hDc := hD.sub (ws' := [(a1, .inr (2, [.int 0, .ref (aa1 0), .ref (aa1 1), .ref (aa1 2), .ref (aa1 3), .int 0, .ref (aa1 4), .ref (aa1 5), .ref (aa1 6), .ref (aa1 7), .ref (aa1 8), .int 0, .ref (aa1 9), .ref (aa1 10)])), ((aa1 5), .inl ((kk1 5), 12, .inl (fun _ => 0)))]) [1, 7] (by decide) rfl
  have hKc := hK.sub (tys' := [((kk1 5), .int)]) [5] rfl
  have hFc := va_free (wc := [(a1, .inr (2, [.int 0, .ref (aa1 0), .ref (aa1 1), .ref (aa1 2), .ref (aa1 3), .int 0, .ref (aa1 4), .ref (aa1 5), .ref (aa1 6), .ref (aa1 7), .ref (aa1 8), .int 0, .ref (aa1 9), .ref (aa1 10)])), ((aa1 5), .inl ((kk1 5), 12, .inl (fun _ => 0)))]) hD hS hA [1, 7] rfl
  refine va_calll (va_runV (As := []) (rest := []) ⟨hx, hb, hml, hown, hts⟩ (p_X2_treeArcs l dC dI a1 aa1 kk1 H.size) (cwV 0 hts gwsPX11_tree_1 rfl rfl rfl (by decide +kernel) ⟨by decide +kernel, by decide +kernel⟩) ⟨fun a U g mk q => by obtain ⟨q0, q1, qP, qK, qD⟩ := q; exact ⟨q0, q1, qP, va_K.moved (u := U) (U := U.calling g mk a) (Vm.Alike.refl U.vm) qK, qD⟩, va_recv hKc hPc (ci := 2) (q0 := 0) rfl rfl, fun U hU9 hW => ⟨rfl, by rw [hU9], by rw [hU9]; exact hPc, va_K.moved hW.alike hKc, hDc.weaken (fun _ _ _ _ => trivial)⟩⟩ rfl rfl hl.1 rfl (lv_room (Nat.le_of_ble_eq_true rfl)) dX11_tree_4 ⟨by decide +kernel, by decide +kernel⟩) hS (fun q _ h => hFc q h) hFc (fun r4 u t H1 locs ht hvm hw hB hz1 hk1 hS => ?_)
  obtain ⟨hP1, hK1, hD1⟩ := hB
  rw [ht] at hP1
  have hK1 := va_K.moved hvm.symm hK1
  obtain ⟨hP, hD⟩ := va_join (wr := [(h0, .inr (11, [.ref (a 0), .ref (a 1), .ref (a 3), .ref (a 14), .int 0, .null, .null, .null, .null, .null, .ref a1])), ((aa1 0), .inl ((kk1 0), 40, .inl (fun _ => 0))), ((aa1 1), .inl ((kk1 1), 40, .inl (fun _ => 0))), ((aa1 2), .inl ((kk1 2), 40, .inl (fun _ => 0))), ((aa1 3), .inl ((kk1 3), 40, .inl (fun _ => 0))), ((aa1 4), .inl ((kk1 4), 144, .inl (fun _ => 0))), ((aa1 6), .inl ((kk1 6), 40, .inl (fun _ => 0))), ((aa1 7), .inl ((kk1 7), 12, .inl (fun _ => 0))), ((aa1 8), .inl ((kk1 8), 8, .inl (fun _ => 0))), ((aa1 9), .inl ((kk1 9), 64, .inl (fun _ => 0))), ((aa1 10), .inl ((kk1 10), 1024, .inl (fun _ => 0)))]) (w1 := []) hP hD [1, 7] [0, 2, 3, 4, 5, 6, 8, 9, 10, 11, 12] rfl rfl (by decide) (by decide) hk1 hFc hP1 hD1
  generalize H1 = H at hP hS ⊢
  have hP : va_P (dC, dI) vwCl [(h0, .inr (11, [.ref (a 0), .ref (a 1), .ref (a 3), .ref (a 14), .int 0, .null, .null, .null, .null, .null, .ref a1])), ((aa1 0), .inl ((kk1 0), 40, .inl (fun _ => 0))), ((aa1 1), .inl ((kk1 1), 40, .inl (fun _ => 0))), ((aa1 2), .inl ((kk1 2), 40, .inl (fun _ => 0))), ((aa1 3), .inl ((kk1 3), 40, .inl (fun _ => 0))), ((aa1 4), .inl ((kk1 4), 144, .inl (fun _ => 0))), ((aa1 6), .inl ((kk1 6), 40, .inl (fun _ => 0))), ((aa1 7), .inl ((kk1 7), 12, .inl (fun _ => 0))), ((aa1 8), .inl ((kk1 8), 8, .inl (fun _ => 0))), ((aa1 9), .inl ((kk1 9), 64, .inl (fun _ => 0))), ((aa1 10), .inl ((kk1 10), 1024, .inl (fun _ => 0)))] H := hP
  have hD : va_D A [(h0, .inr (11, [.ref (a 0), .ref (a 1), .ref (a 3), .ref (a 14), .int 0, .null, .null, .null, .null, .null, .ref a1])), ((aa1 0), .inl ((kk1 0), 40, .inl (fun _ => 0))), ((aa1 1), .inl ((kk1 1), 40, .inl (fun _ => 0))), ((aa1 2), .inl ((kk1 2), 40, .inl (fun _ => 0))), ((aa1 3), .inl ((kk1 3), 40, .inl (fun _ => 0))), ((aa1 4), .inl ((kk1 4), 144, .inl (fun _ => 0))), ((aa1 6), .inl ((kk1 6), 40, .inl (fun _ => 0))), ((aa1 7), .inl ((kk1 7), 12, .inl (fun _ => 0))), ((aa1 8), .inl ((kk1 8), 8, .inl (fun _ => 0))), ((aa1 9), .inl ((kk1 9), 64, .inl (fun _ => 0))), ((aa1 10), .inl ((kk1 10), 1024, .inl (fun _ => 0)))] := hD
  obtain rfl := hw
  refine W.widen (k := 12) (n := 1478) (by decide +kernel) (by decide +kernel) ?_
  exact W.lret (v := 0) hx hb hr (fun t ht hW => ⟨⟨0, (), rfl, by (first | rfl | assumption | trivial | omega | (simp []; done) | (simp; omega)), by rw [ht]; exact hP.sub [] rfl, va_K.moved hW.alike (hK.sub [] rfl), hD.sub [] (by decide) rfl⟩, hS.F ht⟩) hS.2.2 dX11_tree_7

theorem dL_holder_0 : decode cL_holder 0 = .ok (.aload_n 2, 1) := by decide +kernel
theorem dL_holder_1 : decode cL_holder 1 = .ok (.iconst 0, 1) := by decide +kernel
theorem dL_holder_2 : decode cL_holder 2 = .ok (.aload_n 0, 1) := by decide +kernel
theorem dL_holder_3 : decode cL_holder 3 = .ok (.iload_n 1, 1) := by decide +kernel
theorem dL_holder_4 : decode cL_holder 4 = .ok (.invokevirtual 60, 3) := by decide +kernel
theorem dL_holder_7 : decode cL_holder 7 = .ok (.i2l, 1) := by decide +kernel
theorem dL_holder_8 : decode cL_holder 8 = .ok (.lastore, 1) := by decide +kernel
theorem dL_holder_9 : decode cL_holder 9 = .ok (.goto 9, 3) := by decide +kernel
theorem dL_holder_12 : decode cL_holder 12 = .ok (.astore_n 3, 1) := by decide +kernel
theorem dL_holder_13 : decode cL_holder 13 = .ok (.iconst 1, 1) := by decide +kernel
theorem dL_holder_14 : decode cL_holder 14 = .ok (.ireturn, 1) := by decide +kernel
theorem dL_holder_18 : decode cL_holder 18 = .ok (.iconst 0, 1) := by decide +kernel
theorem dL_holder_19 : decode cL_holder 19 = .ok (.ireturn, 1) := by decide +kernel
def wsPL_holder : List Cond := .codeWith yL_holder cL_holder 4 (some .int) [(0, 9, 12, 13), (0, 9, 15, 32)] :: ([.classLink RL 13 "java/lang/IllegalArgumentException"] ++ (wsV RL 60 RX11 yX11_holder wsPX11_holder))
theorem gwsPL_holder_0 : GoodIn wsPL_holder (wsV RL 60 RX11 yX11_holder wsPX11_holder) := goodIn_sub (fun _ h => List.mem_cons_of_mem _ (List.mem_append_right _ h)) (by decide +kernel)
set_option maxHeartbeats 4000000 in
set_option maxRecDepth 100000 in
/-- the law's holder, on a fresh object -/
theorem p_L_holder (l : Launch) (hst : l.stackTraces = false) (dC : Nat → ClassId) (dI : Nat → Nat → Nat) (h0 : Nat) (a : Nat → Nat) (o : Nat) (kO : ClassId) (hb9 : Int32) (sz : Nat) : Met l yL_holder wsPL_holder ({ frames := 7, cells := 16, slots := 1414, locals := 102 }) (va_Pc [.ref h0, .int hb9, .ref o] (fun U => U.heap.size = sz ∧ va_P (dC, dI) vwCl [(h0, .inr (11, [.ref (a 0), .ref (a 1), .ref (a 3), .ref (a 14), .int 0, .null, .null, .null, .null, .null, .null])), (o, .inl (kO, 1, .inr (.inl (fun _ => 0))))] U.heap ∧ va_K (dC, dI) vwCl [(kO, .long)] U ∧ va_D (fun _ => True) [(h0, .inr (11, [.ref (a 0), .ref (a 1), .ref (a 3), .ref (a 14), .int 0, .null, .null, .null, .null, .null, .null])), (o, .inl (kO, 1, .inr (.inl (fun _ => 0))))] ∧ vx_Zq Bundle.tN "UNASSIGNED_STACK" Bundle.steD (va_A [(h0, .inr (11, [.ref (a 0), .ref (a 1), .ref (a 3), .ref (a 14), .int 0, .null, .null, .null, .null, .null, .null])), (o, .inl (kO, 1, .inr (.inl (fun _ => 0))))] sz) U U.heap ∧ vx_Zq Bundle.tN "SUPPRESSED_SENTINEL" Bundle.listD (va_A [(h0, .inr (11, [.ref (a 0), .ref (a 1), .ref (a 3), .ref (a 14), .int 0, .null, .null, .null, .null, .null, .null])), (o, .inl (kO, 1, .inr (.inl (fun _ => 0))))] sz) U U.heap ∧ (∀ w ∈ ngX11_79, va_Nw w U) ∧ va_Nw (.methodLinkNest RX11 343 yX7_init RX11) U)) (va_Qi (fun (r : Int32) (u : Nat → Int64) => (r = 0 ∧ (1 ≤ (hb9).toInt ∧ (hb9).toInt ≤ 65535) ∧ (u 0 = 0)) ∨ (r = 1 ∧ ((hb9).toInt < 1 ∨ 65535 < (hb9).toInt))) (fun (u : Nat → Int64) t => va_P (dC, dI) vwCl [(o, .inl (kO, 1, .inr (.inl u)))] t.heap ∧ va_K (dC, dI) vwCl [] t ∧ va_D (va_A [(h0, .inr (11, [.ref (a 0), .ref (a 1), .ref (a 3), .ref (a 14), .int 0, .null, .null, .null, .null, .null, .null])), (o, .inl (kO, 1, .inr (.inl (fun _ => 0))))] sz) [(o, .inl (kO, 1, .inr (.inl u)))]) (va_A [(h0, .inr (11, [.ref (a 0), .ref (a 1), .ref (a 3), .ref (a 14), .int 0, .null, .null, .null, .null, .null, .null])), (o, .inl (kO, 1, .inr (.inl (fun _ => 0))))] sz)) 16 1414 (va_A [(h0, .inr (11, [.ref (a 0), .ref (a 1), .ref (a 3), .ref (a 14), .int 0, .null, .null, .null, .null, .null, .null])), (o, .inl (kO, 1, .inr (.inl (fun _ => 0))))] sz) := by
  refine ofWC (hh := [(0, 9, 12, 13), (0, 9, 15, 32)]) (cc := cL_holder) (maxL := 4) (ret := (some .int)) (by decide) rfl ?_
  intro p e s m args below meth c s₁ B hml hv
  obtain ⟨rfl, hsz, hP, hK, hD0, hU, hN, hngX11_79, hnX11_343⟩ := hv
  have hx := B.exec
  have hb := B.bytes
  have hr := B.returns
  have hts := atoms_spec (ws := wsPL_holder) B.pre
  have hown : s.vm.findClass RL = some m.cls := findClass_of_methodNamed B.named
  have hlocks := B.notSynchronized
  have htb : c.exceptionTable.toList = tableOf [(0, 9, 12, 13), (0, 9, 15, 32)] := vx_table (x := yL_holder) B (hts _ List.mem_cons_self)
  subst hsz
  have hD := hD0.self (sz := s.heap.size)
  generalize hAe : va_A [(h0, .inr (11, [.ref (a 0), .ref (a 1), .ref (a 3), .ref (a 14), .int 0, .null, .null, .null, .null, .null, .null])), (o, .inl (kO, 1, .inr (.inl (fun _ => 0))))] s.heap.size = A at hD hU hN ⊢
  have hA : ∀ q : Nat, s.heap.size ≤ q → A q := fun q h => by rw [← hAe]; exact Or.inr h
  have hS : va_S A s.heap s.heap [] := va_S.rf
  have hP : va_P (dC, dI) vwCl [(h0, .inr (11, [.ref (a 0), .ref (a 1), .ref (a 3), .ref (a 14), .int 0, .null, .null, .null, .null, .null, .null])), (o, .inl (kO, 1, .inr (.inl (fun _ => 0))))] s.heap := hP
  have hl := lv_entry ([.ref h0, .int hb9, .ref o]) (n := 4) (Nat.le_of_ble_eq_true rfl)
  rw [lg_entry_eq]
  generalize (lg_sl ([.ref h0, .int hb9, .ref o]) ++ List.replicate (4 - (lg_sl ([.ref h0, .int hb9, .ref o])).length) Slot.unset).toArray = ls at hl ⊢
  have hl : lv_has ls 4 [(0, .ref h0), (1, .int hb9), (2, .ref o)] := hl
  refine lv_aload_n hx hb dL_holder_0 rfl (lv_at hl 2 rfl) ?_
  refine lv_iconst (v := 0) hx hb dL_holder_1 (by decide) ?_
  refine lv_aload_n hx hb dL_holder_2 rfl (lv_at hl 0 rfl) ?_
  refine lv_iload_n hx hb dL_holder_3 rfl (lv_at hl 1 rfl) ?_
  have hPc := hP.sub (ws' := [(h0, .inr (11, [.ref (a 0), .ref (a 1), .ref (a 3), .ref (a 14), .int 0, .null, .null, .null, .null, .null, .null]))]) [0] rfl
  have hDc := hD.sub (ws' := [(h0, .inr (11, [.ref (a 0), .ref (a 1), .ref (a 3), .ref (a 14), .int 0, .null, .null, .null, .null, .null, .null]))]) [0] (by decide) rfl
  have hKc := hK.sub (tys' := []) [] rfl
  have hFc := va_free (wc := [(h0, .inr (11, [.ref (a 0), .ref (a 1), .ref (a 3), .ref (a 14), .int 0, .null, .null, .null, .null, .null, .null]))]) hD hS hA [0] rfl
  refine vx_calli (vx_runV (As := [.int hb9]) (rest := [.int 0, .ref o]) ⟨hx, hb, hml, hown, hts⟩ (p_X11_holder l hst dC dI h0 a hb9 s.heap.size) (cwV 1 hts gwsPL_holder_0 rfl rfl rfl (by decide +kernel) ⟨by decide +kernel, by decide +kernel⟩) ⟨fun a U g mk q => by obtain ⟨q0, q1, qP, qK, qD, qU, qN, qngX11_79, qhnX11_343⟩ := q; exact ⟨q0, q1, qP, va_K.moved (u := U) (U := U.calling g mk a) (Vm.Alike.refl U.vm) qK, qD, vx_Zq.moved (u := U) (U := U.calling g mk a) (Vm.Alike.refl U.vm) qU, vx_Zq.moved (u := U) (U := U.calling g mk a) (Vm.Alike.refl U.vm) qN, fun w h => va_Nw.same (u := U) (U := U.calling g mk a) (ngX11_79_ot w h) rfl (qngX11_79 w h), va_Nw.same (u := U) (U := U.calling g mk a) rfl rfl qhnX11_343⟩, va_recv hKc hPc (ci := 11) (q0 := 0) rfl rfl, fun U hU9 hW => ⟨rfl, by rw [hU9], by rw [hU9]; exact hPc, va_K.moved hW.alike hKc, hDc.weaken (fun _ _ _ _ => trivial), by rw [hU9]; exact ((hU.kept (fun a h1 h2 => hS.2.1 a h1 h2)).narrow hFc).moved hW.alike, by rw [hU9]; exact ((hN.kept (fun a h1 h2 => hS.2.1 a h1 h2)).narrow hFc).moved hW.alike, fun w h => cd_warm (ngX11_79_cd w h) hW (hngX11_79 w h), va_Nw.warmM hW hnX11_343⟩⟩ rfl rfl hl.1 rfl (lv_room (Nat.le_of_ble_eq_true rfl)) dL_holder_4 ⟨by decide +kernel, by decide +kernel⟩) hS (fun q _ h => hFc q h) hFc (fun q _ h => hFc q h) (fun E ce q9 u t H1 locs1 ht hvm hw hB hz1 hk1 hS hc1 hc2 hc3 => ?_) (fun r4 u t H1 locs ht hvm hw hB hz1 hk1 hS => ?_)
  · have hE : E = u := hB
    subst hE
    obtain ⟨hP, hD⟩ := va_join (wr := [(o, .inl (kO, 1, .inr (.inl (fun _ => 0))))]) (w1 := []) hP hD [0] [1] rfl rfl (by decide) (by decide) hk1 hFc nilP nilD
    have hP : va_P (dC, dI) vwCl [(o, .inl (kO, 1, .inr (.inl (fun _ => 0))))] H1 := hP
    have hD : va_D A [(o, .inl (kO, 1, .inr (.inl (fun _ => 0))))] := hD
    refine vx_widen (k := 16) (n := 1414) (by decide +kernel) (by decide +kernel) ?_
    obtain ⟨hu, hxc⟩ := hw
    subst hu
    refine vx_catch (own := RL) (name := "java/lang/IllegalArgumentException") hown [] ⟨0, 9, 12, 13⟩ [⟨0, 9, 15, 32⟩] (by rw [htb]; rfl) (fun z hz => absurd hz List.not_mem_nil) (by decide) (by decide) (hts (.classLink RL 13 "java/lang/IllegalArgumentException") (by decide +kernel)) (va_Nw.use rfl (hngX11_79 (.castable "java/lang/IllegalArgumentException" "java/lang/IllegalArgumentException") (by decide +kernel))) hc1 hc2 hc3 ?_
    generalize H1 = H at hP hS hc1 ⊢
    refine lv_astore_n (lv' := [(3, .ref q9), (0, .ref h0), (1, .int hb9), (2, .ref o)]) hx hb dL_holder_12 rfl hl (by decide) rfl (fun ls hl => ?_)
    refine lv_iconst (v := 1) hx hb dL_holder_13 (by decide) ?_
    refine W.widen (k := 16) (n := 1414) (by decide +kernel) (by decide +kernel) ?_
    exact W.iret (v := 1) hx hb hr (fun t ht hW => ⟨⟨1, (fun _ => 0), rfl, by first | (left; (refine ⟨?_, ?_, ?_⟩ <;> (first | rfl | assumption | trivial | omega | (simp []; done) | (simp; omega)))) | (right; (refine ⟨?_, ?_⟩ <;> (first | rfl | assumption | trivial | omega | (simp []; done) | (simp; omega)))), by rw [ht]; exact hP.sub [0] rfl, va_K.moved hW.alike (hK.sub [] rfl), hD.sub [0] (by decide) rfl⟩, hS.F ht⟩) hS.2.2 dL_holder_14
  obtain ⟨hP1, hK1, hD1⟩ := hB
  rw [ht] at hP1
  have hK1 := va_K.moved hvm.symm hK1
  obtain ⟨hP, hD⟩ := va_join (wr := [(o, .inl (kO, 1, .inr (.inl (fun _ => 0))))]) (w1 := []) hP hD [0] [1] rfl rfl (by decide) (by decide) hk1 hFc hP1 hD1
  generalize H1 = H at hP hS ⊢
  have hP : va_P (dC, dI) vwCl [(o, .inl (kO, 1, .inr (.inl (fun _ => 0))))] H := hP
  have hD : va_D A [(o, .inl (kO, 1, .inr (.inl (fun _ => 0))))] := hD
  refine W.widen (k := 16) (n := 1414) (by decide +kernel) (by decide +kernel) ?_
  obtain ⟨rfl, f4_0⟩ := hw
  refine lv_i2l hx hb dL_holder_7 rfl ?_
  refine lv_topl (fun y1 hy1 => ?_)
  obtain rfl : 0 = y1 := (hy1.trans (by decide)).symm
  refine va_last hx hb hK hP hD hS 0 0 rfl rfl (show ¬ ((0 : Int32) < 0 ∨ 1 ≤ (0 : Int32).toNatClampNeg) by decide) dL_holder_8 (fun H locs hP hD hS => ?_)
  have hP : va_P (dC, dI) vwCl [(o, .inl (kO, 1, .inr (.inl (vp_updL (fun _ => 0) (0 : Int32).toNatClampNeg 0))))] H := hP
  have hD : va_D A [(o, .inl (kO, 1, .inr (.inl (vp_updL (fun _ => 0) (0 : Int32).toNatClampNeg 0))))] := hD
  refine lv_goto (tgt := 18) hx hb dL_holder_9 (by decide) ?_
  refine lv_iconst (v := 0) hx hb dL_holder_18 (by decide) ?_
  refine W.widen (k := 16) (n := 1414) (by decide +kernel) (by decide +kernel) ?_
  exact W.iret (v := 0) hx hb hr (fun t ht hW => ⟨⟨0, (vp_updL (fun _ => 0) (0 : Int32).toNatClampNeg 0), rfl, by first | (left; (refine ⟨?_, ?_, ?_⟩ <;> (first | rfl | assumption | trivial | omega | (simp []; done) | (simp; omega)))) | (right; (refine ⟨?_, ?_⟩ <;> (first | rfl | assumption | trivial | omega | (simp []; done) | (simp; omega)))), by rw [ht]; exact hP.sub [0] rfl, va_K.moved hW.alike (hK.sub [] rfl), hD.sub [0] (by decide) rfl⟩, hS.F ht⟩) hS.2.2 dL_holder_19
theorem dL_clause_0 : decode cL_clause 0 = .ok (.aload 4, 2) := by decide +kernel
theorem dL_clause_2 : decode cL_clause 2 = .ok (.iconst 0, 1) := by decide +kernel
theorem dL_clause_3 : decode cL_clause 3 = .ok (.aload_n 0, 1) := by decide +kernel
theorem dL_clause_4 : decode cL_clause 4 = .ok (.iload_n 1, 1) := by decide +kernel
theorem dL_clause_5 : decode cL_clause 5 = .ok (.iload_n 2, 1) := by decide +kernel
theorem dL_clause_6 : decode cL_clause 6 = .ok (.iload_n 3, 1) := by decide +kernel
theorem dL_clause_7 : decode cL_clause 7 = .ok (.invokevirtual 67, 3) := by decide +kernel
theorem dL_clause_10 : decode cL_clause 10 = .ok (.i2l, 1) := by decide +kernel
theorem dL_clause_11 : decode cL_clause 11 = .ok (.lastore, 1) := by decide +kernel
theorem dL_clause_12 : decode cL_clause 12 = .ok (.goto 11, 3) := by decide +kernel
theorem dL_clause_15 : decode cL_clause 15 = .ok (.astore 5, 2) := by decide +kernel
theorem dL_clause_17 : decode cL_clause 17 = .ok (.iconst 1, 1) := by decide +kernel
theorem dL_clause_18 : decode cL_clause 18 = .ok (.ireturn, 1) := by decide +kernel
theorem dL_clause_23 : decode cL_clause 23 = .ok (.iconst 0, 1) := by decide +kernel
theorem dL_clause_24 : decode cL_clause 24 = .ok (.ireturn, 1) := by decide +kernel
def wsPL_clause : List Cond := .codeWith yL_clause cL_clause 6 (some .int) [(0, 12, 15, 13), (0, 12, 19, 32)] :: ([.classLink RL 13 "java/lang/IllegalArgumentException"] ++ (wsV RL 67 RX11 yX11_clause wsPX11_clause))
theorem gwsPL_clause_0 : GoodIn wsPL_clause (wsV RL 67 RX11 yX11_clause wsPX11_clause) := goodIn_sub (fun _ h => List.mem_cons_of_mem _ (List.mem_append_right _ h)) (by decide +kernel)
set_option maxHeartbeats 4000000 in
set_option maxRecDepth 100000 in
/-- the law's clause, on a fresh object -/
theorem p_L_clause (l : Launch) (hst : l.stackTraces = false) (dC : Nat → ClassId) (dI : Nat → Nat → Nat) (h0 : Nat) (a : Nat → Nat) (o : Nat) (kO : ClassId) (qy : Int32) (qn : Int32) (qw : Int32) (sz : Nat) : Met l yL_clause wsPL_clause ({ frames := 7, cells := 7, slots := 8277, locals := 105 }) (va_Pc [.ref h0, .int qy, .int qn, .int qw, .ref o] (fun U => U.heap.size = sz ∧ va_P (dC, dI) vwCl [(h0, .inr (11, [.ref (a 0), .ref (a 1), .ref (a 3), .ref (a 14), .int 0, .null, .null, .null, .null, .null, .null])), (o, .inl (kO, 1, .inr (.inl (fun _ => 0))))] U.heap ∧ va_K (dC, dI) vwCl [(kO, .long)] U ∧ va_D (fun _ => True) [(h0, .inr (11, [.ref (a 0), .ref (a 1), .ref (a 3), .ref (a 14), .int 0, .null, .null, .null, .null, .null, .null])), (o, .inl (kO, 1, .inr (.inl (fun _ => 0))))] ∧ vx_Zq Bundle.tN "UNASSIGNED_STACK" Bundle.steD (va_A [(h0, .inr (11, [.ref (a 0), .ref (a 1), .ref (a 3), .ref (a 14), .int 0, .null, .null, .null, .null, .null, .null])), (o, .inl (kO, 1, .inr (.inl (fun _ => 0))))] sz) U U.heap ∧ vx_Zq Bundle.tN "SUPPRESSED_SENTINEL" Bundle.listD (va_A [(h0, .inr (11, [.ref (a 0), .ref (a 1), .ref (a 3), .ref (a 14), .int 0, .null, .null, .null, .null, .null, .null])), (o, .inl (kO, 1, .inr (.inl (fun _ => 0))))] sz) U U.heap ∧ (∀ w ∈ ngX11_79, va_Nw w U) ∧ va_Nw (.methodLinkNest RX11 392 yX0_init RX11) U)) (va_Qi (fun (r : Int32) (u : Nat → Int64) => (r = 0 ∧ (0 ≤ (qy).toInt ∧ (qy).toInt < 4096 ∧ 0 ≤ (qn).toInt ∧ (qn).toInt < 4096 ∧ ¬ (qy ||| qn).toInt = 0 ∧ (qy &&& qn).toInt = 0 ∧ 0 ≤ (qw).toInt ∧ (qw).toInt ≤ 1000) ∧ (u 0 = 0)) ∨ (r = 1 ∧ ((qy).toInt < 0 ∨ 4096 ≤ (qy).toInt ∨ (qn).toInt < 0 ∨ 4096 ≤ (qn).toInt ∨ (qy ||| qn).toInt = 0 ∨ ¬ (qy &&& qn).toInt = 0 ∨ (qw).toInt < 0 ∨ 1000 < (qw).toInt))) (fun (u : Nat → Int64) t => va_P (dC, dI) vwCl [(o, .inl (kO, 1, .inr (.inl u)))] t.heap ∧ va_K (dC, dI) vwCl [] t ∧ va_D (va_A [(h0, .inr (11, [.ref (a 0), .ref (a 1), .ref (a 3), .ref (a 14), .int 0, .null, .null, .null, .null, .null, .null])), (o, .inl (kO, 1, .inr (.inl (fun _ => 0))))] sz) [(o, .inl (kO, 1, .inr (.inl u)))]) (va_A [(h0, .inr (11, [.ref (a 0), .ref (a 1), .ref (a 3), .ref (a 14), .int 0, .null, .null, .null, .null, .null, .null])), (o, .inl (kO, 1, .inr (.inl (fun _ => 0))))] sz)) 7 8277 (va_A [(h0, .inr (11, [.ref (a 0), .ref (a 1), .ref (a 3), .ref (a 14), .int 0, .null, .null, .null, .null, .null, .null])), (o, .inl (kO, 1, .inr (.inl (fun _ => 0))))] sz) := by
  refine ofWC (hh := [(0, 12, 15, 13), (0, 12, 19, 32)]) (cc := cL_clause) (maxL := 6) (ret := (some .int)) (by decide) rfl ?_
  intro p e s m args below meth c s₁ B hml hv
  obtain ⟨rfl, hsz, hP, hK, hD0, hU, hN, hngX11_79, hnX11_392⟩ := hv
  have hx := B.exec
  have hb := B.bytes
  have hr := B.returns
  have hts := atoms_spec (ws := wsPL_clause) B.pre
  have hown : s.vm.findClass RL = some m.cls := findClass_of_methodNamed B.named
  have hlocks := B.notSynchronized
  have htb : c.exceptionTable.toList = tableOf [(0, 12, 15, 13), (0, 12, 19, 32)] := vx_table (x := yL_clause) B (hts _ List.mem_cons_self)
  subst hsz
  have hD := hD0.self (sz := s.heap.size)
  generalize hAe : va_A [(h0, .inr (11, [.ref (a 0), .ref (a 1), .ref (a 3), .ref (a 14), .int 0, .null, .null, .null, .null, .null, .null])), (o, .inl (kO, 1, .inr (.inl (fun _ => 0))))] s.heap.size = A at hD hU hN ⊢
  have hA : ∀ q : Nat, s.heap.size ≤ q → A q := fun q h => by rw [← hAe]; exact Or.inr h
  have hS : va_S A s.heap s.heap [] := va_S.rf
  have hP : va_P (dC, dI) vwCl [(h0, .inr (11, [.ref (a 0), .ref (a 1), .ref (a 3), .ref (a 14), .int 0, .null, .null, .null, .null, .null, .null])), (o, .inl (kO, 1, .inr (.inl (fun _ => 0))))] s.heap := hP
  have hl := lv_entry ([.ref h0, .int qy, .int qn, .int qw, .ref o]) (n := 6) (Nat.le_of_ble_eq_true rfl)
  rw [lg_entry_eq]
  generalize (lg_sl ([.ref h0, .int qy, .int qn, .int qw, .ref o]) ++ List.replicate (6 - (lg_sl ([.ref h0, .int qy, .int qn, .int qw, .ref o])).length) Slot.unset).toArray = ls at hl ⊢
  have hl : lv_has ls 6 [(0, .ref h0), (1, .int qy), (2, .int qn), (3, .int qw), (4, .ref o)] := hl
  refine lv_aload hx hb dL_clause_0 (lv_at hl 4 rfl) ?_
  refine lv_iconst (v := 0) hx hb dL_clause_2 (by decide) ?_
  refine lv_aload_n hx hb dL_clause_3 rfl (lv_at hl 0 rfl) ?_
  refine lv_iload_n hx hb dL_clause_4 rfl (lv_at hl 1 rfl) ?_
  refine lv_iload_n hx hb dL_clause_5 rfl (lv_at hl 2 rfl) ?_
  refine lv_iload_n hx hb dL_clause_6 rfl (lv_at hl 3 rfl) ?_
  have hPc := hP.sub (ws' := [(h0, .inr (11, [.ref (a 0), .ref (a 1), .ref (a 3), .ref (a 14), .int 0, .null, .null, .null, .null, .null, .null]))]) [0] rfl
  have hDc := hD.sub (ws' := [(h0, .inr (11, [.ref (a 0), .ref (a 1), .ref (a 3), .ref (a 14), .int 0, .null, .null, .null, .null, .null, .null]))]) [0] (by decide) rfl
  have hKc := hK.sub (tys' := []) [] rfl
  have hFc := va_free (wc := [(h0, .inr (11, [.ref (a 0), .ref (a 1), .ref (a 3), .ref (a 14), .int 0, .null, .null, .null, .null, .null, .null]))]) hD hS hA [0] rfl
  refine vx_calli (vx_runV (As := [.int qy, .int qn, .int qw]) (rest := [.int 0, .ref o]) ⟨hx, hb, hml, hown, hts⟩ (p_X11_clause l hst dC dI h0 a qy qn qw s.heap.size) (cwV 3 hts gwsPL_clause_0 rfl rfl rfl (by decide +kernel) ⟨by decide +kernel, by decide +kernel⟩) ⟨fun a U g mk q => by obtain ⟨q0, q1, qP, qK, qD, qU, qN, qngX11_79, qhnX11_392⟩ := q; exact ⟨q0, q1, qP, va_K.moved (u := U) (U := U.calling g mk a) (Vm.Alike.refl U.vm) qK, qD, vx_Zq.moved (u := U) (U := U.calling g mk a) (Vm.Alike.refl U.vm) qU, vx_Zq.moved (u := U) (U := U.calling g mk a) (Vm.Alike.refl U.vm) qN, fun w h => va_Nw.same (u := U) (U := U.calling g mk a) (ngX11_79_ot w h) rfl (qngX11_79 w h), va_Nw.same (u := U) (U := U.calling g mk a) rfl rfl qhnX11_392⟩, va_recv hKc hPc (ci := 11) (q0 := 0) rfl rfl, fun U hU9 hW => ⟨rfl, by rw [hU9], by rw [hU9]; exact hPc, va_K.moved hW.alike hKc, hDc.weaken (fun _ _ _ _ => trivial), by rw [hU9]; exact ((hU.kept (fun a h1 h2 => hS.2.1 a h1 h2)).narrow hFc).moved hW.alike, by rw [hU9]; exact ((hN.kept (fun a h1 h2 => hS.2.1 a h1 h2)).narrow hFc).moved hW.alike, fun w h => cd_warm (ngX11_79_cd w h) hW (hngX11_79 w h), va_Nw.warmM hW hnX11_392⟩⟩ rfl rfl hl.1 rfl (lv_room (Nat.le_of_ble_eq_true rfl)) dL_clause_7 ⟨by decide +kernel, by decide +kernel⟩) hS (fun q _ h => hFc q h) hFc (fun q _ h => hFc q h) (fun E ce q9 u t H1 locs1 ht hvm hw hB hz1 hk1 hS hc1 hc2 hc3 => ?_) (fun r7 u t H1 locs ht hvm hw hB hz1 hk1 hS => ?_)
  · have hE : E = u := hB
    subst hE
    obtain ⟨hP, hD⟩ := va_join (wr := [(o, .inl (kO, 1, .inr (.inl (fun _ => 0))))]) (w1 := []) hP hD [0] [1] rfl rfl (by decide) (by decide) hk1 hFc nilP nilD
    have hP : va_P (dC, dI) vwCl [(o, .inl (kO, 1, .inr (.inl (fun _ => 0))))] H1 := hP
    have hD : va_D A [(o, .inl (kO, 1, .inr (.inl (fun _ => 0))))] := hD
    refine vx_widen (k := 7) (n := 8277) (by decide +kernel) (by decide +kernel) ?_
    obtain ⟨hu, hxc⟩ := hw
    subst hu
    refine vx_catch (own := RL) (name := "java/lang/IllegalArgumentException") hown [] ⟨0, 12, 15, 13⟩ [⟨0, 12, 19, 32⟩] (by rw [htb]; rfl) (fun z hz => absurd hz List.not_mem_nil) (by decide) (by decide) (hts (.classLink RL 13 "java/lang/IllegalArgumentException") (by decide +kernel)) (va_Nw.use rfl (hngX11_79 (.castable "java/lang/IllegalArgumentException" "java/lang/IllegalArgumentException") (by decide +kernel))) hc1 hc2 hc3 ?_
    generalize H1 = H at hP hS hc1 ⊢
    refine lv_astore (lv' := [(5, .ref q9), (0, .ref h0), (1, .int qy), (2, .int qn), (3, .int qw), (4, .ref o)]) hx hb dL_clause_15 hl (by decide) rfl (fun ls hl => ?_)
    refine lv_iconst (v := 1) hx hb dL_clause_17 (by decide) ?_
    refine W.widen (k := 7) (n := 8277) (by decide +kernel) (by decide +kernel) ?_
    exact W.iret (v := 1) hx hb hr (fun t ht hW => ⟨⟨1, (fun _ => 0), rfl, by first | (left; (refine ⟨?_, ?_, ?_⟩ <;> (first | rfl | assumption | trivial | omega | (simp []; done) | (simp; omega)))) | (right; (refine ⟨?_, ?_⟩ <;> (first | rfl | assumption | trivial | omega | (simp []; done) | (simp; omega)))), by rw [ht]; exact hP.sub [0] rfl, va_K.moved hW.alike (hK.sub [] rfl), hD.sub [0] (by decide) rfl⟩, hS.F ht⟩) hS.2.2 dL_clause_18
  obtain ⟨hP1, hK1, hD1⟩ := hB
  rw [ht] at hP1
  have hK1 := va_K.moved hvm.symm hK1
  obtain ⟨hP, hD⟩ := va_join (wr := [(o, .inl (kO, 1, .inr (.inl (fun _ => 0))))]) (w1 := []) hP hD [0] [1] rfl rfl (by decide) (by decide) hk1 hFc hP1 hD1
  generalize H1 = H at hP hS ⊢
  have hP : va_P (dC, dI) vwCl [(o, .inl (kO, 1, .inr (.inl (fun _ => 0))))] H := hP
  have hD : va_D A [(o, .inl (kO, 1, .inr (.inl (fun _ => 0))))] := hD
  refine W.widen (k := 7) (n := 8277) (by decide +kernel) (by decide +kernel) ?_
  obtain ⟨rfl, f7_0⟩ := hw
  refine lv_i2l hx hb dL_clause_10 rfl ?_
  refine lv_topl (fun y1 hy1 => ?_)
  obtain rfl : 0 = y1 := (hy1.trans (by decide)).symm
  refine va_last hx hb hK hP hD hS 0 0 rfl rfl (show ¬ ((0 : Int32) < 0 ∨ 1 ≤ (0 : Int32).toNatClampNeg) by decide) dL_clause_11 (fun H locs hP hD hS => ?_)
  have hP : va_P (dC, dI) vwCl [(o, .inl (kO, 1, .inr (.inl (vp_updL (fun _ => 0) (0 : Int32).toNatClampNeg 0))))] H := hP
  have hD : va_D A [(o, .inl (kO, 1, .inr (.inl (vp_updL (fun _ => 0) (0 : Int32).toNatClampNeg 0))))] := hD
  refine lv_goto (tgt := 23) hx hb dL_clause_12 (by decide) ?_
  refine lv_iconst (v := 0) hx hb dL_clause_23 (by decide) ?_
  refine W.widen (k := 7) (n := 8277) (by decide +kernel) (by decide +kernel) ?_
  exact W.iret (v := 0) hx hb hr (fun t ht hW => ⟨⟨0, (vp_updL (fun _ => 0) (0 : Int32).toNatClampNeg 0), rfl, by first | (left; (refine ⟨?_, ?_, ?_⟩ <;> (first | rfl | assumption | trivial | omega | (simp []; done) | (simp; omega)))) | (right; (refine ⟨?_, ?_⟩ <;> (first | rfl | assumption | trivial | omega | (simp []; done) | (simp; omega)))), by rw [ht]; exact hP.sub [0] rfl, va_K.moved hW.alike (hK.sub [] rfl), hD.sub [0] (by decide) rfl⟩, hS.F ht⟩) hS.2.2 dL_clause_24
theorem dL_arc_0 : decode cL_arc 0 = .ok (.aload 5, 2) := by decide +kernel
theorem dL_arc_2 : decode cL_arc 2 = .ok (.iconst 0, 1) := by decide +kernel
theorem dL_arc_3 : decode cL_arc 3 = .ok (.aload_n 0, 1) := by decide +kernel
theorem dL_arc_4 : decode cL_arc 4 = .ok (.iload_n 1, 1) := by decide +kernel
theorem dL_arc_5 : decode cL_arc 5 = .ok (.iload_n 2, 1) := by decide +kernel
theorem dL_arc_6 : decode cL_arc 6 = .ok (.iload_n 3, 1) := by decide +kernel
theorem dL_arc_7 : decode cL_arc 7 = .ok (.iload 4, 2) := by decide +kernel
theorem dL_arc_9 : decode cL_arc 9 = .ok (.invokevirtual 70, 3) := by decide +kernel
theorem dL_arc_12 : decode cL_arc 12 = .ok (.i2l, 1) := by decide +kernel
theorem dL_arc_13 : decode cL_arc 13 = .ok (.lastore, 1) := by decide +kernel
theorem dL_arc_14 : decode cL_arc 14 = .ok (.goto 11, 3) := by decide +kernel
theorem dL_arc_17 : decode cL_arc 17 = .ok (.astore 6, 2) := by decide +kernel
theorem dL_arc_19 : decode cL_arc 19 = .ok (.iconst 1, 1) := by decide +kernel
theorem dL_arc_20 : decode cL_arc 20 = .ok (.ireturn, 1) := by decide +kernel
theorem dL_arc_25 : decode cL_arc 25 = .ok (.iconst 0, 1) := by decide +kernel
theorem dL_arc_26 : decode cL_arc 26 = .ok (.ireturn, 1) := by decide +kernel
def wsPL_arc : List Cond := .codeWith yL_arc cL_arc 7 (some .int) [(0, 14, 17, 13), (0, 14, 21, 32)] :: ([.classLink RL 13 "java/lang/IllegalArgumentException"] ++ (wsV RL 70 RX11 yX11_arc wsPX11_arc))
theorem gwsPL_arc_0 : GoodIn wsPL_arc (wsV RL 70 RX11 yX11_arc wsPX11_arc) := goodIn_sub (fun _ h => List.mem_cons_of_mem _ (List.mem_append_right _ h)) (by decide +kernel)
set_option maxHeartbeats 4000000 in
set_option maxRecDepth 100000 in
/-- the law's arc, on a fresh object -/
theorem p_L_arc (l : Launch) (hst : l.stackTraces = false) (dC : Nat → ClassId) (dI : Nat → Nat → Nat) (h0 : Nat) (a : Nat → Nat) (o : Nat) (kO : ClassId) (qf : Int32) (qt : Int32) (qr : Int32) (qc : Int32) (sz : Nat) : Met l yL_arc wsPL_arc ({ frames := 7, cells := 13, slots := 1484, locals := 106 }) (va_Pc [.ref h0, .int qf, .int qt, .int qr, .int qc, .ref o] (fun U => U.heap.size = sz ∧ va_P (dC, dI) vwCl [(h0, .inr (11, [.ref (a 0), .ref (a 1), .ref (a 3), .ref (a 14), .int 0, .null, .null, .null, .null, .null, .null])), (o, .inl (kO, 1, .inr (.inl (fun _ => 0))))] U.heap ∧ va_K (dC, dI) vwCl [(kO, .long)] U ∧ va_D (fun _ => True) [(h0, .inr (11, [.ref (a 0), .ref (a 1), .ref (a 3), .ref (a 14), .int 0, .null, .null, .null, .null, .null, .null])), (o, .inl (kO, 1, .inr (.inl (fun _ => 0))))] ∧ vx_Zq Bundle.tN "UNASSIGNED_STACK" Bundle.steD (va_A [(h0, .inr (11, [.ref (a 0), .ref (a 1), .ref (a 3), .ref (a 14), .int 0, .null, .null, .null, .null, .null, .null])), (o, .inl (kO, 1, .inr (.inl (fun _ => 0))))] sz) U U.heap ∧ vx_Zq Bundle.tN "SUPPRESSED_SENTINEL" Bundle.listD (va_A [(h0, .inr (11, [.ref (a 0), .ref (a 1), .ref (a 3), .ref (a 14), .int 0, .null, .null, .null, .null, .null, .null])), (o, .inl (kO, 1, .inr (.inl (fun _ => 0))))] sz) U U.heap ∧ (∀ w ∈ ngX11_79, va_Nw w U) ∧ va_Nw (.methodLinkNest RX11 421 yX2_init RX11) U)) (va_Qi (fun (r : Int32) (u : Nat → Int64) => (r = 0 ∧ (0 ≤ (qf).toInt ∧ (qf).toInt < 12 ∧ 0 ≤ (qt).toInt ∧ (qt).toInt < 12 ∧ ¬ (qf).toInt = (qt).toInt ∧ 0 ≤ (qr).toInt ∧ (qr).toInt ≤ 1000 ∧ 0 ≤ (qc).toInt ∧ (qc).toInt ≤ 1000) ∧ (u 0 = 0)) ∨ (r = 1 ∧ ((qf).toInt < 0 ∨ 12 ≤ (qf).toInt ∨ (qt).toInt < 0 ∨ 12 ≤ (qt).toInt ∨ (qf).toInt = (qt).toInt ∨ (qr).toInt < 0 ∨ 1000 < (qr).toInt ∨ (qc).toInt < 0 ∨ 1000 < (qc).toInt))) (fun (u : Nat → Int64) t => va_P (dC, dI) vwCl [(o, .inl (kO, 1, .inr (.inl u)))] t.heap ∧ va_K (dC, dI) vwCl [] t ∧ va_D (va_A [(h0, .inr (11, [.ref (a 0), .ref (a 1), .ref (a 3), .ref (a 14), .int 0, .null, .null, .null, .null, .null, .null])), (o, .inl (kO, 1, .inr (.inl (fun _ => 0))))] sz) [(o, .inl (kO, 1, .inr (.inl u)))]) (va_A [(h0, .inr (11, [.ref (a 0), .ref (a 1), .ref (a 3), .ref (a 14), .int 0, .null, .null, .null, .null, .null, .null])), (o, .inl (kO, 1, .inr (.inl (fun _ => 0))))] sz)) 13 1484 (va_A [(h0, .inr (11, [.ref (a 0), .ref (a 1), .ref (a 3), .ref (a 14), .int 0, .null, .null, .null, .null, .null, .null])), (o, .inl (kO, 1, .inr (.inl (fun _ => 0))))] sz) := by
  refine ofWC (hh := [(0, 14, 17, 13), (0, 14, 21, 32)]) (cc := cL_arc) (maxL := 7) (ret := (some .int)) (by decide) rfl ?_
  intro p e s m args below meth c s₁ B hml hv
  obtain ⟨rfl, hsz, hP, hK, hD0, hU, hN, hngX11_79, hnX11_421⟩ := hv
  have hx := B.exec
  have hb := B.bytes
  have hr := B.returns
  have hts := atoms_spec (ws := wsPL_arc) B.pre
  have hown : s.vm.findClass RL = some m.cls := findClass_of_methodNamed B.named
  have hlocks := B.notSynchronized
  have htb : c.exceptionTable.toList = tableOf [(0, 14, 17, 13), (0, 14, 21, 32)] := vx_table (x := yL_arc) B (hts _ List.mem_cons_self)
  subst hsz
  have hD := hD0.self (sz := s.heap.size)
  generalize hAe : va_A [(h0, .inr (11, [.ref (a 0), .ref (a 1), .ref (a 3), .ref (a 14), .int 0, .null, .null, .null, .null, .null, .null])), (o, .inl (kO, 1, .inr (.inl (fun _ => 0))))] s.heap.size = A at hD hU hN ⊢
  have hA : ∀ q : Nat, s.heap.size ≤ q → A q := fun q h => by rw [← hAe]; exact Or.inr h
  have hS : va_S A s.heap s.heap [] := va_S.rf
  have hP : va_P (dC, dI) vwCl [(h0, .inr (11, [.ref (a 0), .ref (a 1), .ref (a 3), .ref (a 14), .int 0, .null, .null, .null, .null, .null, .null])), (o, .inl (kO, 1, .inr (.inl (fun _ => 0))))] s.heap := hP
  have hl := lv_entry ([.ref h0, .int qf, .int qt, .int qr, .int qc, .ref o]) (n := 7) (Nat.le_of_ble_eq_true rfl)
  rw [lg_entry_eq]
  generalize (lg_sl ([.ref h0, .int qf, .int qt, .int qr, .int qc, .ref o]) ++ List.replicate (7 - (lg_sl ([.ref h0, .int qf, .int qt, .int qr, .int qc, .ref o])).length) Slot.unset).toArray = ls at hl ⊢
  have hl : lv_has ls 7 [(0, .ref h0), (1, .int qf), (2, .int qt), (3, .int qr), (4, .int qc), (5, .ref o)] := hl
  refine lv_aload hx hb dL_arc_0 (lv_at hl 5 rfl) ?_
  refine lv_iconst (v := 0) hx hb dL_arc_2 (by decide) ?_
  refine lv_aload_n hx hb dL_arc_3 rfl (lv_at hl 0 rfl) ?_
  refine lv_iload_n hx hb dL_arc_4 rfl (lv_at hl 1 rfl) ?_
  refine lv_iload_n hx hb dL_arc_5 rfl (lv_at hl 2 rfl) ?_
  refine lv_iload_n hx hb dL_arc_6 rfl (lv_at hl 3 rfl) ?_
  refine lv_iload hx hb dL_arc_7 (lv_at hl 4 rfl) ?_
  have hPc := hP.sub (ws' := [(h0, .inr (11, [.ref (a 0), .ref (a 1), .ref (a 3), .ref (a 14), .int 0, .null, .null, .null, .null, .null, .null]))]) [0] rfl
  have hDc := hD.sub (ws' := [(h0, .inr (11, [.ref (a 0), .ref (a 1), .ref (a 3), .ref (a 14), .int 0, .null, .null, .null, .null, .null, .null]))]) [0] (by decide) rfl
  have hKc := hK.sub (tys' := []) [] rfl
  have hFc := va_free (wc := [(h0, .inr (11, [.ref (a 0), .ref (a 1), .ref (a 3), .ref (a 14), .int 0, .null, .null, .null, .null, .null, .null]))]) hD hS hA [0] rfl
  refine vx_calli (vx_runV (As := [.int qf, .int qt, .int qr, .int qc]) (rest := [.int 0, .ref o]) ⟨hx, hb, hml, hown, hts⟩ (p_X11_arc l hst dC dI h0 a qf qt qr qc s.heap.size) (cwV 4 hts gwsPL_arc_0 rfl rfl rfl (by decide +kernel) ⟨by decide +kernel, by decide +kernel⟩) ⟨fun a U g mk q => by obtain ⟨q0, q1, qP, qK, qD, qU, qN, qngX11_79, qhnX11_421⟩ := q; exact ⟨q0, q1, qP, va_K.moved (u := U) (U := U.calling g mk a) (Vm.Alike.refl U.vm) qK, qD, vx_Zq.moved (u := U) (U := U.calling g mk a) (Vm.Alike.refl U.vm) qU, vx_Zq.moved (u := U) (U := U.calling g mk a) (Vm.Alike.refl U.vm) qN, fun w h => va_Nw.same (u := U) (U := U.calling g mk a) (ngX11_79_ot w h) rfl (qngX11_79 w h), va_Nw.same (u := U) (U := U.calling g mk a) rfl rfl qhnX11_421⟩, va_recv hKc hPc (ci := 11) (q0 := 0) rfl rfl, fun U hU9 hW => ⟨rfl, by rw [hU9], by rw [hU9]; exact hPc, va_K.moved hW.alike hKc, hDc.weaken (fun _ _ _ _ => trivial), by rw [hU9]; exact ((hU.kept (fun a h1 h2 => hS.2.1 a h1 h2)).narrow hFc).moved hW.alike, by rw [hU9]; exact ((hN.kept (fun a h1 h2 => hS.2.1 a h1 h2)).narrow hFc).moved hW.alike, fun w h => cd_warm (ngX11_79_cd w h) hW (hngX11_79 w h), va_Nw.warmM hW hnX11_421⟩⟩ rfl rfl hl.1 rfl (lv_room (Nat.le_of_ble_eq_true rfl)) dL_arc_9 ⟨by decide +kernel, by decide +kernel⟩) hS (fun q _ h => hFc q h) hFc (fun q _ h => hFc q h) (fun E ce q9 u t H1 locs1 ht hvm hw hB hz1 hk1 hS hc1 hc2 hc3 => ?_) (fun r9 u t H1 locs ht hvm hw hB hz1 hk1 hS => ?_)
  · have hE : E = u := hB
    subst hE
    obtain ⟨hP, hD⟩ := va_join (wr := [(o, .inl (kO, 1, .inr (.inl (fun _ => 0))))]) (w1 := []) hP hD [0] [1] rfl rfl (by decide) (by decide) hk1 hFc nilP nilD
    have hP : va_P (dC, dI) vwCl [(o, .inl (kO, 1, .inr (.inl (fun _ => 0))))] H1 := hP
    have hD : va_D A [(o, .inl (kO, 1, .inr (.inl (fun _ => 0))))] := hD
    refine vx_widen (k := 13) (n := 1484) (by decide +kernel) (by decide +kernel) ?_
    obtain ⟨hu, hxc⟩ := hw
    subst hu
    refine vx_catch (own := RL) (name := "java/lang/IllegalArgumentException") hown [] ⟨0, 14, 17, 13⟩ [⟨0, 14, 21, 32⟩] (by rw [htb]; rfl) (fun z hz => absurd hz List.not_mem_nil) (by decide) (by decide) (hts (.classLink RL 13 "java/lang/IllegalArgumentException") (by decide +kernel)) (va_Nw.use rfl (hngX11_79 (.castable "java/lang/IllegalArgumentException" "java/lang/IllegalArgumentException") (by decide +kernel))) hc1 hc2 hc3 ?_
    generalize H1 = H at hP hS hc1 ⊢
    refine lv_astore (lv' := [(6, .ref q9), (0, .ref h0), (1, .int qf), (2, .int qt), (3, .int qr), (4, .int qc), (5, .ref o)]) hx hb dL_arc_17 hl (by decide) rfl (fun ls hl => ?_)
    refine lv_iconst (v := 1) hx hb dL_arc_19 (by decide) ?_
    refine W.widen (k := 13) (n := 1484) (by decide +kernel) (by decide +kernel) ?_
    exact W.iret (v := 1) hx hb hr (fun t ht hW => ⟨⟨1, (fun _ => 0), rfl, by first | (left; (refine ⟨?_, ?_, ?_⟩ <;> (first | rfl | assumption | trivial | omega | (simp []; done) | (simp; omega)))) | (right; (refine ⟨?_, ?_⟩ <;> (first | rfl | assumption | trivial | omega | (simp []; done) | (simp; omega)))), by rw [ht]; exact hP.sub [0] rfl, va_K.moved hW.alike (hK.sub [] rfl), hD.sub [0] (by decide) rfl⟩, hS.F ht⟩) hS.2.2 dL_arc_20
  obtain ⟨hP1, hK1, hD1⟩ := hB
  rw [ht] at hP1
  have hK1 := va_K.moved hvm.symm hK1
  obtain ⟨hP, hD⟩ := va_join (wr := [(o, .inl (kO, 1, .inr (.inl (fun _ => 0))))]) (w1 := []) hP hD [0] [1] rfl rfl (by decide) (by decide) hk1 hFc hP1 hD1
  generalize H1 = H at hP hS ⊢
  have hP : va_P (dC, dI) vwCl [(o, .inl (kO, 1, .inr (.inl (fun _ => 0))))] H := hP
  have hD : va_D A [(o, .inl (kO, 1, .inr (.inl (fun _ => 0))))] := hD
  refine W.widen (k := 13) (n := 1484) (by decide +kernel) (by decide +kernel) ?_
  obtain ⟨rfl, f9_0⟩ := hw
  refine lv_i2l hx hb dL_arc_12 rfl ?_
  refine lv_topl (fun y1 hy1 => ?_)
  obtain rfl : 0 = y1 := (hy1.trans (by decide)).symm
  refine va_last hx hb hK hP hD hS 0 0 rfl rfl (show ¬ ((0 : Int32) < 0 ∨ 1 ≤ (0 : Int32).toNatClampNeg) by decide) dL_arc_13 (fun H locs hP hD hS => ?_)
  have hP : va_P (dC, dI) vwCl [(o, .inl (kO, 1, .inr (.inl (vp_updL (fun _ => 0) (0 : Int32).toNatClampNeg 0))))] H := hP
  have hD : va_D A [(o, .inl (kO, 1, .inr (.inl (vp_updL (fun _ => 0) (0 : Int32).toNatClampNeg 0))))] := hD
  refine lv_goto (tgt := 25) hx hb dL_arc_14 (by decide) ?_
  refine lv_iconst (v := 0) hx hb dL_arc_25 (by decide) ?_
  refine W.widen (k := 13) (n := 1484) (by decide +kernel) (by decide +kernel) ?_
  exact W.iret (v := 0) hx hb hr (fun t ht hW => ⟨⟨0, (vp_updL (fun _ => 0) (0 : Int32).toNatClampNeg 0), rfl, by first | (left; (refine ⟨?_, ?_, ?_⟩ <;> (first | rfl | assumption | trivial | omega | (simp []; done) | (simp; omega)))) | (right; (refine ⟨?_, ?_⟩ <;> (first | rfl | assumption | trivial | omega | (simp []; done) | (simp; omega)))), by rw [ht]; exact hP.sub [0] rfl, va_K.moved hW.alike (hK.sub [] rfl), hD.sub [0] (by decide) rfl⟩, hS.F ht⟩) hS.2.2 dL_arc_26
theorem dL_greatest_0 : decode cL_greatest 0 = .ok (.aload_n 3, 1) := by decide +kernel
theorem dL_greatest_1 : decode cL_greatest 1 = .ok (.iconst 0, 1) := by decide +kernel
theorem dL_greatest_2 : decode cL_greatest 2 = .ok (.aload_n 0, 1) := by decide +kernel
theorem dL_greatest_3 : decode cL_greatest 3 = .ok (.iload_n 1, 1) := by decide +kernel
theorem dL_greatest_4 : decode cL_greatest 4 = .ok (.iload_n 2, 1) := by decide +kernel
theorem dL_greatest_5 : decode cL_greatest 5 = .ok (.invokevirtual 73, 3) := by decide +kernel
theorem dL_greatest_8 : decode cL_greatest 8 = .ok (.i2l, 1) := by decide +kernel
theorem dL_greatest_9 : decode cL_greatest 9 = .ok (.lastore, 1) := by decide +kernel
theorem dL_greatest_10 : decode cL_greatest 10 = .ok (.goto 11, 3) := by decide +kernel
theorem dL_greatest_13 : decode cL_greatest 13 = .ok (.astore 4, 2) := by decide +kernel
theorem dL_greatest_15 : decode cL_greatest 15 = .ok (.iconst 1, 1) := by decide +kernel
theorem dL_greatest_16 : decode cL_greatest 16 = .ok (.ireturn, 1) := by decide +kernel
theorem dL_greatest_17 : decode cL_greatest 17 = .ok (.astore 4, 2) := by decide +kernel
theorem dL_greatest_19 : decode cL_greatest 19 = .ok (.iconst 2, 1) := by decide +kernel
theorem dL_greatest_20 : decode cL_greatest 20 = .ok (.ireturn, 1) := by decide +kernel
theorem dL_greatest_21 : decode cL_greatest 21 = .ok (.iconst 0, 1) := by decide +kernel
theorem dL_greatest_22 : decode cL_greatest 22 = .ok (.ireturn, 1) := by decide +kernel
def wsPL_greatest : List Cond := .codeWith yL_greatest cL_greatest 5 (some .int) [(0, 10, 13, 19), (0, 10, 17, 13)] :: ([.classLink RL 19 "java/lang/IndexOutOfBoundsException", .classLink RL 13 "java/lang/IllegalArgumentException"] ++ (wsV RL 73 RX11 yX11_greatest wsPX11_greatest))
theorem gwsPL_greatest_0 : GoodIn wsPL_greatest (wsV RL 73 RX11 yX11_greatest wsPX11_greatest) := goodIn_sub (fun _ h => List.mem_cons_of_mem _ (List.mem_append_right _ h)) (by decide +kernel)
set_option maxHeartbeats 4000000 in
set_option maxRecDepth 100000 in
/-- the law's greatest, on a fresh object -/
theorem p_L_greatest (l : Launch) (hst : l.stackTraces = false) (dC : Nat → ClassId) (dI : Nat → Nat → Nat) (h0 : Nat) (a : Nat → Nat) (o : Nat) (kO : ClassId) (ns : Int32) (nt : Int32) (sz : Nat) : Met l yL_greatest wsPL_greatest ({ frames := 8, cells := 13, slots := 1484, locals := 124 }) (va_Pc [.ref h0, .int ns, .int nt, .ref o] (fun U => U.heap.size = sz ∧ va_P (dC, dI) vwCl [(h0, .inr (11, [.ref (a 0), .ref (a 1), .ref (a 3), .ref (a 14), .int 0, .null, .null, .null, .null, .null, .null])), (o, .inl (kO, 1, .inr (.inl (fun _ => 0))))] U.heap ∧ va_K (dC, dI) vwCl [(kO, .long)] U ∧ va_D (fun _ => True) [(h0, .inr (11, [.ref (a 0), .ref (a 1), .ref (a 3), .ref (a 14), .int 0, .null, .null, .null, .null, .null, .null])), (o, .inl (kO, 1, .inr (.inl (fun _ => 0))))] ∧ vx_Zq Bundle.tN "UNASSIGNED_STACK" Bundle.steD (va_A [(h0, .inr (11, [.ref (a 0), .ref (a 1), .ref (a 3), .ref (a 14), .int 0, .null, .null, .null, .null, .null, .null])), (o, .inl (kO, 1, .inr (.inl (fun _ => 0))))] sz) U U.heap ∧ vx_Zq Bundle.tN "SUPPRESSED_SENTINEL" Bundle.listD (va_A [(h0, .inr (11, [.ref (a 0), .ref (a 1), .ref (a 3), .ref (a 14), .int 0, .null, .null, .null, .null, .null, .null])), (o, .inl (kO, 1, .inr (.inl (fun _ => 0))))] sz) U U.heap ∧ (∀ w ∈ ngX11_79, va_Nw w U) ∧ (∀ w ∈ ngX11_95, va_Nw w U) ∧ va_Nw (.methodLinkNest RX11 421 yX2_init RX11) U ∧ va_Nc "java/lang/IllegalArgumentException" "java/lang/IndexOutOfBoundsException" U)) (va_Qi (fun (r : Int32) (u : Nat → Int64) => (r = 0 ∧ (0 ≤ (ns).toInt ∧ (ns).toInt < 12 ∧ 0 ≤ (nt).toInt ∧ (nt).toInt < 12 ∧ ¬ (ns).toInt = (nt).toInt) ∧ (u 0 = 0)) ∨ (r = 1 ∧ ((ns).toInt < 0 ∨ 12 ≤ (ns).toInt ∨ (nt).toInt < 0 ∨ 12 ≤ (nt).toInt)) ∨ (r = 2 ∧ (0 ≤ (ns).toInt ∧ (ns).toInt < 12 ∧ 0 ≤ (nt).toInt ∧ (nt).toInt < 12 ∧ (ns).toInt = (nt).toInt))) (fun (u : Nat → Int64) t => va_P (dC, dI) vwCl [(o, .inl (kO, 1, .inr (.inl u)))] t.heap ∧ va_K (dC, dI) vwCl [] t ∧ va_D (va_A [(h0, .inr (11, [.ref (a 0), .ref (a 1), .ref (a 3), .ref (a 14), .int 0, .null, .null, .null, .null, .null, .null])), (o, .inl (kO, 1, .inr (.inl (fun _ => 0))))] sz) [(o, .inl (kO, 1, .inr (.inl u)))]) (va_A [(h0, .inr (11, [.ref (a 0), .ref (a 1), .ref (a 3), .ref (a 14), .int 0, .null, .null, .null, .null, .null, .null])), (o, .inl (kO, 1, .inr (.inl (fun _ => 0))))] sz)) 13 1484 (va_A [(h0, .inr (11, [.ref (a 0), .ref (a 1), .ref (a 3), .ref (a 14), .int 0, .null, .null, .null, .null, .null, .null])), (o, .inl (kO, 1, .inr (.inl (fun _ => 0))))] sz) := by
  refine ofWC (hh := [(0, 10, 13, 19), (0, 10, 17, 13)]) (cc := cL_greatest) (maxL := 5) (ret := (some .int)) (by decide) rfl ?_
  intro p e s m args below meth c s₁ B hml hv
  obtain ⟨rfl, hsz, hP, hK, hD0, hU, hN, hngX11_79, hngX11_95, hnX11_421, hncAI⟩ := hv
  have hx := B.exec
  have hb := B.bytes
  have hr := B.returns
  have hts := atoms_spec (ws := wsPL_greatest) B.pre
  have hown : s.vm.findClass RL = some m.cls := findClass_of_methodNamed B.named
  have hlocks := B.notSynchronized
  have htb : c.exceptionTable.toList = tableOf [(0, 10, 13, 19), (0, 10, 17, 13)] := vx_table (x := yL_greatest) B (hts _ List.mem_cons_self)
  subst hsz
  have hD := hD0.self (sz := s.heap.size)
  generalize hAe : va_A [(h0, .inr (11, [.ref (a 0), .ref (a 1), .ref (a 3), .ref (a 14), .int 0, .null, .null, .null, .null, .null, .null])), (o, .inl (kO, 1, .inr (.inl (fun _ => 0))))] s.heap.size = A at hD hU hN ⊢
  have hA : ∀ q : Nat, s.heap.size ≤ q → A q := fun q h => by rw [← hAe]; exact Or.inr h
  have hS : va_S A s.heap s.heap [] := va_S.rf
  have hP : va_P (dC, dI) vwCl [(h0, .inr (11, [.ref (a 0), .ref (a 1), .ref (a 3), .ref (a 14), .int 0, .null, .null, .null, .null, .null, .null])), (o, .inl (kO, 1, .inr (.inl (fun _ => 0))))] s.heap := hP
  have hl := lv_entry ([.ref h0, .int ns, .int nt, .ref o]) (n := 5) (Nat.le_of_ble_eq_true rfl)
  rw [lg_entry_eq]
  generalize (lg_sl ([.ref h0, .int ns, .int nt, .ref o]) ++ List.replicate (5 - (lg_sl ([.ref h0, .int ns, .int nt, .ref o])).length) Slot.unset).toArray = ls at hl ⊢
  have hl : lv_has ls 5 [(0, .ref h0), (1, .int ns), (2, .int nt), (3, .ref o)] := hl
  refine lv_aload_n hx hb dL_greatest_0 rfl (lv_at hl 3 rfl) ?_
  refine lv_iconst (v := 0) hx hb dL_greatest_1 (by decide) ?_
  refine lv_aload_n hx hb dL_greatest_2 rfl (lv_at hl 0 rfl) ?_
  refine lv_iload_n hx hb dL_greatest_3 rfl (lv_at hl 1 rfl) ?_
  refine lv_iload_n hx hb dL_greatest_4 rfl (lv_at hl 2 rfl) ?_
  have hPc := hP.sub (ws' := [(h0, .inr (11, [.ref (a 0), .ref (a 1), .ref (a 3), .ref (a 14), .int 0, .null, .null, .null, .null, .null, .null]))]) [0] rfl
  have hDc := hD.sub (ws' := [(h0, .inr (11, [.ref (a 0), .ref (a 1), .ref (a 3), .ref (a 14), .int 0, .null, .null, .null, .null, .null, .null]))]) [0] (by decide) rfl
  have hKc := hK.sub (tys' := []) [] rfl
  have hFc := va_free (wc := [(h0, .inr (11, [.ref (a 0), .ref (a 1), .ref (a 3), .ref (a 14), .int 0, .null, .null, .null, .null, .null, .null]))]) hD hS hA [0] rfl
  refine vx_calli (vx_runV (As := [.int ns, .int nt]) (rest := [.int 0, .ref o]) ⟨hx, hb, hml, hown, hts⟩ (p_X11_greatest l hst dC dI h0 a ns nt s.heap.size) (cwV 2 hts gwsPL_greatest_0 rfl rfl rfl (by decide +kernel) ⟨by decide +kernel, by decide +kernel⟩) ⟨fun a U g mk q => by obtain ⟨q0, q1, qP, qK, qD, qU, qN, qngX11_79, qngX11_95, qhnX11_421⟩ := q; exact ⟨q0, q1, qP, va_K.moved (u := U) (U := U.calling g mk a) (Vm.Alike.refl U.vm) qK, qD, vx_Zq.moved (u := U) (U := U.calling g mk a) (Vm.Alike.refl U.vm) qU, vx_Zq.moved (u := U) (U := U.calling g mk a) (Vm.Alike.refl U.vm) qN, fun w h => va_Nw.same (u := U) (U := U.calling g mk a) (ngX11_79_ot w h) rfl (qngX11_79 w h), fun w h => va_Nw.same (u := U) (U := U.calling g mk a) (ngX11_95_ot w h) rfl (qngX11_95 w h), va_Nw.same (u := U) (U := U.calling g mk a) rfl rfl qhnX11_421⟩, va_recv hKc hPc (ci := 11) (q0 := 0) rfl rfl, fun U hU9 hW => ⟨rfl, by rw [hU9], by rw [hU9]; exact hPc, va_K.moved hW.alike hKc, hDc.weaken (fun _ _ _ _ => trivial), by rw [hU9]; exact ((hU.kept (fun a h1 h2 => hS.2.1 a h1 h2)).narrow hFc).moved hW.alike, by rw [hU9]; exact ((hN.kept (fun a h1 h2 => hS.2.1 a h1 h2)).narrow hFc).moved hW.alike, fun w h => cd_warm (ngX11_79_cd w h) hW (hngX11_79 w h), fun w h => cd_warm (ngX11_95_cd w h) hW (hngX11_95 w h), va_Nw.warmM hW hnX11_421⟩⟩ rfl rfl hl.1 rfl (lv_room (Nat.le_of_ble_eq_true rfl)) dL_greatest_5 ⟨by decide +kernel, by decide +kernel⟩) hS (fun q _ h => hFc q h) hFc (fun q _ h => hFc q h) (fun E ce q9 u t H1 locs1 ht hvm hw hB hz1 hk1 hS hc1 hc2 hc3 => ?_) (fun r5 u t H1 locs ht hvm hw hB hz1 hk1 hS => ?_)
  · have hE : E = u := hB
    subst hE
    obtain ⟨hP, hD⟩ := va_join (wr := [(o, .inl (kO, 1, .inr (.inl (fun _ => 0))))]) (w1 := []) hP hD [0] [1] rfl rfl (by decide) (by decide) hk1 hFc nilP nilD
    have hP : va_P (dC, dI) vwCl [(o, .inl (kO, 1, .inr (.inl (fun _ => 0))))] H1 := hP
    have hD : va_D A [(o, .inl (kO, 1, .inr (.inl (fun _ => 0))))] := hD
    refine vx_widen (k := 13) (n := 1484) (by decide +kernel) (by decide +kernel) ?_
    rcases hw with ⟨hu, hxc⟩ | ⟨hu, hxc⟩
    · subst hu
      refine vx_catch (own := RL) (name := "java/lang/IndexOutOfBoundsException") hown [] ⟨0, 10, 13, 19⟩ [⟨0, 10, 17, 13⟩] (by rw [htb]; rfl) (fun z hz => absurd hz List.not_mem_nil) (by decide) (by decide) (hts (.classLink RL 19 "java/lang/IndexOutOfBoundsException") (by decide +kernel)) (va_Nw.use rfl (hngX11_95 (.castable "java/lang/IndexOutOfBoundsException" "java/lang/IndexOutOfBoundsException") (by decide +kernel))) hc1 hc2 hc3 ?_
      generalize H1 = H at hP hS hc1 ⊢
      refine lv_astore (lv' := [(4, .ref q9), (0, .ref h0), (1, .int ns), (2, .int nt), (3, .ref o)]) hx hb dL_greatest_13 hl (by decide) rfl (fun ls hl => ?_)
      refine lv_iconst (v := 1) hx hb dL_greatest_15 (by decide) ?_
      refine W.widen (k := 13) (n := 1484) (by decide +kernel) (by decide +kernel) ?_
      exact W.iret (v := 1) hx hb hr (fun t ht hW => ⟨⟨1, (fun _ => 0), rfl, by first | (left; (refine ⟨?_, ?_, ?_⟩ <;> (first | rfl | assumption | trivial | omega | (simp []; done) | (simp; omega)))) | (right; left; (refine ⟨?_, ?_⟩ <;> (first | rfl | assumption | trivial | omega | (simp []; done) | (simp; omega)))) | (right; right; (refine ⟨?_, ?_⟩ <;> (first | rfl | assumption | trivial | omega | (simp []; done) | (simp; omega)))), by rw [ht]; exact hP.sub [0] rfl, va_K.moved hW.alike (hK.sub [] rfl), hD.sub [0] (by decide) rfl⟩, hS.F ht⟩) hS.2.2 dL_greatest_16
    · subst hu
      refine vx_catch (own := RL) (name := "java/lang/IllegalArgumentException") hown [⟨0, 10, 13, 19⟩] ⟨0, 10, 17, 13⟩ [] (by rw [htb]; rfl) (fun z hz => by rw [List.mem_singleton.mp hz]; exact Or.inr ⟨by decide, "java/lang/IndexOutOfBoundsException", (hts (.classLink RL 19 "java/lang/IndexOutOfBoundsException") (by decide +kernel)), hncAI⟩) (by decide) (by decide) (hts (.classLink RL 13 "java/lang/IllegalArgumentException") (by decide +kernel)) (va_Nw.use rfl (hngX11_79 (.castable "java/lang/IllegalArgumentException" "java/lang/IllegalArgumentException") (by decide +kernel))) hc1 hc2 hc3 ?_
      generalize H1 = H at hP hS hc1 ⊢
      refine lv_astore (lv' := [(4, .ref q9), (0, .ref h0), (1, .int ns), (2, .int nt), (3, .ref o)]) hx hb dL_greatest_17 hl (by decide) rfl (fun ls hl => ?_)
      refine lv_iconst (v := 2) hx hb dL_greatest_19 (by decide) ?_
      refine W.widen (k := 13) (n := 1484) (by decide +kernel) (by decide +kernel) ?_
      exact W.iret (v := 2) hx hb hr (fun t ht hW => ⟨⟨2, (fun _ => 0), rfl, by first | (left; (refine ⟨?_, ?_, ?_⟩ <;> (first | rfl | assumption | trivial | omega | (simp []; done) | (simp; omega)))) | (right; left; (refine ⟨?_, ?_⟩ <;> (first | rfl | assumption | trivial | omega | (simp []; done) | (simp; omega)))) | (right; right; (refine ⟨?_, ?_⟩ <;> (first | rfl | assumption | trivial | omega | (simp []; done) | (simp; omega)))), by rw [ht]; exact hP.sub [0] rfl, va_K.moved hW.alike (hK.sub [] rfl), hD.sub [0] (by decide) rfl⟩, hS.F ht⟩) hS.2.2 dL_greatest_20
  obtain ⟨hP1, hK1, hD1⟩ := hB
  rw [ht] at hP1
  have hK1 := va_K.moved hvm.symm hK1
  obtain ⟨hP, hD⟩ := va_join (wr := [(o, .inl (kO, 1, .inr (.inl (fun _ => 0))))]) (w1 := []) hP hD [0] [1] rfl rfl (by decide) (by decide) hk1 hFc hP1 hD1
  generalize H1 = H at hP hS ⊢
  have hP : va_P (dC, dI) vwCl [(o, .inl (kO, 1, .inr (.inl (fun _ => 0))))] H := hP
  have hD : va_D A [(o, .inl (kO, 1, .inr (.inl (fun _ => 0))))] := hD
  refine W.widen (k := 13) (n := 1484) (by decide +kernel) (by decide +kernel) ?_
  obtain ⟨rfl, f5_0⟩ := hw
  refine lv_i2l hx hb dL_greatest_8 rfl ?_
  refine lv_topl (fun y1 hy1 => ?_)
  obtain rfl : 0 = y1 := (hy1.trans (by decide)).symm
  refine va_last hx hb hK hP hD hS 0 0 rfl rfl (show ¬ ((0 : Int32) < 0 ∨ 1 ≤ (0 : Int32).toNatClampNeg) by decide) dL_greatest_9 (fun H locs hP hD hS => ?_)
  have hP : va_P (dC, dI) vwCl [(o, .inl (kO, 1, .inr (.inl (vp_updL (fun _ => 0) (0 : Int32).toNatClampNeg 0))))] H := hP
  have hD : va_D A [(o, .inl (kO, 1, .inr (.inl (vp_updL (fun _ => 0) (0 : Int32).toNatClampNeg 0))))] := hD
  refine lv_goto (tgt := 21) hx hb dL_greatest_10 (by decide) ?_
  refine lv_iconst (v := 0) hx hb dL_greatest_21 (by decide) ?_
  refine W.widen (k := 13) (n := 1484) (by decide +kernel) (by decide +kernel) ?_
  exact W.iret (v := 0) hx hb hr (fun t ht hW => ⟨⟨0, (vp_updL (fun _ => 0) (0 : Int32).toNatClampNeg 0), rfl, by first | (left; (refine ⟨?_, ?_, ?_⟩ <;> (first | rfl | assumption | trivial | omega | (simp []; done) | (simp; omega)))) | (right; left; (refine ⟨?_, ?_⟩ <;> (first | rfl | assumption | trivial | omega | (simp []; done) | (simp; omega)))) | (right; right; (refine ⟨?_, ?_⟩ <;> (first | rfl | assumption | trivial | omega | (simp []; done) | (simp; omega)))), by rw [ht]; exact hP.sub [0] rfl, va_K.moved hW.alike (hK.sub [] rfl), hD.sub [0] (by decide) rfl⟩, hS.F ht⟩) hS.2.2 dL_greatest_22
theorem dL_cut_0 : decode cL_cut 0 = .ok (.aload_n 3, 1) := by decide +kernel
theorem dL_cut_1 : decode cL_cut 1 = .ok (.iconst 0, 1) := by decide +kernel
theorem dL_cut_2 : decode cL_cut 2 = .ok (.aload_n 0, 1) := by decide +kernel
theorem dL_cut_3 : decode cL_cut 3 = .ok (.iload_n 1, 1) := by decide +kernel
theorem dL_cut_4 : decode cL_cut 4 = .ok (.iload_n 2, 1) := by decide +kernel
theorem dL_cut_5 : decode cL_cut 5 = .ok (.invokevirtual 76, 3) := by decide +kernel
theorem dL_cut_8 : decode cL_cut 8 = .ok (.i2l, 1) := by decide +kernel
theorem dL_cut_9 : decode cL_cut 9 = .ok (.lastore, 1) := by decide +kernel
theorem dL_cut_10 : decode cL_cut 10 = .ok (.goto 11, 3) := by decide +kernel
theorem dL_cut_13 : decode cL_cut 13 = .ok (.astore 4, 2) := by decide +kernel
theorem dL_cut_15 : decode cL_cut 15 = .ok (.iconst 1, 1) := by decide +kernel
theorem dL_cut_16 : decode cL_cut 16 = .ok (.ireturn, 1) := by decide +kernel
theorem dL_cut_17 : decode cL_cut 17 = .ok (.astore 4, 2) := by decide +kernel
theorem dL_cut_19 : decode cL_cut 19 = .ok (.iconst 2, 1) := by decide +kernel
theorem dL_cut_20 : decode cL_cut 20 = .ok (.ireturn, 1) := by decide +kernel
theorem dL_cut_21 : decode cL_cut 21 = .ok (.iconst 0, 1) := by decide +kernel
theorem dL_cut_22 : decode cL_cut 22 = .ok (.ireturn, 1) := by decide +kernel
def wsPL_cut : List Cond := .codeWith yL_cut cL_cut 5 (some .int) [(0, 10, 13, 19), (0, 10, 17, 13)] :: ([.classLink RL 19 "java/lang/IndexOutOfBoundsException", .classLink RL 13 "java/lang/IllegalArgumentException"] ++ (wsV RL 76 RX11 yX11_cut wsPX11_cut))
theorem gwsPL_cut_0 : GoodIn wsPL_cut (wsV RL 76 RX11 yX11_cut wsPX11_cut) := goodIn_sub (fun _ h => List.mem_cons_of_mem _ (List.mem_append_right _ h)) (by decide +kernel)
set_option maxHeartbeats 4000000 in
set_option maxRecDepth 100000 in
/-- the law's cut, on a fresh object -/
theorem p_L_cut (l : Launch) (hst : l.stackTraces = false) (dC : Nat → ClassId) (dI : Nat → Nat → Nat) (h0 : Nat) (a : Nat → Nat) (o : Nat) (kO : ClassId) (ns : Int32) (nt : Int32) (sz : Nat) : Met l yL_cut wsPL_cut ({ frames := 8, cells := 13, slots := 1484, locals := 124 }) (va_Pc [.ref h0, .int ns, .int nt, .ref o] (fun U => U.heap.size = sz ∧ va_P (dC, dI) vwCl [(h0, .inr (11, [.ref (a 0), .ref (a 1), .ref (a 3), .ref (a 14), .int 0, .null, .null, .null, .null, .null, .null])), (o, .inl (kO, 1, .inr (.inl (fun _ => 0))))] U.heap ∧ va_K (dC, dI) vwCl [(kO, .long)] U ∧ va_D (fun _ => True) [(h0, .inr (11, [.ref (a 0), .ref (a 1), .ref (a 3), .ref (a 14), .int 0, .null, .null, .null, .null, .null, .null])), (o, .inl (kO, 1, .inr (.inl (fun _ => 0))))] ∧ vx_Zq Bundle.tN "UNASSIGNED_STACK" Bundle.steD (va_A [(h0, .inr (11, [.ref (a 0), .ref (a 1), .ref (a 3), .ref (a 14), .int 0, .null, .null, .null, .null, .null, .null])), (o, .inl (kO, 1, .inr (.inl (fun _ => 0))))] sz) U U.heap ∧ vx_Zq Bundle.tN "SUPPRESSED_SENTINEL" Bundle.listD (va_A [(h0, .inr (11, [.ref (a 0), .ref (a 1), .ref (a 3), .ref (a 14), .int 0, .null, .null, .null, .null, .null, .null])), (o, .inl (kO, 1, .inr (.inl (fun _ => 0))))] sz) U U.heap ∧ (∀ w ∈ ngX11_79, va_Nw w U) ∧ (∀ w ∈ ngX11_95, va_Nw w U) ∧ va_Nw (.methodLinkNest RX11 421 yX2_init RX11) U ∧ va_Nc "java/lang/IllegalArgumentException" "java/lang/IndexOutOfBoundsException" U)) (va_Qi (fun (r : Int32) (u : Nat → Int64) => (r = 0 ∧ (0 ≤ (ns).toInt ∧ (ns).toInt < 12 ∧ 0 ≤ (nt).toInt ∧ (nt).toInt < 12 ∧ ¬ (ns).toInt = (nt).toInt) ∧ (u 0 = ((1 : Int32) <<< (ns &&& 31)).toInt64)) ∨ (r = 1 ∧ ((ns).toInt < 0 ∨ 12 ≤ (ns).toInt ∨ (nt).toInt < 0 ∨ 12 ≤ (nt).toInt)) ∨ (r = 2 ∧ (0 ≤ (ns).toInt ∧ (ns).toInt < 12 ∧ 0 ≤ (nt).toInt ∧ (nt).toInt < 12 ∧ (ns).toInt = (nt).toInt))) (fun (u : Nat → Int64) t => va_P (dC, dI) vwCl [(o, .inl (kO, 1, .inr (.inl u)))] t.heap ∧ va_K (dC, dI) vwCl [] t ∧ va_D (va_A [(h0, .inr (11, [.ref (a 0), .ref (a 1), .ref (a 3), .ref (a 14), .int 0, .null, .null, .null, .null, .null, .null])), (o, .inl (kO, 1, .inr (.inl (fun _ => 0))))] sz) [(o, .inl (kO, 1, .inr (.inl u)))]) (va_A [(h0, .inr (11, [.ref (a 0), .ref (a 1), .ref (a 3), .ref (a 14), .int 0, .null, .null, .null, .null, .null, .null])), (o, .inl (kO, 1, .inr (.inl (fun _ => 0))))] sz)) 13 1484 (va_A [(h0, .inr (11, [.ref (a 0), .ref (a 1), .ref (a 3), .ref (a 14), .int 0, .null, .null, .null, .null, .null, .null])), (o, .inl (kO, 1, .inr (.inl (fun _ => 0))))] sz) := by
  refine ofWC (hh := [(0, 10, 13, 19), (0, 10, 17, 13)]) (cc := cL_cut) (maxL := 5) (ret := (some .int)) (by decide) rfl ?_
  intro p e s m args below meth c s₁ B hml hv
  obtain ⟨rfl, hsz, hP, hK, hD0, hU, hN, hngX11_79, hngX11_95, hnX11_421, hncAI⟩ := hv
  have hx := B.exec
  have hb := B.bytes
  have hr := B.returns
  have hts := atoms_spec (ws := wsPL_cut) B.pre
  have hown : s.vm.findClass RL = some m.cls := findClass_of_methodNamed B.named
  have hlocks := B.notSynchronized
  have htb : c.exceptionTable.toList = tableOf [(0, 10, 13, 19), (0, 10, 17, 13)] := vx_table (x := yL_cut) B (hts _ List.mem_cons_self)
  subst hsz
  have hD := hD0.self (sz := s.heap.size)
  generalize hAe : va_A [(h0, .inr (11, [.ref (a 0), .ref (a 1), .ref (a 3), .ref (a 14), .int 0, .null, .null, .null, .null, .null, .null])), (o, .inl (kO, 1, .inr (.inl (fun _ => 0))))] s.heap.size = A at hD hU hN ⊢
  have hA : ∀ q : Nat, s.heap.size ≤ q → A q := fun q h => by rw [← hAe]; exact Or.inr h
  have hS : va_S A s.heap s.heap [] := va_S.rf
  have hP : va_P (dC, dI) vwCl [(h0, .inr (11, [.ref (a 0), .ref (a 1), .ref (a 3), .ref (a 14), .int 0, .null, .null, .null, .null, .null, .null])), (o, .inl (kO, 1, .inr (.inl (fun _ => 0))))] s.heap := hP
  have hl := lv_entry ([.ref h0, .int ns, .int nt, .ref o]) (n := 5) (Nat.le_of_ble_eq_true rfl)
  rw [lg_entry_eq]
  generalize (lg_sl ([.ref h0, .int ns, .int nt, .ref o]) ++ List.replicate (5 - (lg_sl ([.ref h0, .int ns, .int nt, .ref o])).length) Slot.unset).toArray = ls at hl ⊢
  have hl : lv_has ls 5 [(0, .ref h0), (1, .int ns), (2, .int nt), (3, .ref o)] := hl
  refine lv_aload_n hx hb dL_cut_0 rfl (lv_at hl 3 rfl) ?_
  refine lv_iconst (v := 0) hx hb dL_cut_1 (by decide) ?_
  refine lv_aload_n hx hb dL_cut_2 rfl (lv_at hl 0 rfl) ?_
  refine lv_iload_n hx hb dL_cut_3 rfl (lv_at hl 1 rfl) ?_
  refine lv_iload_n hx hb dL_cut_4 rfl (lv_at hl 2 rfl) ?_
  have hPc := hP.sub (ws' := [(h0, .inr (11, [.ref (a 0), .ref (a 1), .ref (a 3), .ref (a 14), .int 0, .null, .null, .null, .null, .null, .null]))]) [0] rfl
  have hDc := hD.sub (ws' := [(h0, .inr (11, [.ref (a 0), .ref (a 1), .ref (a 3), .ref (a 14), .int 0, .null, .null, .null, .null, .null, .null]))]) [0] (by decide) rfl
  have hKc := hK.sub (tys' := []) [] rfl
  have hFc := va_free (wc := [(h0, .inr (11, [.ref (a 0), .ref (a 1), .ref (a 3), .ref (a 14), .int 0, .null, .null, .null, .null, .null, .null]))]) hD hS hA [0] rfl
  refine vx_calli (vx_runV (As := [.int ns, .int nt]) (rest := [.int 0, .ref o]) ⟨hx, hb, hml, hown, hts⟩ (p_X11_cut l hst dC dI h0 a ns nt s.heap.size) (cwV 2 hts gwsPL_cut_0 rfl rfl rfl (by decide +kernel) ⟨by decide +kernel, by decide +kernel⟩) ⟨fun a U g mk q => by obtain ⟨q0, q1, qP, qK, qD, qU, qN, qngX11_79, qngX11_95, qhnX11_421⟩ := q; exact ⟨q0, q1, qP, va_K.moved (u := U) (U := U.calling g mk a) (Vm.Alike.refl U.vm) qK, qD, vx_Zq.moved (u := U) (U := U.calling g mk a) (Vm.Alike.refl U.vm) qU, vx_Zq.moved (u := U) (U := U.calling g mk a) (Vm.Alike.refl U.vm) qN, fun w h => va_Nw.same (u := U) (U := U.calling g mk a) (ngX11_79_ot w h) rfl (qngX11_79 w h), fun w h => va_Nw.same (u := U) (U := U.calling g mk a) (ngX11_95_ot w h) rfl (qngX11_95 w h), va_Nw.same (u := U) (U := U.calling g mk a) rfl rfl qhnX11_421⟩, va_recv hKc hPc (ci := 11) (q0 := 0) rfl rfl, fun U hU9 hW => ⟨rfl, by rw [hU9], by rw [hU9]; exact hPc, va_K.moved hW.alike hKc, hDc.weaken (fun _ _ _ _ => trivial), by rw [hU9]; exact ((hU.kept (fun a h1 h2 => hS.2.1 a h1 h2)).narrow hFc).moved hW.alike, by rw [hU9]; exact ((hN.kept (fun a h1 h2 => hS.2.1 a h1 h2)).narrow hFc).moved hW.alike, fun w h => cd_warm (ngX11_79_cd w h) hW (hngX11_79 w h), fun w h => cd_warm (ngX11_95_cd w h) hW (hngX11_95 w h), va_Nw.warmM hW hnX11_421⟩⟩ rfl rfl hl.1 rfl (lv_room (Nat.le_of_ble_eq_true rfl)) dL_cut_5 ⟨by decide +kernel, by decide +kernel⟩) hS (fun q _ h => hFc q h) hFc (fun q _ h => hFc q h) (fun E ce q9 u t H1 locs1 ht hvm hw hB hz1 hk1 hS hc1 hc2 hc3 => ?_) (fun r5 u t H1 locs ht hvm hw hB hz1 hk1 hS => ?_)
  · have hE : E = u := hB
    subst hE
    obtain ⟨hP, hD⟩ := va_join (wr := [(o, .inl (kO, 1, .inr (.inl (fun _ => 0))))]) (w1 := []) hP hD [0] [1] rfl rfl (by decide) (by decide) hk1 hFc nilP nilD
    have hP : va_P (dC, dI) vwCl [(o, .inl (kO, 1, .inr (.inl (fun _ => 0))))] H1 := hP
    have hD : va_D A [(o, .inl (kO, 1, .inr (.inl (fun _ => 0))))] := hD
    refine vx_widen (k := 13) (n := 1484) (by decide +kernel) (by decide +kernel) ?_
    rcases hw with ⟨hu, hxc⟩ | ⟨hu, hxc⟩
    · subst hu
      refine vx_catch (own := RL) (name := "java/lang/IndexOutOfBoundsException") hown [] ⟨0, 10, 13, 19⟩ [⟨0, 10, 17, 13⟩] (by rw [htb]; rfl) (fun z hz => absurd hz List.not_mem_nil) (by decide) (by decide) (hts (.classLink RL 19 "java/lang/IndexOutOfBoundsException") (by decide +kernel)) (va_Nw.use rfl (hngX11_95 (.castable "java/lang/IndexOutOfBoundsException" "java/lang/IndexOutOfBoundsException") (by decide +kernel))) hc1 hc2 hc3 ?_
      generalize H1 = H at hP hS hc1 ⊢
      refine lv_astore (lv' := [(4, .ref q9), (0, .ref h0), (1, .int ns), (2, .int nt), (3, .ref o)]) hx hb dL_cut_13 hl (by decide) rfl (fun ls hl => ?_)
      refine lv_iconst (v := 1) hx hb dL_cut_15 (by decide) ?_
      refine W.widen (k := 13) (n := 1484) (by decide +kernel) (by decide +kernel) ?_
      exact W.iret (v := 1) hx hb hr (fun t ht hW => ⟨⟨1, (fun _ => 0), rfl, by first | (left; (refine ⟨?_, ?_, ?_⟩ <;> (first | rfl | assumption | trivial | omega | (simp []; done) | (simp; omega)))) | (right; left; (refine ⟨?_, ?_⟩ <;> (first | rfl | assumption | trivial | omega | (simp []; done) | (simp; omega)))) | (right; right; (refine ⟨?_, ?_⟩ <;> (first | rfl | assumption | trivial | omega | (simp []; done) | (simp; omega)))), by rw [ht]; exact hP.sub [0] rfl, va_K.moved hW.alike (hK.sub [] rfl), hD.sub [0] (by decide) rfl⟩, hS.F ht⟩) hS.2.2 dL_cut_16
    · subst hu
      refine vx_catch (own := RL) (name := "java/lang/IllegalArgumentException") hown [⟨0, 10, 13, 19⟩] ⟨0, 10, 17, 13⟩ [] (by rw [htb]; rfl) (fun z hz => by rw [List.mem_singleton.mp hz]; exact Or.inr ⟨by decide, "java/lang/IndexOutOfBoundsException", (hts (.classLink RL 19 "java/lang/IndexOutOfBoundsException") (by decide +kernel)), hncAI⟩) (by decide) (by decide) (hts (.classLink RL 13 "java/lang/IllegalArgumentException") (by decide +kernel)) (va_Nw.use rfl (hngX11_79 (.castable "java/lang/IllegalArgumentException" "java/lang/IllegalArgumentException") (by decide +kernel))) hc1 hc2 hc3 ?_
      generalize H1 = H at hP hS hc1 ⊢
      refine lv_astore (lv' := [(4, .ref q9), (0, .ref h0), (1, .int ns), (2, .int nt), (3, .ref o)]) hx hb dL_cut_17 hl (by decide) rfl (fun ls hl => ?_)
      refine lv_iconst (v := 2) hx hb dL_cut_19 (by decide) ?_
      refine W.widen (k := 13) (n := 1484) (by decide +kernel) (by decide +kernel) ?_
      exact W.iret (v := 2) hx hb hr (fun t ht hW => ⟨⟨2, (fun _ => 0), rfl, by first | (left; (refine ⟨?_, ?_, ?_⟩ <;> (first | rfl | assumption | trivial | omega | (simp []; done) | (simp; omega)))) | (right; left; (refine ⟨?_, ?_⟩ <;> (first | rfl | assumption | trivial | omega | (simp []; done) | (simp; omega)))) | (right; right; (refine ⟨?_, ?_⟩ <;> (first | rfl | assumption | trivial | omega | (simp []; done) | (simp; omega)))), by rw [ht]; exact hP.sub [0] rfl, va_K.moved hW.alike (hK.sub [] rfl), hD.sub [0] (by decide) rfl⟩, hS.F ht⟩) hS.2.2 dL_cut_20
  obtain ⟨hP1, hK1, hD1⟩ := hB
  rw [ht] at hP1
  have hK1 := va_K.moved hvm.symm hK1
  obtain ⟨hP, hD⟩ := va_join (wr := [(o, .inl (kO, 1, .inr (.inl (fun _ => 0))))]) (w1 := []) hP hD [0] [1] rfl rfl (by decide) (by decide) hk1 hFc hP1 hD1
  generalize H1 = H at hP hS ⊢
  have hP : va_P (dC, dI) vwCl [(o, .inl (kO, 1, .inr (.inl (fun _ => 0))))] H := hP
  have hD : va_D A [(o, .inl (kO, 1, .inr (.inl (fun _ => 0))))] := hD
  refine W.widen (k := 13) (n := 1484) (by decide +kernel) (by decide +kernel) ?_
  obtain ⟨rfl, f5_0⟩ := hw
  refine lv_i2l hx hb dL_cut_8 rfl ?_
  refine va_last hx hb hK hP hD hS 0 0 rfl rfl (show ¬ ((0 : Int32) < 0 ∨ 1 ≤ (0 : Int32).toNatClampNeg) by decide) dL_cut_9 (fun H locs hP hD hS => ?_)
  have hP : va_P (dC, dI) vwCl [(o, .inl (kO, 1, .inr (.inl (vp_updL (fun _ => 0) (0 : Int32).toNatClampNeg ((((1 : Int32) <<< (ns &&& 31))).toInt64)))))] H := hP
  have hD : va_D A [(o, .inl (kO, 1, .inr (.inl (vp_updL (fun _ => 0) (0 : Int32).toNatClampNeg ((((1 : Int32) <<< (ns &&& 31))).toInt64)))))] := hD
  refine lv_goto (tgt := 21) hx hb dL_cut_10 (by decide) ?_
  refine lv_iconst (v := 0) hx hb dL_cut_21 (by decide) ?_
  refine W.widen (k := 13) (n := 1484) (by decide +kernel) (by decide +kernel) ?_
  exact W.iret (v := 0) hx hb hr (fun t ht hW => ⟨⟨0, (vp_updL (fun _ => 0) (0 : Int32).toNatClampNeg ((((1 : Int32) <<< (ns &&& 31))).toInt64)), rfl, by first | (left; (refine ⟨?_, ?_, ?_⟩ <;> (first | rfl | assumption | trivial | omega | (simp []; done) | (simp; omega)))) | (right; left; (refine ⟨?_, ?_⟩ <;> (first | rfl | assumption | trivial | omega | (simp []; done) | (simp; omega)))) | (right; right; (refine ⟨?_, ?_⟩ <;> (first | rfl | assumption | trivial | omega | (simp []; done) | (simp; omega)))), by rw [ht]; exact hP.sub [0] rfl, va_K.moved hW.alike (hK.sub [] rfl), hD.sub [0] (by decide) rfl⟩, hS.F ht⟩) hS.2.2 dL_cut_22
theorem dL_cheapest_0 : decode cL_cheapest 0 = .ok (.aload 4, 2) := by decide +kernel
theorem dL_cheapest_2 : decode cL_cheapest 2 = .ok (.iconst 0, 1) := by decide +kernel
theorem dL_cheapest_3 : decode cL_cheapest 3 = .ok (.aload_n 0, 1) := by decide +kernel
theorem dL_cheapest_4 : decode cL_cheapest 4 = .ok (.iload_n 1, 1) := by decide +kernel
theorem dL_cheapest_5 : decode cL_cheapest 5 = .ok (.iload_n 2, 1) := by decide +kernel
theorem dL_cheapest_6 : decode cL_cheapest 6 = .ok (.iload_n 3, 1) := by decide +kernel
theorem dL_cheapest_7 : decode cL_cheapest 7 = .ok (.invokevirtual 79, 3) := by decide +kernel
theorem dL_cheapest_10 : decode cL_cheapest 10 = .ok (.i2l, 1) := by decide +kernel
theorem dL_cheapest_11 : decode cL_cheapest 11 = .ok (.lastore, 1) := by decide +kernel
theorem dL_cheapest_12 : decode cL_cheapest 12 = .ok (.goto 11, 3) := by decide +kernel
theorem dL_cheapest_15 : decode cL_cheapest 15 = .ok (.astore 5, 2) := by decide +kernel
theorem dL_cheapest_17 : decode cL_cheapest 17 = .ok (.iconst 1, 1) := by decide +kernel
theorem dL_cheapest_18 : decode cL_cheapest 18 = .ok (.ireturn, 1) := by decide +kernel
theorem dL_cheapest_19 : decode cL_cheapest 19 = .ok (.astore 5, 2) := by decide +kernel
theorem dL_cheapest_21 : decode cL_cheapest 21 = .ok (.iconst 2, 1) := by decide +kernel
theorem dL_cheapest_22 : decode cL_cheapest 22 = .ok (.ireturn, 1) := by decide +kernel
theorem dL_cheapest_23 : decode cL_cheapest 23 = .ok (.iconst 0, 1) := by decide +kernel
theorem dL_cheapest_24 : decode cL_cheapest 24 = .ok (.ireturn, 1) := by decide +kernel
def wsPL_cheapest : List Cond := .codeWith yL_cheapest cL_cheapest 6 (some .int) [(0, 12, 15, 19), (0, 12, 19, 13)] :: ([.classLink RL 19 "java/lang/IndexOutOfBoundsException", .classLink RL 13 "java/lang/IllegalArgumentException"] ++ (wsV RL 79 RX11 yX11_cheapest wsPX11_cheapest))
theorem gwsPL_cheapest_0 : GoodIn wsPL_cheapest (wsV RL 79 RX11 yX11_cheapest wsPX11_cheapest) := goodIn_sub (fun _ h => List.mem_cons_of_mem _ (List.mem_append_right _ h)) (by decide +kernel)
set_option maxHeartbeats 4000000 in
set_option maxRecDepth 100000 in
/-- the law's cheapest, on a fresh object -/
theorem p_L_cheapest (l : Launch) (hst : l.stackTraces = false) (dC : Nat → ClassId) (dI : Nat → Nat → Nat) (h0 : Nat) (a : Nat → Nat) (o : Nat) (kO : ClassId) (ns : Int32) (nt : Int32) (am : Int32) (sz : Nat) : Met l yL_cheapest wsPL_cheapest ({ frames := 8, cells := 13, slots := 1484, locals := 125 }) (va_Pc [.ref h0, .int ns, .int nt, .int am, .ref o] (fun U => U.heap.size = sz ∧ va_P (dC, dI) vwCl [(h0, .inr (11, [.ref (a 0), .ref (a 1), .ref (a 3), .ref (a 14), .int 0, .null, .null, .null, .null, .null, .null])), (o, .inl (kO, 1, .inr (.inl (fun _ => 0))))] U.heap ∧ va_K (dC, dI) vwCl [(kO, .long)] U ∧ va_D (fun _ => True) [(h0, .inr (11, [.ref (a 0), .ref (a 1), .ref (a 3), .ref (a 14), .int 0, .null, .null, .null, .null, .null, .null])), (o, .inl (kO, 1, .inr (.inl (fun _ => 0))))] ∧ vx_Zq Bundle.tN "UNASSIGNED_STACK" Bundle.steD (va_A [(h0, .inr (11, [.ref (a 0), .ref (a 1), .ref (a 3), .ref (a 14), .int 0, .null, .null, .null, .null, .null, .null])), (o, .inl (kO, 1, .inr (.inl (fun _ => 0))))] sz) U U.heap ∧ vx_Zq Bundle.tN "SUPPRESSED_SENTINEL" Bundle.listD (va_A [(h0, .inr (11, [.ref (a 0), .ref (a 1), .ref (a 3), .ref (a 14), .int 0, .null, .null, .null, .null, .null, .null])), (o, .inl (kO, 1, .inr (.inl (fun _ => 0))))] sz) U U.heap ∧ (∀ w ∈ ngX11_79, va_Nw w U) ∧ (∀ w ∈ ngX11_95, va_Nw w U) ∧ va_Nw (.methodLinkNest RX11 421 yX2_init RX11) U ∧ va_Nc "java/lang/IllegalArgumentException" "java/lang/IndexOutOfBoundsException" U)) (va_Qi (fun (r : Int32) (u : Nat → Int64) => (r = 0 ∧ (0 ≤ (ns).toInt ∧ (ns).toInt < 12 ∧ 0 ≤ (nt).toInt ∧ (nt).toInt < 12 ∧ ¬ (ns).toInt = (nt).toInt) ∧ ((am).toInt = 0) ∧ (u 0 = 0)) ∨ (r = 0 ∧ (0 ≤ (ns).toInt ∧ (ns).toInt < 12 ∧ 0 ≤ (nt).toInt ∧ (nt).toInt < 12 ∧ ¬ (ns).toInt = (nt).toInt) ∧ (¬ (am).toInt = 0) ∧ (u 0 = (-1))) ∨ (r = 1 ∧ ((ns).toInt < 0 ∨ 12 ≤ (ns).toInt ∨ (nt).toInt < 0 ∨ 12 ≤ (nt).toInt)) ∨ (r = 2 ∧ (0 ≤ (ns).toInt ∧ (ns).toInt < 12 ∧ 0 ≤ (nt).toInt ∧ (nt).toInt < 12 ∧ (ns).toInt = (nt).toInt))) (fun (u : Nat → Int64) t => va_P (dC, dI) vwCl [(o, .inl (kO, 1, .inr (.inl u)))] t.heap ∧ va_K (dC, dI) vwCl [] t ∧ va_D (va_A [(h0, .inr (11, [.ref (a 0), .ref (a 1), .ref (a 3), .ref (a 14), .int 0, .null, .null, .null, .null, .null, .null])), (o, .inl (kO, 1, .inr (.inl (fun _ => 0))))] sz) [(o, .inl (kO, 1, .inr (.inl u)))]) (va_A [(h0, .inr (11, [.ref (a 0), .ref (a 1), .ref (a 3), .ref (a 14), .int 0, .null, .null, .null, .null, .null, .null])), (o, .inl (kO, 1, .inr (.inl (fun _ => 0))))] sz)) 13 1484 (va_A [(h0, .inr (11, [.ref (a 0), .ref (a 1), .ref (a 3), .ref (a 14), .int 0, .null, .null, .null, .null, .null, .null])), (o, .inl (kO, 1, .inr (.inl (fun _ => 0))))] sz) := by
  refine ofWC (hh := [(0, 12, 15, 19), (0, 12, 19, 13)]) (cc := cL_cheapest) (maxL := 6) (ret := (some .int)) (by decide) rfl ?_
  intro p e s m args below meth c s₁ B hml hv
  obtain ⟨rfl, hsz, hP, hK, hD0, hU, hN, hngX11_79, hngX11_95, hnX11_421, hncAI⟩ := hv
  have hx := B.exec
  have hb := B.bytes
  have hr := B.returns
  have hts := atoms_spec (ws := wsPL_cheapest) B.pre
  have hown : s.vm.findClass RL = some m.cls := findClass_of_methodNamed B.named
  have hlocks := B.notSynchronized
  have htb : c.exceptionTable.toList = tableOf [(0, 12, 15, 19), (0, 12, 19, 13)] := vx_table (x := yL_cheapest) B (hts _ List.mem_cons_self)
  subst hsz
  have hD := hD0.self (sz := s.heap.size)
  generalize hAe : va_A [(h0, .inr (11, [.ref (a 0), .ref (a 1), .ref (a 3), .ref (a 14), .int 0, .null, .null, .null, .null, .null, .null])), (o, .inl (kO, 1, .inr (.inl (fun _ => 0))))] s.heap.size = A at hD hU hN ⊢
  have hA : ∀ q : Nat, s.heap.size ≤ q → A q := fun q h => by rw [← hAe]; exact Or.inr h
  have hS : va_S A s.heap s.heap [] := va_S.rf
  have hP : va_P (dC, dI) vwCl [(h0, .inr (11, [.ref (a 0), .ref (a 1), .ref (a 3), .ref (a 14), .int 0, .null, .null, .null, .null, .null, .null])), (o, .inl (kO, 1, .inr (.inl (fun _ => 0))))] s.heap := hP
  have hl := lv_entry ([.ref h0, .int ns, .int nt, .int am, .ref o]) (n := 6) (Nat.le_of_ble_eq_true rfl)
  rw [lg_entry_eq]
  generalize (lg_sl ([.ref h0, .int ns, .int nt, .int am, .ref o]) ++ List.replicate (6 - (lg_sl ([.ref h0, .int ns, .int nt, .int am, .ref o])).length) Slot.unset).toArray = ls at hl ⊢
  have hl : lv_has ls 6 [(0, .ref h0), (1, .int ns), (2, .int nt), (3, .int am), (4, .ref o)] := hl
  refine lv_aload hx hb dL_cheapest_0 (lv_at hl 4 rfl) ?_
  refine lv_iconst (v := 0) hx hb dL_cheapest_2 (by decide) ?_
  refine lv_aload_n hx hb dL_cheapest_3 rfl (lv_at hl 0 rfl) ?_
  refine lv_iload_n hx hb dL_cheapest_4 rfl (lv_at hl 1 rfl) ?_
  refine lv_iload_n hx hb dL_cheapest_5 rfl (lv_at hl 2 rfl) ?_
  refine lv_iload_n hx hb dL_cheapest_6 rfl (lv_at hl 3 rfl) ?_
  have hPc := hP.sub (ws' := [(h0, .inr (11, [.ref (a 0), .ref (a 1), .ref (a 3), .ref (a 14), .int 0, .null, .null, .null, .null, .null, .null]))]) [0] rfl
  have hDc := hD.sub (ws' := [(h0, .inr (11, [.ref (a 0), .ref (a 1), .ref (a 3), .ref (a 14), .int 0, .null, .null, .null, .null, .null, .null]))]) [0] (by decide) rfl
  have hKc := hK.sub (tys' := []) [] rfl
  have hFc := va_free (wc := [(h0, .inr (11, [.ref (a 0), .ref (a 1), .ref (a 3), .ref (a 14), .int 0, .null, .null, .null, .null, .null, .null]))]) hD hS hA [0] rfl
  refine vx_calli (vx_runV (As := [.int ns, .int nt, .int am]) (rest := [.int 0, .ref o]) ⟨hx, hb, hml, hown, hts⟩ (p_X11_cheapest l hst dC dI h0 a ns nt am s.heap.size) (cwV 3 hts gwsPL_cheapest_0 rfl rfl rfl (by decide +kernel) ⟨by decide +kernel, by decide +kernel⟩) ⟨fun a U g mk q => by obtain ⟨q0, q1, qP, qK, qD, qU, qN, qngX11_79, qngX11_95, qhnX11_421⟩ := q; exact ⟨q0, q1, qP, va_K.moved (u := U) (U := U.calling g mk a) (Vm.Alike.refl U.vm) qK, qD, vx_Zq.moved (u := U) (U := U.calling g mk a) (Vm.Alike.refl U.vm) qU, vx_Zq.moved (u := U) (U := U.calling g mk a) (Vm.Alike.refl U.vm) qN, fun w h => va_Nw.same (u := U) (U := U.calling g mk a) (ngX11_79_ot w h) rfl (qngX11_79 w h), fun w h => va_Nw.same (u := U) (U := U.calling g mk a) (ngX11_95_ot w h) rfl (qngX11_95 w h), va_Nw.same (u := U) (U := U.calling g mk a) rfl rfl qhnX11_421⟩, va_recv hKc hPc (ci := 11) (q0 := 0) rfl rfl, fun U hU9 hW => ⟨rfl, by rw [hU9], by rw [hU9]; exact hPc, va_K.moved hW.alike hKc, hDc.weaken (fun _ _ _ _ => trivial), by rw [hU9]; exact ((hU.kept (fun a h1 h2 => hS.2.1 a h1 h2)).narrow hFc).moved hW.alike, by rw [hU9]; exact ((hN.kept (fun a h1 h2 => hS.2.1 a h1 h2)).narrow hFc).moved hW.alike, fun w h => cd_warm (ngX11_79_cd w h) hW (hngX11_79 w h), fun w h => cd_warm (ngX11_95_cd w h) hW (hngX11_95 w h), va_Nw.warmM hW hnX11_421⟩⟩ rfl rfl hl.1 rfl (lv_room (Nat.le_of_ble_eq_true rfl)) dL_cheapest_7 ⟨by decide +kernel, by decide +kernel⟩) hS (fun q _ h => hFc q h) hFc (fun q _ h => hFc q h) (fun E ce q9 u t H1 locs1 ht hvm hw hB hz1 hk1 hS hc1 hc2 hc3 => ?_) (fun r7 u t H1 locs ht hvm hw hB hz1 hk1 hS => ?_)
  · have hE : E = u := hB
    subst hE
    obtain ⟨hP, hD⟩ := va_join (wr := [(o, .inl (kO, 1, .inr (.inl (fun _ => 0))))]) (w1 := []) hP hD [0] [1] rfl rfl (by decide) (by decide) hk1 hFc nilP nilD
    have hP : va_P (dC, dI) vwCl [(o, .inl (kO, 1, .inr (.inl (fun _ => 0))))] H1 := hP
    have hD : va_D A [(o, .inl (kO, 1, .inr (.inl (fun _ => 0))))] := hD
    refine vx_widen (k := 13) (n := 1484) (by decide +kernel) (by decide +kernel) ?_
    rcases hw with ⟨hu, hxc⟩ | ⟨hu, hxc⟩
    · subst hu
      refine vx_catch (own := RL) (name := "java/lang/IndexOutOfBoundsException") hown [] ⟨0, 12, 15, 19⟩ [⟨0, 12, 19, 13⟩] (by rw [htb]; rfl) (fun z hz => absurd hz List.not_mem_nil) (by decide) (by decide) (hts (.classLink RL 19 "java/lang/IndexOutOfBoundsException") (by decide +kernel)) (va_Nw.use rfl (hngX11_95 (.castable "java/lang/IndexOutOfBoundsException" "java/lang/IndexOutOfBoundsException") (by decide +kernel))) hc1 hc2 hc3 ?_
      generalize H1 = H at hP hS hc1 ⊢
      refine lv_astore (lv' := [(5, .ref q9), (0, .ref h0), (1, .int ns), (2, .int nt), (3, .int am), (4, .ref o)]) hx hb dL_cheapest_15 hl (by decide) rfl (fun ls hl => ?_)
      refine lv_iconst (v := 1) hx hb dL_cheapest_17 (by decide) ?_
      refine W.widen (k := 13) (n := 1484) (by decide +kernel) (by decide +kernel) ?_
      exact W.iret (v := 1) hx hb hr (fun t ht hW => ⟨⟨1, (fun _ => 0), rfl, by first | (left; (refine ⟨?_, ?_, ?_, ?_⟩ <;> (first | rfl | assumption | trivial | omega | (simp []; done) | (simp; omega)))) | (right; left; (refine ⟨?_, ?_, ?_, ?_⟩ <;> (first | rfl | assumption | trivial | omega | (simp []; done) | (simp; omega)))) | (right; right; left; (refine ⟨?_, ?_⟩ <;> (first | rfl | assumption | trivial | omega | (simp []; done) | (simp; omega)))) | (right; right; right; (refine ⟨?_, ?_⟩ <;> (first | rfl | assumption | trivial | omega | (simp []; done) | (simp; omega)))), by rw [ht]; exact hP.sub [0] rfl, va_K.moved hW.alike (hK.sub [] rfl), hD.sub [0] (by decide) rfl⟩, hS.F ht⟩) hS.2.2 dL_cheapest_18
    · subst hu
      refine vx_catch (own := RL) (name := "java/lang/IllegalArgumentException") hown [⟨0, 12, 15, 19⟩] ⟨0, 12, 19, 13⟩ [] (by rw [htb]; rfl) (fun z hz => by rw [List.mem_singleton.mp hz]; exact Or.inr ⟨by decide, "java/lang/IndexOutOfBoundsException", (hts (.classLink RL 19 "java/lang/IndexOutOfBoundsException") (by decide +kernel)), hncAI⟩) (by decide) (by decide) (hts (.classLink RL 13 "java/lang/IllegalArgumentException") (by decide +kernel)) (va_Nw.use rfl (hngX11_79 (.castable "java/lang/IllegalArgumentException" "java/lang/IllegalArgumentException") (by decide +kernel))) hc1 hc2 hc3 ?_
      generalize H1 = H at hP hS hc1 ⊢
      refine lv_astore (lv' := [(5, .ref q9), (0, .ref h0), (1, .int ns), (2, .int nt), (3, .int am), (4, .ref o)]) hx hb dL_cheapest_19 hl (by decide) rfl (fun ls hl => ?_)
      refine lv_iconst (v := 2) hx hb dL_cheapest_21 (by decide) ?_
      refine W.widen (k := 13) (n := 1484) (by decide +kernel) (by decide +kernel) ?_
      exact W.iret (v := 2) hx hb hr (fun t ht hW => ⟨⟨2, (fun _ => 0), rfl, by first | (left; (refine ⟨?_, ?_, ?_, ?_⟩ <;> (first | rfl | assumption | trivial | omega | (simp []; done) | (simp; omega)))) | (right; left; (refine ⟨?_, ?_, ?_, ?_⟩ <;> (first | rfl | assumption | trivial | omega | (simp []; done) | (simp; omega)))) | (right; right; left; (refine ⟨?_, ?_⟩ <;> (first | rfl | assumption | trivial | omega | (simp []; done) | (simp; omega)))) | (right; right; right; (refine ⟨?_, ?_⟩ <;> (first | rfl | assumption | trivial | omega | (simp []; done) | (simp; omega)))), by rw [ht]; exact hP.sub [0] rfl, va_K.moved hW.alike (hK.sub [] rfl), hD.sub [0] (by decide) rfl⟩, hS.F ht⟩) hS.2.2 dL_cheapest_22
  obtain ⟨hP1, hK1, hD1⟩ := hB
  rw [ht] at hP1
  have hK1 := va_K.moved hvm.symm hK1
  obtain ⟨hP, hD⟩ := va_join (wr := [(o, .inl (kO, 1, .inr (.inl (fun _ => 0))))]) (w1 := []) hP hD [0] [1] rfl rfl (by decide) (by decide) hk1 hFc hP1 hD1
  generalize H1 = H at hP hS ⊢
  have hP : va_P (dC, dI) vwCl [(o, .inl (kO, 1, .inr (.inl (fun _ => 0))))] H := hP
  have hD : va_D A [(o, .inl (kO, 1, .inr (.inl (fun _ => 0))))] := hD
  refine W.widen (k := 13) (n := 1484) (by decide +kernel) (by decide +kernel) ?_
  rcases hw with ⟨rfl, f7_0, f7_1⟩ | ⟨rfl, f7_0, f7_1⟩
  · refine lv_i2l hx hb dL_cheapest_10 rfl ?_
    refine lv_topl (fun y1 hy1 => ?_)
    obtain rfl : 0 = y1 := (hy1.trans (by decide)).symm
    refine va_last hx hb hK hP hD hS 0 0 rfl rfl (show ¬ ((0 : Int32) < 0 ∨ 1 ≤ (0 : Int32).toNatClampNeg) by decide) dL_cheapest_11 (fun H locs hP hD hS => ?_)
    have hP : va_P (dC, dI) vwCl [(o, .inl (kO, 1, .inr (.inl (vp_updL (fun _ => 0) (0 : Int32).toNatClampNeg 0))))] H := hP
    have hD : va_D A [(o, .inl (kO, 1, .inr (.inl (vp_updL (fun _ => 0) (0 : Int32).toNatClampNeg 0))))] := hD
    refine lv_goto (tgt := 23) hx hb dL_cheapest_12 (by decide) ?_
    refine lv_iconst (v := 0) hx hb dL_cheapest_23 (by decide) ?_
    refine W.widen (k := 13) (n := 1484) (by decide +kernel) (by decide +kernel) ?_
    exact W.iret (v := 0) hx hb hr (fun t ht hW => ⟨⟨0, (vp_updL (fun _ => 0) (0 : Int32).toNatClampNeg 0), rfl, by first | (left; (refine ⟨?_, ?_, ?_, ?_⟩ <;> (first | rfl | assumption | trivial | omega | (simp []; done) | (simp; omega)))) | (right; left; (refine ⟨?_, ?_, ?_, ?_⟩ <;> (first | rfl | assumption | trivial | omega | (simp []; done) | (simp; omega)))) | (right; right; left; (refine ⟨?_, ?_⟩ <;> (first | rfl | assumption | trivial | omega | (simp []; done) | (simp; omega)))) | (right; right; right; (refine ⟨?_, ?_⟩ <;> (first | rfl | assumption | trivial | omega | (simp []; done) | (simp; omega)))), by rw [ht]; exact hP.sub [0] rfl, va_K.moved hW.alike (hK.sub [] rfl), hD.sub [0] (by decide) rfl⟩, hS.F ht⟩) hS.2.2 dL_cheapest_24
  · refine lv_i2l hx hb dL_cheapest_10 rfl ?_
    refine lv_topl (fun y2 hy2 => ?_)
    obtain rfl : (-1) = y2 := (hy2.trans (by decide)).symm
    refine va_last hx hb hK hP hD hS 0 0 rfl rfl (show ¬ ((0 : Int32) < 0 ∨ 1 ≤ (0 : Int32).toNatClampNeg) by decide) dL_cheapest_11 (fun H locs hP hD hS => ?_)
    have hP : va_P (dC, dI) vwCl [(o, .inl (kO, 1, .inr (.inl (vp_updL (fun _ => 0) (0 : Int32).toNatClampNeg (-1)))))] H := hP
    have hD : va_D A [(o, .inl (kO, 1, .inr (.inl (vp_updL (fun _ => 0) (0 : Int32).toNatClampNeg (-1)))))] := hD
    refine lv_goto (tgt := 23) hx hb dL_cheapest_12 (by decide) ?_
    refine lv_iconst (v := 0) hx hb dL_cheapest_23 (by decide) ?_
    refine W.widen (k := 13) (n := 1484) (by decide +kernel) (by decide +kernel) ?_
    exact W.iret (v := 0) hx hb hr (fun t ht hW => ⟨⟨0, (vp_updL (fun _ => 0) (0 : Int32).toNatClampNeg (-1)), rfl, by first | (left; (refine ⟨?_, ?_, ?_, ?_⟩ <;> (first | rfl | assumption | trivial | omega | (simp []; done) | (simp; omega)))) | (right; left; (refine ⟨?_, ?_, ?_, ?_⟩ <;> (first | rfl | assumption | trivial | omega | (simp []; done) | (simp; omega)))) | (right; right; left; (refine ⟨?_, ?_⟩ <;> (first | rfl | assumption | trivial | omega | (simp []; done) | (simp; omega)))) | (right; right; right; (refine ⟨?_, ?_⟩ <;> (first | rfl | assumption | trivial | omega | (simp []; done) | (simp; omega)))), by rw [ht]; exact hP.sub [0] rfl, va_K.moved hW.alike (hK.sub [] rfl), hD.sub [0] (by decide) rfl⟩, hS.F ht⟩) hS.2.2 dL_cheapest_24
theorem dL_path_0 : decode cL_path 0 = .ok (.aload 4, 2) := by decide +kernel
theorem dL_path_2 : decode cL_path 2 = .ok (.iconst 0, 1) := by decide +kernel
theorem dL_path_3 : decode cL_path 3 = .ok (.aload_n 0, 1) := by decide +kernel
theorem dL_path_4 : decode cL_path 4 = .ok (.iload_n 1, 1) := by decide +kernel
theorem dL_path_5 : decode cL_path 5 = .ok (.iload_n 2, 1) := by decide +kernel
theorem dL_path_6 : decode cL_path 6 = .ok (.iload_n 3, 1) := by decide +kernel
theorem dL_path_7 : decode cL_path 7 = .ok (.invokevirtual 82, 3) := by decide +kernel
theorem dL_path_10 : decode cL_path 10 = .ok (.i2l, 1) := by decide +kernel
theorem dL_path_11 : decode cL_path 11 = .ok (.lastore, 1) := by decide +kernel
theorem dL_path_12 : decode cL_path 12 = .ok (.goto 11, 3) := by decide +kernel
theorem dL_path_15 : decode cL_path 15 = .ok (.astore 5, 2) := by decide +kernel
theorem dL_path_17 : decode cL_path 17 = .ok (.iconst 1, 1) := by decide +kernel
theorem dL_path_18 : decode cL_path 18 = .ok (.ireturn, 1) := by decide +kernel
theorem dL_path_19 : decode cL_path 19 = .ok (.astore 5, 2) := by decide +kernel
theorem dL_path_21 : decode cL_path 21 = .ok (.iconst 2, 1) := by decide +kernel
theorem dL_path_22 : decode cL_path 22 = .ok (.ireturn, 1) := by decide +kernel
theorem dL_path_23 : decode cL_path 23 = .ok (.iconst 0, 1) := by decide +kernel
theorem dL_path_24 : decode cL_path 24 = .ok (.ireturn, 1) := by decide +kernel
def wsPL_path : List Cond := .codeWith yL_path cL_path 6 (some .int) [(0, 12, 15, 19), (0, 12, 19, 13)] :: ([.classLink RL 19 "java/lang/IndexOutOfBoundsException", .classLink RL 13 "java/lang/IllegalArgumentException"] ++ (wsV RL 82 RX11 yX11_path wsPX11_path))
theorem gwsPL_path_0 : GoodIn wsPL_path (wsV RL 82 RX11 yX11_path wsPX11_path) := goodIn_sub (fun _ h => List.mem_cons_of_mem _ (List.mem_append_right _ h)) (by decide +kernel)
set_option maxHeartbeats 4000000 in
set_option maxRecDepth 100000 in
/-- the law's path, on a fresh object -/
theorem p_L_path (l : Launch) (hst : l.stackTraces = false) (dC : Nat → ClassId) (dI : Nat → Nat → Nat) (h0 : Nat) (a : Nat → Nat) (o : Nat) (kO : ClassId) (ns : Int32) (nt : Int32) (ii : Int32) (sz : Nat) : Met l yL_path wsPL_path ({ frames := 8, cells := 13, slots := 1484, locals := 125 }) (va_Pc [.ref h0, .int ns, .int nt, .int ii, .ref o] (fun U => U.heap.size = sz ∧ va_P (dC, dI) vwCl [(h0, .inr (11, [.ref (a 0), .ref (a 1), .ref (a 3), .ref (a 14), .int 0, .null, .null, .null, .null, .null, .null])), (o, .inl (kO, 1, .inr (.inl (fun _ => 0))))] U.heap ∧ va_K (dC, dI) vwCl [(kO, .long)] U ∧ va_D (fun _ => True) [(h0, .inr (11, [.ref (a 0), .ref (a 1), .ref (a 3), .ref (a 14), .int 0, .null, .null, .null, .null, .null, .null])), (o, .inl (kO, 1, .inr (.inl (fun _ => 0))))] ∧ vx_Zq Bundle.tN "UNASSIGNED_STACK" Bundle.steD (va_A [(h0, .inr (11, [.ref (a 0), .ref (a 1), .ref (a 3), .ref (a 14), .int 0, .null, .null, .null, .null, .null, .null])), (o, .inl (kO, 1, .inr (.inl (fun _ => 0))))] sz) U U.heap ∧ vx_Zq Bundle.tN "SUPPRESSED_SENTINEL" Bundle.listD (va_A [(h0, .inr (11, [.ref (a 0), .ref (a 1), .ref (a 3), .ref (a 14), .int 0, .null, .null, .null, .null, .null, .null])), (o, .inl (kO, 1, .inr (.inl (fun _ => 0))))] sz) U U.heap ∧ (∀ w ∈ ngX11_79, va_Nw w U) ∧ (∀ w ∈ ngX11_95, va_Nw w U) ∧ va_Nw (.methodLinkNest RX11 421 yX2_init RX11) U ∧ va_Nc "java/lang/IllegalArgumentException" "java/lang/IndexOutOfBoundsException" U)) (va_Qi (fun (r : Int32) (u : Nat → Int64) => (r = 0 ∧ (0 ≤ (ns).toInt ∧ (ns).toInt < 12 ∧ 0 ≤ (nt).toInt ∧ (nt).toInt < 12 ∧ ¬ (ns).toInt = (nt).toInt) ∧ ((ii).toInt = -3) ∧ (u 0 = 0)) ∨ (r = 0 ∧ (0 ≤ (ns).toInt ∧ (ns).toInt < 12 ∧ 0 ≤ (nt).toInt ∧ (nt).toInt < 12 ∧ ¬ (ns).toInt = (nt).toInt) ∧ (¬ (ii).toInt = -3) ∧ (u 0 = (-1))) ∨ (r = 1 ∧ ((ns).toInt < 0 ∨ 12 ≤ (ns).toInt ∨ (nt).toInt < 0 ∨ 12 ≤ (nt).toInt)) ∨ (r = 2 ∧ (0 ≤ (ns).toInt ∧ (ns).toInt < 12 ∧ 0 ≤ (nt).toInt ∧ (nt).toInt < 12 ∧ (ns).toInt = (nt).toInt))) (fun (u : Nat → Int64) t => va_P (dC, dI) vwCl [(o, .inl (kO, 1, .inr (.inl u)))] t.heap ∧ va_K (dC, dI) vwCl [] t ∧ va_D (va_A [(h0, .inr (11, [.ref (a 0), .ref (a 1), .ref (a 3), .ref (a 14), .int 0, .null, .null, .null, .null, .null, .null])), (o, .inl (kO, 1, .inr (.inl (fun _ => 0))))] sz) [(o, .inl (kO, 1, .inr (.inl u)))]) (va_A [(h0, .inr (11, [.ref (a 0), .ref (a 1), .ref (a 3), .ref (a 14), .int 0, .null, .null, .null, .null, .null, .null])), (o, .inl (kO, 1, .inr (.inl (fun _ => 0))))] sz)) 13 1484 (va_A [(h0, .inr (11, [.ref (a 0), .ref (a 1), .ref (a 3), .ref (a 14), .int 0, .null, .null, .null, .null, .null, .null])), (o, .inl (kO, 1, .inr (.inl (fun _ => 0))))] sz) := by
  refine ofWC (hh := [(0, 12, 15, 19), (0, 12, 19, 13)]) (cc := cL_path) (maxL := 6) (ret := (some .int)) (by decide) rfl ?_
  intro p e s m args below meth c s₁ B hml hv
  obtain ⟨rfl, hsz, hP, hK, hD0, hU, hN, hngX11_79, hngX11_95, hnX11_421, hncAI⟩ := hv
  have hx := B.exec
  have hb := B.bytes
  have hr := B.returns
  have hts := atoms_spec (ws := wsPL_path) B.pre
  have hown : s.vm.findClass RL = some m.cls := findClass_of_methodNamed B.named
  have hlocks := B.notSynchronized
  have htb : c.exceptionTable.toList = tableOf [(0, 12, 15, 19), (0, 12, 19, 13)] := vx_table (x := yL_path) B (hts _ List.mem_cons_self)
  subst hsz
  have hD := hD0.self (sz := s.heap.size)
  generalize hAe : va_A [(h0, .inr (11, [.ref (a 0), .ref (a 1), .ref (a 3), .ref (a 14), .int 0, .null, .null, .null, .null, .null, .null])), (o, .inl (kO, 1, .inr (.inl (fun _ => 0))))] s.heap.size = A at hD hU hN ⊢
  have hA : ∀ q : Nat, s.heap.size ≤ q → A q := fun q h => by rw [← hAe]; exact Or.inr h
  have hS : va_S A s.heap s.heap [] := va_S.rf
  have hP : va_P (dC, dI) vwCl [(h0, .inr (11, [.ref (a 0), .ref (a 1), .ref (a 3), .ref (a 14), .int 0, .null, .null, .null, .null, .null, .null])), (o, .inl (kO, 1, .inr (.inl (fun _ => 0))))] s.heap := hP
  have hl := lv_entry ([.ref h0, .int ns, .int nt, .int ii, .ref o]) (n := 6) (Nat.le_of_ble_eq_true rfl)
  rw [lg_entry_eq]
  generalize (lg_sl ([.ref h0, .int ns, .int nt, .int ii, .ref o]) ++ List.replicate (6 - (lg_sl ([.ref h0, .int ns, .int nt, .int ii, .ref o])).length) Slot.unset).toArray = ls at hl ⊢
  have hl : lv_has ls 6 [(0, .ref h0), (1, .int ns), (2, .int nt), (3, .int ii), (4, .ref o)] := hl
  refine lv_aload hx hb dL_path_0 (lv_at hl 4 rfl) ?_
  refine lv_iconst (v := 0) hx hb dL_path_2 (by decide) ?_
  refine lv_aload_n hx hb dL_path_3 rfl (lv_at hl 0 rfl) ?_
  refine lv_iload_n hx hb dL_path_4 rfl (lv_at hl 1 rfl) ?_
  refine lv_iload_n hx hb dL_path_5 rfl (lv_at hl 2 rfl) ?_
  refine lv_iload_n hx hb dL_path_6 rfl (lv_at hl 3 rfl) ?_
  have hPc := hP.sub (ws' := [(h0, .inr (11, [.ref (a 0), .ref (a 1), .ref (a 3), .ref (a 14), .int 0, .null, .null, .null, .null, .null, .null]))]) [0] rfl
  have hDc := hD.sub (ws' := [(h0, .inr (11, [.ref (a 0), .ref (a 1), .ref (a 3), .ref (a 14), .int 0, .null, .null, .null, .null, .null, .null]))]) [0] (by decide) rfl
  have hKc := hK.sub (tys' := []) [] rfl
  have hFc := va_free (wc := [(h0, .inr (11, [.ref (a 0), .ref (a 1), .ref (a 3), .ref (a 14), .int 0, .null, .null, .null, .null, .null, .null]))]) hD hS hA [0] rfl
  refine vx_calli (vx_runV (As := [.int ns, .int nt, .int ii]) (rest := [.int 0, .ref o]) ⟨hx, hb, hml, hown, hts⟩ (p_X11_path l hst dC dI h0 a ns nt ii s.heap.size) (cwV 3 hts gwsPL_path_0 rfl rfl rfl (by decide +kernel) ⟨by decide +kernel, by decide +kernel⟩) ⟨fun a U g mk q => by obtain ⟨q0, q1, qP, qK, qD, qU, qN, qngX11_79, qngX11_95, qhnX11_421⟩ := q; exact ⟨q0, q1, qP, va_K.moved (u := U) (U := U.calling g mk a) (Vm.Alike.refl U.vm) qK, qD, vx_Zq.moved (u := U) (U := U.calling g mk a) (Vm.Alike.refl U.vm) qU, vx_Zq.moved (u := U) (U := U.calling g mk a) (Vm.Alike.refl U.vm) qN, fun w h => va_Nw.same (u := U) (U := U.calling g mk a) (ngX11_79_ot w h) rfl (qngX11_79 w h), fun w h => va_Nw.same (u := U) (U := U.calling g mk a) (ngX11_95_ot w h) rfl (qngX11_95 w h), va_Nw.same (u := U) (U := U.calling g mk a) rfl rfl qhnX11_421⟩, va_recv hKc hPc (ci := 11) (q0 := 0) rfl rfl, fun U hU9 hW => ⟨rfl, by rw [hU9], by rw [hU9]; exact hPc, va_K.moved hW.alike hKc, hDc.weaken (fun _ _ _ _ => trivial), by rw [hU9]; exact ((hU.kept (fun a h1 h2 => hS.2.1 a h1 h2)).narrow hFc).moved hW.alike, by rw [hU9]; exact ((hN.kept (fun a h1 h2 => hS.2.1 a h1 h2)).narrow hFc).moved hW.alike, fun w h => cd_warm (ngX11_79_cd w h) hW (hngX11_79 w h), fun w h => cd_warm (ngX11_95_cd w h) hW (hngX11_95 w h), va_Nw.warmM hW hnX11_421⟩⟩ rfl rfl hl.1 rfl (lv_room (Nat.le_of_ble_eq_true rfl)) dL_path_7 ⟨by decide +kernel, by decide +kernel⟩) hS (fun q _ h => hFc q h) hFc (fun q _ h => hFc q h) (fun E ce q9 u t H1 locs1 ht hvm hw hB hz1 hk1 hS hc1 hc2 hc3 => ?_) (fun r7 u t H1 locs ht hvm hw hB hz1 hk1 hS => ?_)
  · have hE : E = u := hB
    subst hE
    obtain ⟨hP, hD⟩ := va_join (wr := [(o, .inl (kO, 1, .inr (.inl (fun _ => 0))))]) (w1 := []) hP hD [0] [1] rfl rfl (by decide) (by decide) hk1 hFc nilP nilD
    have hP : va_P (dC, dI) vwCl [(o, .inl (kO, 1, .inr (.inl (fun _ => 0))))] H1 := hP
    have hD : va_D A [(o, .inl (kO, 1, .inr (.inl (fun _ => 0))))] := hD
    refine vx_widen (k := 13) (n := 1484) (by decide +kernel) (by decide +kernel) ?_
    rcases hw with ⟨hu, hxc⟩ | ⟨hu, hxc⟩
    · subst hu
      refine vx_catch (own := RL) (name := "java/lang/IndexOutOfBoundsException") hown [] ⟨0, 12, 15, 19⟩ [⟨0, 12, 19, 13⟩] (by rw [htb]; rfl) (fun z hz => absurd hz List.not_mem_nil) (by decide) (by decide) (hts (.classLink RL 19 "java/lang/IndexOutOfBoundsException") (by decide +kernel)) (va_Nw.use rfl (hngX11_95 (.castable "java/lang/IndexOutOfBoundsException" "java/lang/IndexOutOfBoundsException") (by decide +kernel))) hc1 hc2 hc3 ?_
      generalize H1 = H at hP hS hc1 ⊢
      refine lv_astore (lv' := [(5, .ref q9), (0, .ref h0), (1, .int ns), (2, .int nt), (3, .int ii), (4, .ref o)]) hx hb dL_path_15 hl (by decide) rfl (fun ls hl => ?_)
      refine lv_iconst (v := 1) hx hb dL_path_17 (by decide) ?_
      refine W.widen (k := 13) (n := 1484) (by decide +kernel) (by decide +kernel) ?_
      exact W.iret (v := 1) hx hb hr (fun t ht hW => ⟨⟨1, (fun _ => 0), rfl, by first | (left; (refine ⟨?_, ?_, ?_, ?_⟩ <;> (first | rfl | assumption | trivial | omega | (simp []; done) | (simp; omega)))) | (right; left; (refine ⟨?_, ?_, ?_, ?_⟩ <;> (first | rfl | assumption | trivial | omega | (simp []; done) | (simp; omega)))) | (right; right; left; (refine ⟨?_, ?_⟩ <;> (first | rfl | assumption | trivial | omega | (simp []; done) | (simp; omega)))) | (right; right; right; (refine ⟨?_, ?_⟩ <;> (first | rfl | assumption | trivial | omega | (simp []; done) | (simp; omega)))), by rw [ht]; exact hP.sub [0] rfl, va_K.moved hW.alike (hK.sub [] rfl), hD.sub [0] (by decide) rfl⟩, hS.F ht⟩) hS.2.2 dL_path_18
    · subst hu
      refine vx_catch (own := RL) (name := "java/lang/IllegalArgumentException") hown [⟨0, 12, 15, 19⟩] ⟨0, 12, 19, 13⟩ [] (by rw [htb]; rfl) (fun z hz => by rw [List.mem_singleton.mp hz]; exact Or.inr ⟨by decide, "java/lang/IndexOutOfBoundsException", (hts (.classLink RL 19 "java/lang/IndexOutOfBoundsException") (by decide +kernel)), hncAI⟩) (by decide) (by decide) (hts (.classLink RL 13 "java/lang/IllegalArgumentException") (by decide +kernel)) (va_Nw.use rfl (hngX11_79 (.castable "java/lang/IllegalArgumentException" "java/lang/IllegalArgumentException") (by decide +kernel))) hc1 hc2 hc3 ?_
      generalize H1 = H at hP hS hc1 ⊢
      refine lv_astore (lv' := [(5, .ref q9), (0, .ref h0), (1, .int ns), (2, .int nt), (3, .int ii), (4, .ref o)]) hx hb dL_path_19 hl (by decide) rfl (fun ls hl => ?_)
      refine lv_iconst (v := 2) hx hb dL_path_21 (by decide) ?_
      refine W.widen (k := 13) (n := 1484) (by decide +kernel) (by decide +kernel) ?_
      exact W.iret (v := 2) hx hb hr (fun t ht hW => ⟨⟨2, (fun _ => 0), rfl, by first | (left; (refine ⟨?_, ?_, ?_, ?_⟩ <;> (first | rfl | assumption | trivial | omega | (simp []; done) | (simp; omega)))) | (right; left; (refine ⟨?_, ?_, ?_, ?_⟩ <;> (first | rfl | assumption | trivial | omega | (simp []; done) | (simp; omega)))) | (right; right; left; (refine ⟨?_, ?_⟩ <;> (first | rfl | assumption | trivial | omega | (simp []; done) | (simp; omega)))) | (right; right; right; (refine ⟨?_, ?_⟩ <;> (first | rfl | assumption | trivial | omega | (simp []; done) | (simp; omega)))), by rw [ht]; exact hP.sub [0] rfl, va_K.moved hW.alike (hK.sub [] rfl), hD.sub [0] (by decide) rfl⟩, hS.F ht⟩) hS.2.2 dL_path_22
  obtain ⟨hP1, hK1, hD1⟩ := hB
  rw [ht] at hP1
  have hK1 := va_K.moved hvm.symm hK1
  obtain ⟨hP, hD⟩ := va_join (wr := [(o, .inl (kO, 1, .inr (.inl (fun _ => 0))))]) (w1 := []) hP hD [0] [1] rfl rfl (by decide) (by decide) hk1 hFc hP1 hD1
  generalize H1 = H at hP hS ⊢
  have hP : va_P (dC, dI) vwCl [(o, .inl (kO, 1, .inr (.inl (fun _ => 0))))] H := hP
  have hD : va_D A [(o, .inl (kO, 1, .inr (.inl (fun _ => 0))))] := hD
  refine W.widen (k := 13) (n := 1484) (by decide +kernel) (by decide +kernel) ?_
  rcases hw with ⟨rfl, f7_0, f7_1⟩ | ⟨rfl, f7_0, f7_1⟩
  · refine lv_i2l hx hb dL_path_10 rfl ?_
    refine lv_topl (fun y1 hy1 => ?_)
    obtain rfl : 0 = y1 := (hy1.trans (by decide)).symm
    refine va_last hx hb hK hP hD hS 0 0 rfl rfl (show ¬ ((0 : Int32) < 0 ∨ 1 ≤ (0 : Int32).toNatClampNeg) by decide) dL_path_11 (fun H locs hP hD hS => ?_)
    have hP : va_P (dC, dI) vwCl [(o, .inl (kO, 1, .inr (.inl (vp_updL (fun _ => 0) (0 : Int32).toNatClampNeg 0))))] H := hP
    have hD : va_D A [(o, .inl (kO, 1, .inr (.inl (vp_updL (fun _ => 0) (0 : Int32).toNatClampNeg 0))))] := hD
    refine lv_goto (tgt := 23) hx hb dL_path_12 (by decide) ?_
    refine lv_iconst (v := 0) hx hb dL_path_23 (by decide) ?_
    refine W.widen (k := 13) (n := 1484) (by decide +kernel) (by decide +kernel) ?_
    exact W.iret (v := 0) hx hb hr (fun t ht hW => ⟨⟨0, (vp_updL (fun _ => 0) (0 : Int32).toNatClampNeg 0), rfl, by first | (left; (refine ⟨?_, ?_, ?_, ?_⟩ <;> (first | rfl | assumption | trivial | omega | (simp []; done) | (simp; omega)))) | (right; left; (refine ⟨?_, ?_, ?_, ?_⟩ <;> (first | rfl | assumption | trivial | omega | (simp []; done) | (simp; omega)))) | (right; right; left; (refine ⟨?_, ?_⟩ <;> (first | rfl | assumption | trivial | omega | (simp []; done) | (simp; omega)))) | (right; right; right; (refine ⟨?_, ?_⟩ <;> (first | rfl | assumption | trivial | omega | (simp []; done) | (simp; omega)))), by rw [ht]; exact hP.sub [0] rfl, va_K.moved hW.alike (hK.sub [] rfl), hD.sub [0] (by decide) rfl⟩, hS.F ht⟩) hS.2.2 dL_path_24
  · refine lv_i2l hx hb dL_path_10 rfl ?_
    refine lv_topl (fun y2 hy2 => ?_)
    obtain rfl : (-1) = y2 := (hy2.trans (by decide)).symm
    refine va_last hx hb hK hP hD hS 0 0 rfl rfl (show ¬ ((0 : Int32) < 0 ∨ 1 ≤ (0 : Int32).toNatClampNeg) by decide) dL_path_11 (fun H locs hP hD hS => ?_)
    have hP : va_P (dC, dI) vwCl [(o, .inl (kO, 1, .inr (.inl (vp_updL (fun _ => 0) (0 : Int32).toNatClampNeg (-1)))))] H := hP
    have hD : va_D A [(o, .inl (kO, 1, .inr (.inl (vp_updL (fun _ => 0) (0 : Int32).toNatClampNeg (-1)))))] := hD
    refine lv_goto (tgt := 23) hx hb dL_path_12 (by decide) ?_
    refine lv_iconst (v := 0) hx hb dL_path_23 (by decide) ?_
    refine W.widen (k := 13) (n := 1484) (by decide +kernel) (by decide +kernel) ?_
    exact W.iret (v := 0) hx hb hr (fun t ht hW => ⟨⟨0, (vp_updL (fun _ => 0) (0 : Int32).toNatClampNeg (-1)), rfl, by first | (left; (refine ⟨?_, ?_, ?_, ?_⟩ <;> (first | rfl | assumption | trivial | omega | (simp []; done) | (simp; omega)))) | (right; left; (refine ⟨?_, ?_, ?_, ?_⟩ <;> (first | rfl | assumption | trivial | omega | (simp []; done) | (simp; omega)))) | (right; right; left; (refine ⟨?_, ?_⟩ <;> (first | rfl | assumption | trivial | omega | (simp []; done) | (simp; omega)))) | (right; right; right; (refine ⟨?_, ?_⟩ <;> (first | rfl | assumption | trivial | omega | (simp []; done) | (simp; omega)))), by rw [ht]; exact hP.sub [0] rfl, va_K.moved hW.alike (hK.sub [] rfl), hD.sub [0] (by decide) rfl⟩, hS.F ht⟩) hS.2.2 dL_path_24
theorem dL_tour_0 : decode cL_tour 0 = .ok (.aload_n 3, 1) := by decide +kernel
theorem dL_tour_1 : decode cL_tour 1 = .ok (.iconst 0, 1) := by decide +kernel
theorem dL_tour_2 : decode cL_tour 2 = .ok (.aload_n 0, 1) := by decide +kernel
theorem dL_tour_3 : decode cL_tour 3 = .ok (.iload_n 1, 1) := by decide +kernel
theorem dL_tour_4 : decode cL_tour 4 = .ok (.iload_n 2, 1) := by decide +kernel
theorem dL_tour_5 : decode cL_tour 5 = .ok (.invokevirtual 85, 3) := by decide +kernel
theorem dL_tour_8 : decode cL_tour 8 = .ok (.i2l, 1) := by decide +kernel
theorem dL_tour_9 : decode cL_tour 9 = .ok (.lastore, 1) := by decide +kernel
theorem dL_tour_10 : decode cL_tour 10 = .ok (.goto 7, 3) := by decide +kernel
theorem dL_tour_13 : decode cL_tour 13 = .ok (.astore 4, 2) := by decide +kernel
theorem dL_tour_15 : decode cL_tour 15 = .ok (.iconst 1, 1) := by decide +kernel
theorem dL_tour_16 : decode cL_tour 16 = .ok (.ireturn, 1) := by decide +kernel
theorem dL_tour_17 : decode cL_tour 17 = .ok (.iconst 0, 1) := by decide +kernel
theorem dL_tour_18 : decode cL_tour 18 = .ok (.ireturn, 1) := by decide +kernel
def wsPL_tour : List Cond := .codeWith yL_tour cL_tour 5 (some .int) [(0, 10, 13, 13)] :: ([.classLink RL 13 "java/lang/IllegalArgumentException"] ++ (wsV RL 85 RX11 yX11_tour wsPX11_tour))
theorem gwsPL_tour_0 : GoodIn wsPL_tour (wsV RL 85 RX11 yX11_tour wsPX11_tour) := goodIn_sub (fun _ h => List.mem_cons_of_mem _ (List.mem_append_right _ h)) (by decide +kernel)
set_option maxHeartbeats 4000000 in
set_option maxRecDepth 100000 in
/-- the law's tour, on a fresh object -/
theorem p_L_tour (l : Launch) (hst : l.stackTraces = false) (dC : Nat → ClassId) (dI : Nat → Nat → Nat) (h0 : Nat) (a : Nat → Nat) (o : Nat) (kO : ClassId) (nd : Int32) (ii : Int32) (sz : Nat) : Met l yL_tour wsPL_tour ({ frames := 7, cells := 13, slots := 1484, locals := 110 }) (va_Pc [.ref h0, .int nd, .int ii, .ref o] (fun U => U.heap.size = sz ∧ va_P (dC, dI) vwCl [(h0, .inr (11, [.ref (a 0), .ref (a 1), .ref (a 3), .ref (a 14), .int 0, .null, .null, .null, .null, .null, .null])), (o, .inl (kO, 1, .inr (.inl (fun _ => 0))))] U.heap ∧ va_K (dC, dI) vwCl [(kO, .long)] U ∧ va_D (fun _ => True) [(h0, .inr (11, [.ref (a 0), .ref (a 1), .ref (a 3), .ref (a 14), .int 0, .null, .null, .null, .null, .null, .null])), (o, .inl (kO, 1, .inr (.inl (fun _ => 0))))] ∧ vx_Zq Bundle.tN "UNASSIGNED_STACK" Bundle.steD (va_A [(h0, .inr (11, [.ref (a 0), .ref (a 1), .ref (a 3), .ref (a 14), .int 0, .null, .null, .null, .null, .null, .null])), (o, .inl (kO, 1, .inr (.inl (fun _ => 0))))] sz) U U.heap ∧ vx_Zq Bundle.tN "SUPPRESSED_SENTINEL" Bundle.listD (va_A [(h0, .inr (11, [.ref (a 0), .ref (a 1), .ref (a 3), .ref (a 14), .int 0, .null, .null, .null, .null, .null, .null])), (o, .inl (kO, 1, .inr (.inl (fun _ => 0))))] sz) U U.heap ∧ (∀ w ∈ ngX11_79, va_Nw w U) ∧ va_Nw (.methodLinkNest RX11 421 yX2_init RX11) U)) (va_Qi (fun (r : Int32) (u : Nat → Int64) => (r = 0 ∧ (0 ≤ (nd).toInt ∧ (nd).toInt < 4096 ∧ 2 ≤ cnt (nd).toNatClampNeg 12 ∧ cnt (nd).toNatClampNeg 12 ≤ 8) ∧ (u 0 = (-1))) ∨ (r = 1 ∧ ((nd).toInt < 0 ∨ 4096 ≤ (nd).toInt ∨ cnt (nd).toNatClampNeg 12 < 2 ∨ 8 < cnt (nd).toNatClampNeg 12))) (fun (u : Nat → Int64) t => va_P (dC, dI) vwCl [(o, .inl (kO, 1, .inr (.inl u)))] t.heap ∧ va_K (dC, dI) vwCl [] t ∧ va_D (va_A [(h0, .inr (11, [.ref (a 0), .ref (a 1), .ref (a 3), .ref (a 14), .int 0, .null, .null, .null, .null, .null, .null])), (o, .inl (kO, 1, .inr (.inl (fun _ => 0))))] sz) [(o, .inl (kO, 1, .inr (.inl u)))]) (va_A [(h0, .inr (11, [.ref (a 0), .ref (a 1), .ref (a 3), .ref (a 14), .int 0, .null, .null, .null, .null, .null, .null])), (o, .inl (kO, 1, .inr (.inl (fun _ => 0))))] sz)) 13 1484 (va_A [(h0, .inr (11, [.ref (a 0), .ref (a 1), .ref (a 3), .ref (a 14), .int 0, .null, .null, .null, .null, .null, .null])), (o, .inl (kO, 1, .inr (.inl (fun _ => 0))))] sz) := by
  refine ofWC (hh := [(0, 10, 13, 13)]) (cc := cL_tour) (maxL := 5) (ret := (some .int)) (by decide) rfl ?_
  intro p e s m args below meth c s₁ B hml hv
  obtain ⟨rfl, hsz, hP, hK, hD0, hU, hN, hngX11_79, hnX11_421⟩ := hv
  have hx := B.exec
  have hb := B.bytes
  have hr := B.returns
  have hts := atoms_spec (ws := wsPL_tour) B.pre
  have hown : s.vm.findClass RL = some m.cls := findClass_of_methodNamed B.named
  have hlocks := B.notSynchronized
  have htb : c.exceptionTable.toList = tableOf [(0, 10, 13, 13)] := vx_table (x := yL_tour) B (hts _ List.mem_cons_self)
  subst hsz
  have hD := hD0.self (sz := s.heap.size)
  generalize hAe : va_A [(h0, .inr (11, [.ref (a 0), .ref (a 1), .ref (a 3), .ref (a 14), .int 0, .null, .null, .null, .null, .null, .null])), (o, .inl (kO, 1, .inr (.inl (fun _ => 0))))] s.heap.size = A at hD hU hN ⊢
  have hA : ∀ q : Nat, s.heap.size ≤ q → A q := fun q h => by rw [← hAe]; exact Or.inr h
  have hS : va_S A s.heap s.heap [] := va_S.rf
  have hP : va_P (dC, dI) vwCl [(h0, .inr (11, [.ref (a 0), .ref (a 1), .ref (a 3), .ref (a 14), .int 0, .null, .null, .null, .null, .null, .null])), (o, .inl (kO, 1, .inr (.inl (fun _ => 0))))] s.heap := hP
  have hl := lv_entry ([.ref h0, .int nd, .int ii, .ref o]) (n := 5) (Nat.le_of_ble_eq_true rfl)
  rw [lg_entry_eq]
  generalize (lg_sl ([.ref h0, .int nd, .int ii, .ref o]) ++ List.replicate (5 - (lg_sl ([.ref h0, .int nd, .int ii, .ref o])).length) Slot.unset).toArray = ls at hl ⊢
  have hl : lv_has ls 5 [(0, .ref h0), (1, .int nd), (2, .int ii), (3, .ref o)] := hl
  refine lv_aload_n hx hb dL_tour_0 rfl (lv_at hl 3 rfl) ?_
  refine lv_iconst (v := 0) hx hb dL_tour_1 (by decide) ?_
  refine lv_aload_n hx hb dL_tour_2 rfl (lv_at hl 0 rfl) ?_
  refine lv_iload_n hx hb dL_tour_3 rfl (lv_at hl 1 rfl) ?_
  refine lv_iload_n hx hb dL_tour_4 rfl (lv_at hl 2 rfl) ?_
  have hPc := hP.sub (ws' := [(h0, .inr (11, [.ref (a 0), .ref (a 1), .ref (a 3), .ref (a 14), .int 0, .null, .null, .null, .null, .null, .null]))]) [0] rfl
  have hDc := hD.sub (ws' := [(h0, .inr (11, [.ref (a 0), .ref (a 1), .ref (a 3), .ref (a 14), .int 0, .null, .null, .null, .null, .null, .null]))]) [0] (by decide) rfl
  have hKc := hK.sub (tys' := []) [] rfl
  have hFc := va_free (wc := [(h0, .inr (11, [.ref (a 0), .ref (a 1), .ref (a 3), .ref (a 14), .int 0, .null, .null, .null, .null, .null, .null]))]) hD hS hA [0] rfl
  refine vx_calli (vx_runV (As := [.int nd, .int ii]) (rest := [.int 0, .ref o]) ⟨hx, hb, hml, hown, hts⟩ (p_X11_tour l hst dC dI h0 a nd ii s.heap.size) (cwV 2 hts gwsPL_tour_0 rfl rfl rfl (by decide +kernel) ⟨by decide +kernel, by decide +kernel⟩) ⟨fun a U g mk q => by obtain ⟨q0, q1, qP, qK, qD, qU, qN, qngX11_79, qhnX11_421⟩ := q; exact ⟨q0, q1, qP, va_K.moved (u := U) (U := U.calling g mk a) (Vm.Alike.refl U.vm) qK, qD, vx_Zq.moved (u := U) (U := U.calling g mk a) (Vm.Alike.refl U.vm) qU, vx_Zq.moved (u := U) (U := U.calling g mk a) (Vm.Alike.refl U.vm) qN, fun w h => va_Nw.same (u := U) (U := U.calling g mk a) (ngX11_79_ot w h) rfl (qngX11_79 w h), va_Nw.same (u := U) (U := U.calling g mk a) rfl rfl qhnX11_421⟩, va_recv hKc hPc (ci := 11) (q0 := 0) rfl rfl, fun U hU9 hW => ⟨rfl, by rw [hU9], by rw [hU9]; exact hPc, va_K.moved hW.alike hKc, hDc.weaken (fun _ _ _ _ => trivial), by rw [hU9]; exact ((hU.kept (fun a h1 h2 => hS.2.1 a h1 h2)).narrow hFc).moved hW.alike, by rw [hU9]; exact ((hN.kept (fun a h1 h2 => hS.2.1 a h1 h2)).narrow hFc).moved hW.alike, fun w h => cd_warm (ngX11_79_cd w h) hW (hngX11_79 w h), va_Nw.warmM hW hnX11_421⟩⟩ rfl rfl hl.1 rfl (lv_room (Nat.le_of_ble_eq_true rfl)) dL_tour_5 ⟨by decide +kernel, by decide +kernel⟩) hS (fun q _ h => hFc q h) hFc (fun q _ h => hFc q h) (fun E ce q9 u t H1 locs1 ht hvm hw hB hz1 hk1 hS hc1 hc2 hc3 => ?_) (fun r5 u t H1 locs ht hvm hw hB hz1 hk1 hS => ?_)
  · have hE : E = u := hB
    subst hE
    obtain ⟨hP, hD⟩ := va_join (wr := [(o, .inl (kO, 1, .inr (.inl (fun _ => 0))))]) (w1 := []) hP hD [0] [1] rfl rfl (by decide) (by decide) hk1 hFc nilP nilD
    have hP : va_P (dC, dI) vwCl [(o, .inl (kO, 1, .inr (.inl (fun _ => 0))))] H1 := hP
    have hD : va_D A [(o, .inl (kO, 1, .inr (.inl (fun _ => 0))))] := hD
    refine vx_widen (k := 13) (n := 1484) (by decide +kernel) (by decide +kernel) ?_
    obtain ⟨hu, hxc⟩ := hw
    subst hu
    refine vx_catch (own := RL) (name := "java/lang/IllegalArgumentException") hown [] ⟨0, 10, 13, 13⟩ [] (by rw [htb]; rfl) (fun z hz => absurd hz List.not_mem_nil) (by decide) (by decide) (hts (.classLink RL 13 "java/lang/IllegalArgumentException") (by decide +kernel)) (va_Nw.use rfl (hngX11_79 (.castable "java/lang/IllegalArgumentException" "java/lang/IllegalArgumentException") (by decide +kernel))) hc1 hc2 hc3 ?_
    generalize H1 = H at hP hS hc1 ⊢
    refine lv_astore (lv' := [(4, .ref q9), (0, .ref h0), (1, .int nd), (2, .int ii), (3, .ref o)]) hx hb dL_tour_13 hl (by decide) rfl (fun ls hl => ?_)
    refine lv_iconst (v := 1) hx hb dL_tour_15 (by decide) ?_
    refine W.widen (k := 13) (n := 1484) (by decide +kernel) (by decide +kernel) ?_
    exact W.iret (v := 1) hx hb hr (fun t ht hW => ⟨⟨1, (fun _ => 0), rfl, by first | (left; (refine ⟨?_, ?_, ?_⟩ <;> (first | rfl | assumption | trivial | omega | (simp []; done) | (simp; omega)))) | (right; (refine ⟨?_, ?_⟩ <;> (first | rfl | assumption | trivial | omega | (simp []; done) | (simp; omega)))), by rw [ht]; exact hP.sub [0] rfl, va_K.moved hW.alike (hK.sub [] rfl), hD.sub [0] (by decide) rfl⟩, hS.F ht⟩) hS.2.2 dL_tour_16
  obtain ⟨hP1, hK1, hD1⟩ := hB
  rw [ht] at hP1
  have hK1 := va_K.moved hvm.symm hK1
  obtain ⟨hP, hD⟩ := va_join (wr := [(o, .inl (kO, 1, .inr (.inl (fun _ => 0))))]) (w1 := []) hP hD [0] [1] rfl rfl (by decide) (by decide) hk1 hFc hP1 hD1
  generalize H1 = H at hP hS ⊢
  have hP : va_P (dC, dI) vwCl [(o, .inl (kO, 1, .inr (.inl (fun _ => 0))))] H := hP
  have hD : va_D A [(o, .inl (kO, 1, .inr (.inl (fun _ => 0))))] := hD
  refine W.widen (k := 13) (n := 1484) (by decide +kernel) (by decide +kernel) ?_
  obtain ⟨rfl, f5_0⟩ := hw
  refine lv_i2l hx hb dL_tour_8 rfl ?_
  refine lv_topl (fun y1 hy1 => ?_)
  obtain rfl : (-1) = y1 := (hy1.trans (by decide)).symm
  refine va_last hx hb hK hP hD hS 0 0 rfl rfl (show ¬ ((0 : Int32) < 0 ∨ 1 ≤ (0 : Int32).toNatClampNeg) by decide) dL_tour_9 (fun H locs hP hD hS => ?_)
  have hP : va_P (dC, dI) vwCl [(o, .inl (kO, 1, .inr (.inl (vp_updL (fun _ => 0) (0 : Int32).toNatClampNeg (-1)))))] H := hP
  have hD : va_D A [(o, .inl (kO, 1, .inr (.inl (vp_updL (fun _ => 0) (0 : Int32).toNatClampNeg (-1)))))] := hD
  refine lv_goto (tgt := 17) hx hb dL_tour_10 (by decide) ?_
  refine lv_iconst (v := 0) hx hb dL_tour_17 (by decide) ?_
  refine W.widen (k := 13) (n := 1484) (by decide +kernel) (by decide +kernel) ?_
  exact W.iret (v := 0) hx hb hr (fun t ht hW => ⟨⟨0, (vp_updL (fun _ => 0) (0 : Int32).toNatClampNeg (-1)), rfl, by first | (left; (refine ⟨?_, ?_, ?_⟩ <;> (first | rfl | assumption | trivial | omega | (simp []; done) | (simp; omega)))) | (right; (refine ⟨?_, ?_⟩ <;> (first | rfl | assumption | trivial | omega | (simp []; done) | (simp; omega)))), by rw [ht]; exact hP.sub [0] rfl, va_K.moved hW.alike (hK.sub [] rfl), hD.sub [0] (by decide) rfl⟩, hS.F ht⟩) hS.2.2 dL_tour_18

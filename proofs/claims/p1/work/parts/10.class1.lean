def wsX11_wipe : List Cond := .code yX11_wipe cX11_wipe 1 none :: ([.fieldLink RX11 16 "OptimaWorks" "words" "LOptimaWorks$Words;", .fieldLink RX11 31 "OptimaWorks$Words" "length" "I"] ++ wsX110 ++ wsX90)
theorem dX11_wipe_0 : decode cX11_wipe 0 = .ok (.aload_n 0, 1) := by decide +kernel
theorem dX11_wipe_1 : decode cX11_wipe 1 = .ok (.getfield 16, 3) := by decide +kernel
theorem dX11_wipe_4 : decode cX11_wipe 4 = .ok (.iconst 0, 1) := by decide +kernel
theorem dX11_wipe_5 : decode cX11_wipe 5 = .ok (.putfield 31, 3) := by decide +kernel
theorem dX11_wipe_8 : decode cX11_wipe 8 = .ok (.return_, 1) := by decide +kernel
theorem iX11_wipe_in9 : ∀ w ∈ wsX90, w ∈ wsX11_wipe := fun _ h => List.mem_cons_of_mem _ (List.mem_append_right _ h)
theorem iX11_wipe_in11 : ∀ w ∈ wsX110, w ∈ wsX11_wipe := fun _ h => List.mem_cons_of_mem _ (List.mem_append_left _ (List.mem_append_right _ h))
set_option maxHeartbeats 4000000 in
set_option maxRecDepth 100000 in
/-- wipe(): the tape is empty -/
theorem c_X11_wipe (l : Launch) (dC : Nat → ClassId) (dI : Nat → Nat → Nat) (h0 : Nat) (a0 a1 a2 a3 : Nat) (sl : Int32) (f5 f6 f7 f8 f9 f10 : Value) (tp : Nat) (len flt plc knd wat num : Int32) (nam : Int64) (nxt : Int32) (sz : Nat) : Met l yX11_wipe wsX11_wipe ({ frames := 0, cells := 0, slots := 0, locals := 0 }) (va_Pc [.ref h0] (fun U => U.heap.size = sz ∧ va_P (dC, dI) vwCl [(h0, .inr (11, [.ref a0, .ref a1, .ref a2, .ref a3, .int sl, f5, f6, f7, f8, f9, f10])), (a1, .inr (9, [.ref tp, .int len, .int flt, .int plc, .int knd, .int wat, .int num, .long nam, .int nxt]))] U.heap ∧ va_K (dC, dI) vwCl [] U ∧ va_D (fun _ => True) [(h0, .inr (11, [.ref a0, .ref a1, .ref a2, .ref a3, .int sl, f5, f6, f7, f8, f9, f10])), (a1, .inr (9, [.ref tp, .int len, .int flt, .int plc, .int knd, .int wat, .int num, .long nam, .int nxt]))])) (va_Qv (fun _ : Unit => True) (fun u t => va_P (dC, dI) vwCl [(h0, .inr (11, [.ref a0, .ref a1, .ref a2, .ref a3, .int sl, f5, f6, f7, f8, f9, f10])), (a1, .inr (9, [.ref tp, .int 0, .int flt, .int plc, .int knd, .int wat, .int num, .long nam, .int nxt]))] t.heap ∧ va_K (dC, dI) vwCl [] t ∧ va_D (va_A [(h0, .inr (11, [.ref a0, .ref a1, .ref a2, .ref a3, .int sl, f5, f6, f7, f8, f9, f10])), (a1, .inr (9, [.ref tp, .int len, .int flt, .int plc, .int knd, .int wat, .int num, .long nam, .int nxt]))] sz) [(h0, .inr (11, [.ref a0, .ref a1, .ref a2, .ref a3, .int sl, f5, f6, f7, f8, f9, f10])), (a1, .inr (9, [.ref tp, .int 0, .int flt, .int plc, .int knd, .int wat, .int num, .long nam, .int nxt]))]) (va_A [(h0, .inr (11, [.ref a0, .ref a1, .ref a2, .ref a3, .int sl, f5, f6, f7, f8, f9, f10])), (a1, .inr (9, [.ref tp, .int len, .int flt, .int plc, .int knd, .int wat, .int num, .long nam, .int nxt]))] sz)) 0 0 (va_A [(h0, .inr (11, [.ref a0, .ref a1, .ref a2, .ref a3, .int sl, f5, f6, f7, f8, f9, f10])), (a1, .inr (9, [.ref tp, .int len, .int flt, .int plc, .int knd, .int wat, .int num, .long nam, .int nxt]))] sz) := by
  refine Met.ofW (cc := cX11_wipe) (maxL := 1) (ret := none) (by decide) rfl ?_
  intro p e s m args below meth c s₁ B hml hv
  obtain ⟨rfl, hsz, hP, hK, hD0⟩ := hv
  have hx := B.exec
  have hb := B.bytes
  have hr := B.returns
  have hts := atoms_spec (ws := wsX11_wipe) B.pre
  have hown : s.vm.findClass RX11 = some m.cls := findClass_of_methodNamed B.named
  have hlocks := B.notSynchronized
  subst hsz
  have hD := hD0.self (sz := s.heap.size)
  generalize hAe : va_A [(h0, .inr (11, [.ref a0, .ref a1, .ref a2, .ref a3, .int sl, f5, f6, f7, f8, f9, f10])), (a1, .inr (9, [.ref tp, .int len, .int flt, .int plc, .int knd, .int wat, .int num, .long nam, .int nxt]))] s.heap.size = A at hD ⊢
  have hA : ∀ q : Nat, s.heap.size ≤ q → A q := fun q h => by rw [← hAe]; exact Or.inr h
  have hS : va_S A s.heap s.heap [] := va_S.rf
  have hP : va_P (dC, dI) vwCl [(h0, .inr (11, [.ref a0, .ref a1, .ref a2, .ref a3, .int sl, f5, f6, f7, f8, f9, f10])), (a1, .inr (9, [.ref tp, .int len, .int flt, .int plc, .int knd, .int wat, .int num, .long nam, .int nxt]))] s.heap := hP
  have hl := lv_entry ([.ref h0]) (n := 1) (Nat.le_of_ble_eq_true rfl)
  rw [lg_entry_eq]
  generalize (lg_sl ([.ref h0]) ++ List.replicate (1 - (lg_sl ([.ref h0])).length) Slot.unset).toArray = ls at hl ⊢
  have hl : lv_has ls 1 [(0, .ref h0)] := hl
  refine lv_aload_n hx hb dX11_wipe_0 rfl (lv_at hl 0 rfl) ?_
  refine va_get (D := (dC, dI)) (ci := 11) (v := .ref a1) (C := RX11) (T := TX11) (N := 11) hx hb hts iX11_wipe_in11 hown hK hP 0 rfl rfl 1 (by decide) (hts (.fieldLink RX11 16 "OptimaWorks" "words" "LOptimaWorks$Words;") (by decide +kernel)) (fun _ h9 => h9) rfl dX11_wipe_1 ?_
  refine lv_iconst (v := 0) hx hb dX11_wipe_4 (by decide) ?_
  refine va_put (D := (dC, dI)) (ci := 9) (v := .int 0) (ty := .int) (C := RX9) (T := TX9) (N := 9) hx hb hts iX11_wipe_in9 tyX9 tyX9_ok nmX9 hown hK hP hD hS 1 rfl rfl 1 (by decide) (hts (.fieldLink RX11 31 "OptimaWorks$Words" "length" "I") (by decide +kernel)) (fun _ h9 => h9) rfl (by decide +kernel) rfl rfl (Nat.le_of_ble_eq_true rfl) dX11_wipe_5 (fun H locs hP hD hS => ?_)
  have hP : va_P (dC, dI) vwCl [(h0, .inr (11, [.ref a0, .ref a1, .ref a2, .ref a3, .int sl, f5, f6, f7, f8, f9, f10])), (a1, .inr (9, [.ref tp, .int 0, .int flt, .int plc, .int knd, .int wat, .int num, .long nam, .int nxt]))] H := hP
  have hD : va_D A [(h0, .inr (11, [.ref a0, .ref a1, .ref a2, .ref a3, .int sl, f5, f6, f7, f8, f9, f10])), (a1, .inr (9, [.ref tp, .int 0, .int flt, .int plc, .int knd, .int wat, .int num, .long nam, .int nxt]))] := hD
  refine W.widen (k := 0) (n := 0) (by decide +kernel) (by decide +kernel) ?_
  exact W.vret hx hb hr (fun t ht hW => ⟨⟨(), rfl, trivial, by rw [ht]; exact hP, va_K.moved hW.alike hK, hD⟩, hS.F ht⟩) hS.2.2 dX11_wipe_8
def wsX11_fault : List Cond := .code yX11_fault cX11_fault 2 (some .int) :: ([.fieldLink RX11 16 "OptimaWorks" "words" "LOptimaWorks$Words;", .fieldLink RX11 87 "OptimaWorks$Words" "fault" "I", .fieldLink RX11 90 "OptimaWorks$Words" "place" "I"] ++ wsX110 ++ wsX90)
theorem dX11_fault_0 : decode cX11_fault 0 = .ok (.iload_n 1, 1) := by decide +kernel
theorem dX11_fault_1 : decode cX11_fault 1 = .ok (.ifCond .ne 11, 3) := by decide +kernel
theorem dX11_fault_4 : decode cX11_fault 4 = .ok (.aload_n 0, 1) := by decide +kernel
theorem dX11_fault_5 : decode cX11_fault 5 = .ok (.getfield 16, 3) := by decide +kernel
theorem dX11_fault_8 : decode cX11_fault 8 = .ok (.getfield 87, 3) := by decide +kernel
theorem dX11_fault_11 : decode cX11_fault 11 = .ok (.ireturn, 1) := by decide +kernel
theorem dX11_fault_12 : decode cX11_fault 12 = .ok (.iload_n 1, 1) := by decide +kernel
theorem dX11_fault_13 : decode cX11_fault 13 = .ok (.iconst 1, 1) := by decide +kernel
theorem dX11_fault_14 : decode cX11_fault 14 = .ok (.if_icmp .ne 23, 3) := by decide +kernel
theorem dX11_fault_17 : decode cX11_fault 17 = .ok (.aload_n 0, 1) := by decide +kernel
theorem dX11_fault_18 : decode cX11_fault 18 = .ok (.getfield 16, 3) := by decide +kernel
theorem dX11_fault_21 : decode cX11_fault 21 = .ok (.getfield 87, 3) := by decide +kernel
theorem dX11_fault_24 : decode cX11_fault 24 = .ok (.ifCond .eq 13, 3) := by decide +kernel
theorem dX11_fault_27 : decode cX11_fault 27 = .ok (.aload_n 0, 1) := by decide +kernel
theorem dX11_fault_28 : decode cX11_fault 28 = .ok (.getfield 16, 3) := by decide +kernel
theorem dX11_fault_31 : decode cX11_fault 31 = .ok (.getfield 90, 3) := by decide +kernel
theorem dX11_fault_34 : decode cX11_fault 34 = .ok (.goto 4, 3) := by decide +kernel
theorem dX11_fault_37 : decode cX11_fault 37 = .ok (.iconst (-1), 1) := by decide +kernel
theorem dX11_fault_38 : decode cX11_fault 38 = .ok (.ireturn, 1) := by decide +kernel
theorem iX11_fault_in9 : ∀ w ∈ wsX90, w ∈ wsX11_fault := fun _ h => List.mem_cons_of_mem _ (List.mem_append_right _ h)
theorem iX11_fault_in11 : ∀ w ∈ wsX110, w ∈ wsX11_fault := fun _ h => List.mem_cons_of_mem _ (List.mem_append_left _ (List.mem_append_right _ h))
set_option maxHeartbeats 4000000 in
set_option maxRecDepth 100000 in
/-- fault(what) -/
theorem c_X11_fault (l : Launch) (dC : Nat → ClassId) (dI : Nat → Nat → Nat) (h0 : Nat) (a0 a1 a2 a3 : Nat) (sl : Int32) (f5 f6 f7 f8 f9 f10 : Value) (tp : Nat) (len flt plc knd wat num : Int32) (nam : Int64) (nxt : Int32) (what : Int32) (sz : Nat) : Met l yX11_fault wsX11_fault ({ frames := 0, cells := 0, slots := 0, locals := 0 }) (va_Pc [.ref h0, .int what] (fun U => U.heap.size = sz ∧ va_P (dC, dI) vwCl [(h0, .inr (11, [.ref a0, .ref a1, .ref a2, .ref a3, .int sl, f5, f6, f7, f8, f9, f10])), (a1, .inr (9, [.ref tp, .int len, .int flt, .int plc, .int knd, .int wat, .int num, .long nam, .int nxt]))] U.heap ∧ va_K (dC, dI) vwCl [] U ∧ va_D (fun _ => True) [(h0, .inr (11, [.ref a0, .ref a1, .ref a2, .ref a3, .int sl, f5, f6, f7, f8, f9, f10])), (a1, .inr (9, [.ref tp, .int len, .int flt, .int plc, .int knd, .int wat, .int num, .long nam, .int nxt]))])) (va_Qi (fun (r : Int32) (_u : Unit) => r = (if what = 0 then flt else if what = 1 then (if flt = 0 then -1 else plc) else -1)) (fun u t => va_P (dC, dI) vwCl [(h0, .inr (11, [.ref a0, .ref a1, .ref a2, .ref a3, .int sl, f5, f6, f7, f8, f9, f10])), (a1, .inr (9, [.ref tp, .int len, .int flt, .int plc, .int knd, .int wat, .int num, .long nam, .int nxt]))] t.heap ∧ va_K (dC, dI) vwCl [] t ∧ va_D (va_A [(h0, .inr (11, [.ref a0, .ref a1, .ref a2, .ref a3, .int sl, f5, f6, f7, f8, f9, f10])), (a1, .inr (9, [.ref tp, .int len, .int flt, .int plc, .int knd, .int wat, .int num, .long nam, .int nxt]))] sz) [(h0, .inr (11, [.ref a0, .ref a1, .ref a2, .ref a3, .int sl, f5, f6, f7, f8, f9, f10])), (a1, .inr (9, [.ref tp, .int len, .int flt, .int plc, .int knd, .int wat, .int num, .long nam, .int nxt]))]) (va_A [(h0, .inr (11, [.ref a0, .ref a1, .ref a2, .ref a3, .int sl, f5, f6, f7, f8, f9, f10])), (a1, .inr (9, [.ref tp, .int len, .int flt, .int plc, .int knd, .int wat, .int num, .long nam, .int nxt]))] sz)) 0 0 (va_A [(h0, .inr (11, [.ref a0, .ref a1, .ref a2, .ref a3, .int sl, f5, f6, f7, f8, f9, f10])), (a1, .inr (9, [.ref tp, .int len, .int flt, .int plc, .int knd, .int wat, .int num, .long nam, .int nxt]))] sz) := by
  refine Met.ofW (cc := cX11_fault) (maxL := 2) (ret := (some .int)) (by decide) rfl ?_
  intro p e s m args below meth c s₁ B hml hv
  obtain ⟨rfl, hsz, hP, hK, hD0⟩ := hv
  have hx := B.exec
  have hb := B.bytes
  have hr := B.returns
  have hts := atoms_spec (ws := wsX11_fault) B.pre
  have hown : s.vm.findClass RX11 = some m.cls := findClass_of_methodNamed B.named
  have hlocks := B.notSynchronized
  subst hsz
  have hD := hD0.self (sz := s.heap.size)
  generalize hAe : va_A [(h0, .inr (11, [.ref a0, .ref a1, .ref a2, .ref a3, .int sl, f5, f6, f7, f8, f9, f10])), (a1, .inr (9, [.ref tp, .int len, .int flt, .int plc, .int knd, .int wat, .int num, .long nam, .int nxt]))] s.heap.size = A at hD ⊢
  have hA : ∀ q : Nat, s.heap.size ≤ q → A q := fun q h => by rw [← hAe]; exact Or.inr h
  have hS : va_S A s.heap s.heap [] := va_S.rf
  have hP : va_P (dC, dI) vwCl [(h0, .inr (11, [.ref a0, .ref a1, .ref a2, .ref a3, .int sl, f5, f6, f7, f8, f9, f10])), (a1, .inr (9, [.ref tp, .int len, .int flt, .int plc, .int knd, .int wat, .int num, .long nam, .int nxt]))] s.heap := hP
  have hl := lv_entry ([.ref h0, .int what]) (n := 2) (Nat.le_of_ble_eq_true rfl)
  rw [lg_entry_eq]
  generalize (lg_sl ([.ref h0, .int what]) ++ List.replicate (2 - (lg_sl ([.ref h0, .int what])).length) Slot.unset).toArray = ls at hl ⊢
  have hl : lv_has ls 2 [(0, .ref h0), (1, .int what)] := hl
  refine lv_iload_n hx hb dX11_fault_0 rfl (lv_at hl 1 rfl) ?_
  refine lv_if_ne (tgt := 12) hx hb dX11_fault_1 (by decide) (fun c_1 => ?_) (fun c_1 => ?_)
  · refine lv_iload_n hx hb dX11_fault_12 rfl (lv_at hl 1 rfl) ?_
    refine lv_iconst (v := 1) hx hb dX11_fault_13 (by decide) ?_
    refine lv_icmp_ne (tgt := 37) hx hb dX11_fault_14 (by decide) (fun c_14 => ?_) (fun c_14 => ?_)
    · refine lv_iconst (v := (-1)) hx hb dX11_fault_37 (by decide) ?_
      refine W.widen (k := 0) (n := 0) (by decide +kernel) (by decide +kernel) ?_
      exact W.iret (v := (-1)) hx hb hr (fun t ht hW => ⟨⟨(-1), (), rfl, by simp [c_1, c_14], by rw [ht]; exact hP, va_K.moved hW.alike hK, hD⟩, hS.F ht⟩) hS.2.2 dX11_fault_38
    · refine lv_aload_n hx hb dX11_fault_17 rfl (lv_at hl 0 rfl) ?_
      refine va_get (D := (dC, dI)) (ci := 11) (v := .ref a1) (C := RX11) (T := TX11) (N := 11) hx hb hts iX11_fault_in11 hown hK hP 0 rfl rfl 1 (by decide) (hts (.fieldLink RX11 16 "OptimaWorks" "words" "LOptimaWorks$Words;") (by decide +kernel)) (fun _ h9 => h9) rfl dX11_fault_18 ?_
      refine va_get (D := (dC, dI)) (ci := 9) (v := .int flt) (C := RX9) (T := TX9) (N := 9) hx hb hts iX11_fault_in9 hown hK hP 1 rfl rfl 2 (by decide) (hts (.fieldLink RX11 87 "OptimaWorks$Words" "fault" "I") (by decide +kernel)) (fun _ h9 => h9) rfl dX11_fault_21 ?_
      refine lv_if_eq (tgt := 37) hx hb dX11_fault_24 (by decide) (fun c_24 => ?_) (fun c_24 => ?_)
      · refine lv_iconst (v := (-1)) hx hb dX11_fault_37 (by decide) ?_
        refine W.widen (k := 0) (n := 0) (by decide +kernel) (by decide +kernel) ?_
        exact W.iret (v := (-1)) hx hb hr (fun t ht hW => ⟨⟨(-1), (), rfl, by simp [c_1, c_14, c_24], by rw [ht]; exact hP, va_K.moved hW.alike hK, hD⟩, hS.F ht⟩) hS.2.2 dX11_fault_38
      · refine lv_aload_n hx hb dX11_fault_27 rfl (lv_at hl 0 rfl) ?_
        refine va_get (D := (dC, dI)) (ci := 11) (v := .ref a1) (C := RX11) (T := TX11) (N := 11) hx hb hts iX11_fault_in11 hown hK hP 0 rfl rfl 1 (by decide) (hts (.fieldLink RX11 16 "OptimaWorks" "words" "LOptimaWorks$Words;") (by decide +kernel)) (fun _ h9 => h9) rfl dX11_fault_28 ?_
        refine va_get (D := (dC, dI)) (ci := 9) (v := .int plc) (C := RX9) (T := TX9) (N := 9) hx hb hts iX11_fault_in9 hown hK hP 1 rfl rfl 3 (by decide) (hts (.fieldLink RX11 90 "OptimaWorks$Words" "place" "I") (by decide +kernel)) (fun _ h9 => h9) rfl dX11_fault_31 ?_
        refine lv_goto (tgt := 38) hx hb dX11_fault_34 (by decide) ?_
        refine W.widen (k := 0) (n := 0) (by decide +kernel) (by decide +kernel) ?_
        exact W.iret (v := plc) hx hb hr (fun t ht hW => ⟨⟨plc, (), rfl, by simp [c_1, c_14, c_24], by rw [ht]; exact hP, va_K.moved hW.alike hK, hD⟩, hS.F ht⟩) hS.2.2 dX11_fault_38
  · refine lv_aload_n hx hb dX11_fault_4 rfl (lv_at hl 0 rfl) ?_
    refine va_get (D := (dC, dI)) (ci := 11) (v := .ref a1) (C := RX11) (T := TX11) (N := 11) hx hb hts iX11_fault_in11 hown hK hP 0 rfl rfl 1 (by decide) (hts (.fieldLink RX11 16 "OptimaWorks" "words" "LOptimaWorks$Words;") (by decide +kernel)) (fun _ h9 => h9) rfl dX11_fault_5 ?_
    refine va_get (D := (dC, dI)) (ci := 9) (v := .int flt) (C := RX9) (T := TX9) (N := 9) hx hb hts iX11_fault_in9 hown hK hP 1 rfl rfl 2 (by decide) (hts (.fieldLink RX11 87 "OptimaWorks$Words" "fault" "I") (by decide +kernel)) (fun _ h9 => h9) rfl dX11_fault_8 ?_
    refine W.widen (k := 0) (n := 0) (by decide +kernel) (by decide +kernel) ?_
    exact W.iret (v := flt) hx hb hr (fun t ht hW => ⟨⟨flt, (), rfl, by simp [c_1], by rw [ht]; exact hP, va_K.moved hW.alike hK, hD⟩, hS.F ht⟩) hS.2.2 dX11_fault_11
def wsX11_feed : List Cond := .code yX11_feed cX11_feed 6 none :: ([.fieldLink RX11 9 "OptimaWorks" "ready" "[I"] ++ wsX110)
theorem dX11_feed_0 : decode cX11_feed 0 = .ok (.aload_n 0, 1) := by decide +kernel
theorem dX11_feed_1 : decode cX11_feed 1 = .ok (.getfield 9, 3) := by decide +kernel
theorem dX11_feed_4 : decode cX11_feed 4 = .ok (.iconst 0, 1) := by decide +kernel
theorem dX11_feed_5 : decode cX11_feed 5 = .ok (.iload_n 1, 1) := by decide +kernel
theorem dX11_feed_6 : decode cX11_feed 6 = .ok (.iastore, 1) := by decide +kernel
theorem dX11_feed_7 : decode cX11_feed 7 = .ok (.aload_n 0, 1) := by decide +kernel
theorem dX11_feed_8 : decode cX11_feed 8 = .ok (.getfield 9, 3) := by decide +kernel
theorem dX11_feed_11 : decode cX11_feed 11 = .ok (.iconst 1, 1) := by decide +kernel
theorem dX11_feed_12 : decode cX11_feed 12 = .ok (.iload_n 2, 1) := by decide +kernel
theorem dX11_feed_13 : decode cX11_feed 13 = .ok (.iastore, 1) := by decide +kernel
theorem dX11_feed_14 : decode cX11_feed 14 = .ok (.aload_n 0, 1) := by decide +kernel
theorem dX11_feed_15 : decode cX11_feed 15 = .ok (.getfield 9, 3) := by decide +kernel
theorem dX11_feed_18 : decode cX11_feed 18 = .ok (.iconst 2, 1) := by decide +kernel
theorem dX11_feed_19 : decode cX11_feed 19 = .ok (.iload_n 3, 1) := by decide +kernel
theorem dX11_feed_20 : decode cX11_feed 20 = .ok (.iastore, 1) := by decide +kernel
theorem dX11_feed_21 : decode cX11_feed 21 = .ok (.aload_n 0, 1) := by decide +kernel
theorem dX11_feed_22 : decode cX11_feed 22 = .ok (.getfield 9, 3) := by decide +kernel
theorem dX11_feed_25 : decode cX11_feed 25 = .ok (.iconst 3, 1) := by decide +kernel
theorem dX11_feed_26 : decode cX11_feed 26 = .ok (.iload 4, 2) := by decide +kernel
theorem dX11_feed_28 : decode cX11_feed 28 = .ok (.iastore, 1) := by decide +kernel
theorem dX11_feed_29 : decode cX11_feed 29 = .ok (.aload_n 0, 1) := by decide +kernel
theorem dX11_feed_30 : decode cX11_feed 30 = .ok (.getfield 9, 3) := by decide +kernel
theorem dX11_feed_33 : decode cX11_feed 33 = .ok (.iconst 4, 1) := by decide +kernel
theorem dX11_feed_34 : decode cX11_feed 34 = .ok (.iload 5, 2) := by decide +kernel
theorem dX11_feed_36 : decode cX11_feed 36 = .ok (.iastore, 1) := by decide +kernel
theorem dX11_feed_37 : decode cX11_feed 37 = .ok (.return_, 1) := by decide +kernel
theorem iX11_feed_in11 : ∀ w ∈ wsX110, w ∈ wsX11_feed := fun _ h => List.mem_cons_of_mem _ (List.mem_append_right _ h)
set_option maxHeartbeats 4000000 in
set_option maxRecDepth 100000 in
/-- feed(a, b, c, d, e): the five are ready -/
theorem c_X11_feed (l : Launch) (dC : Nat → ClassId) (dI : Nat → Nat → Nat) (h0 : Nat) (a0 a1 a2 a3 : Nat) (sl : Int32) (f5 f6 f7 f8 f9 f10 : Value) (kR : ClassId) (rd : Nat → Int32) (p1 p2 p3 p4 p5 : Int32) (sz : Nat) : Met l yX11_feed wsX11_feed ({ frames := 0, cells := 0, slots := 0, locals := 0 }) (va_Pc [.ref h0, .int p1, .int p2, .int p3, .int p4, .int p5] (fun U => U.heap.size = sz ∧ va_P (dC, dI) vwCl [(h0, .inr (11, [.ref a0, .ref a1, .ref a2, .ref a3, .int sl, f5, f6, f7, f8, f9, f10])), (a0, .inl (kR, 5, .inl rd))] U.heap ∧ va_K (dC, dI) vwCl [(kR, .int)] U ∧ va_D (fun _ => True) [(h0, .inr (11, [.ref a0, .ref a1, .ref a2, .ref a3, .int sl, f5, f6, f7, f8, f9, f10])), (a0, .inl (kR, 5, .inl rd))])) (va_Qv (fun _ : Unit => True) (fun u t => va_P (dC, dI) vwCl [(h0, .inr (11, [.ref a0, .ref a1, .ref a2, .ref a3, .int sl, f5, f6, f7, f8, f9, f10])), (a0, .inl (kR, 5, .inl (upd (upd (upd (upd (upd rd 0 p1) 1 p2) 2 p3) 3 p4) 4 p5)))] t.heap ∧ va_K (dC, dI) vwCl [(kR, .int)] t ∧ va_D (va_A [(h0, .inr (11, [.ref a0, .ref a1, .ref a2, .ref a3, .int sl, f5, f6, f7, f8, f9, f10])), (a0, .inl (kR, 5, .inl rd))] sz) [(h0, .inr (11, [.ref a0, .ref a1, .ref a2, .ref a3, .int sl, f5, f6, f7, f8, f9, f10])), (a0, .inl (kR, 5, .inl (upd (upd (upd (upd (upd rd 0 p1) 1 p2) 2 p3) 3 p4) 4 p5)))]) (va_A [(h0, .inr (11, [.ref a0, .ref a1, .ref a2, .ref a3, .int sl, f5, f6, f7, f8, f9, f10])), (a0, .inl (kR, 5, .inl rd))] sz)) 0 0 (va_A [(h0, .inr (11, [.ref a0, .ref a1, .ref a2, .ref a3, .int sl, f5, f6, f7, f8, f9, f10])), (a0, .inl (kR, 5, .inl rd))] sz) := by
  refine Met.ofW (cc := cX11_feed) (maxL := 6) (ret := none) (by decide) rfl ?_
  intro p e s m args below meth c s₁ B hml hv
  obtain ⟨rfl, hsz, hP, hK, hD0⟩ := hv
  have hx := B.exec
  have hb := B.bytes
  have hr := B.returns
  have hts := atoms_spec (ws := wsX11_feed) B.pre
  have hown : s.vm.findClass RX11 = some m.cls := findClass_of_methodNamed B.named
  have hlocks := B.notSynchronized
  subst hsz
  have hD := hD0.self (sz := s.heap.size)
  generalize hAe : va_A [(h0, .inr (11, [.ref a0, .ref a1, .ref a2, .ref a3, .int sl, f5, f6, f7, f8, f9, f10])), (a0, .inl (kR, 5, .inl rd))] s.heap.size = A at hD ⊢
  have hA : ∀ q : Nat, s.heap.size ≤ q → A q := fun q h => by rw [← hAe]; exact Or.inr h
  have hS : va_S A s.heap s.heap [] := va_S.rf
  have hP : va_P (dC, dI) vwCl [(h0, .inr (11, [.ref a0, .ref a1, .ref a2, .ref a3, .int sl, f5, f6, f7, f8, f9, f10])), (a0, .inl (kR, 5, .inl rd))] s.heap := hP
  have hl := lv_entry ([.ref h0, .int p1, .int p2, .int p3, .int p4, .int p5]) (n := 6) (Nat.le_of_ble_eq_true rfl)
  rw [lg_entry_eq]
  generalize (lg_sl ([.ref h0, .int p1, .int p2, .int p3, .int p4, .int p5]) ++ List.replicate (6 - (lg_sl ([.ref h0, .int p1, .int p2, .int p3, .int p4, .int p5])).length) Slot.unset).toArray = ls at hl ⊢
  have hl : lv_has ls 6 [(0, .ref h0), (1, .int p1), (2, .int p2), (3, .int p3), (4, .int p4), (5, .int p5)] := hl
  refine lv_aload_n hx hb dX11_feed_0 rfl (lv_at hl 0 rfl) ?_
  refine va_get (D := (dC, dI)) (ci := 11) (v := .ref a0) (C := RX11) (T := TX11) (N := 11) hx hb hts iX11_feed_in11 hown hK hP 0 rfl rfl 0 (by decide) (hts (.fieldLink RX11 9 "OptimaWorks" "ready" "[I") (by decide +kernel)) (fun _ h9 => h9) rfl dX11_feed_1 ?_
  refine lv_iconst (v := 0) hx hb dX11_feed_4 (by decide) ?_
  refine lv_iload_n hx hb dX11_feed_5 rfl (lv_at hl 1 rfl) ?_
  refine va_iast hx hb hK hP hD hS 1 0 rfl rfl (show ¬ ((0 : Int32) < 0 ∨ 5 ≤ (0 : Int32).toNatClampNeg) by decide) dX11_feed_6 (fun H locs hP hD hS => ?_)
  have hP : va_P (dC, dI) vwCl [(h0, .inr (11, [.ref a0, .ref a1, .ref a2, .ref a3, .int sl, f5, f6, f7, f8, f9, f10])), (a0, .inl (kR, 5, .inl (upd rd 0 p1)))] H := hP
  have hD : va_D A [(h0, .inr (11, [.ref a0, .ref a1, .ref a2, .ref a3, .int sl, f5, f6, f7, f8, f9, f10])), (a0, .inl (kR, 5, .inl (upd rd 0 p1)))] := hD
  refine lv_aload_n hx hb dX11_feed_7 rfl (lv_at hl 0 rfl) ?_
  refine va_get (D := (dC, dI)) (ci := 11) (v := .ref a0) (C := RX11) (T := TX11) (N := 11) hx hb hts iX11_feed_in11 hown hK hP 0 rfl rfl 0 (by decide) (hts (.fieldLink RX11 9 "OptimaWorks" "ready" "[I") (by decide +kernel)) (fun _ h9 => h9) rfl dX11_feed_8 ?_
  refine lv_iconst (v := 1) hx hb dX11_feed_11 (by decide) ?_
  refine lv_iload_n hx hb dX11_feed_12 rfl (lv_at hl 2 rfl) ?_
  refine va_iast hx hb hK hP hD hS 1 0 rfl rfl (show ¬ ((1 : Int32) < 0 ∨ 5 ≤ (1 : Int32).toNatClampNeg) by decide) dX11_feed_13 (fun H locs hP hD hS => ?_)
  have hP : va_P (dC, dI) vwCl [(h0, .inr (11, [.ref a0, .ref a1, .ref a2, .ref a3, .int sl, f5, f6, f7, f8, f9, f10])), (a0, .inl (kR, 5, .inl (upd (upd rd 0 p1) 1 p2)))] H := hP
  have hD : va_D A [(h0, .inr (11, [.ref a0, .ref a1, .ref a2, .ref a3, .int sl, f5, f6, f7, f8, f9, f10])), (a0, .inl (kR, 5, .inl (upd (upd rd 0 p1) 1 p2)))] := hD
  refine lv_aload_n hx hb dX11_feed_14 rfl (lv_at hl 0 rfl) ?_
  refine va_get (D := (dC, dI)) (ci := 11) (v := .ref a0) (C := RX11) (T := TX11) (N := 11) hx hb hts iX11_feed_in11 hown hK hP 0 rfl rfl 0 (by decide) (hts (.fieldLink RX11 9 "OptimaWorks" "ready" "[I") (by decide +kernel)) (fun _ h9 => h9) rfl dX11_feed_15 ?_
  refine lv_iconst (v := 2) hx hb dX11_feed_18 (by decide) ?_
  refine lv_iload_n hx hb dX11_feed_19 rfl (lv_at hl 3 rfl) ?_
  refine va_iast hx hb hK hP hD hS 1 0 rfl rfl (show ¬ ((2 : Int32) < 0 ∨ 5 ≤ (2 : Int32).toNatClampNeg) by decide) dX11_feed_20 (fun H locs hP hD hS => ?_)
  have hP : va_P (dC, dI) vwCl [(h0, .inr (11, [.ref a0, .ref a1, .ref a2, .ref a3, .int sl, f5, f6, f7, f8, f9, f10])), (a0, .inl (kR, 5, .inl (upd (upd (upd rd 0 p1) 1 p2) 2 p3)))] H := hP
  have hD : va_D A [(h0, .inr (11, [.ref a0, .ref a1, .ref a2, .ref a3, .int sl, f5, f6, f7, f8, f9, f10])), (a0, .inl (kR, 5, .inl (upd (upd (upd rd 0 p1) 1 p2) 2 p3)))] := hD
  refine lv_aload_n hx hb dX11_feed_21 rfl (lv_at hl 0 rfl) ?_
  refine va_get (D := (dC, dI)) (ci := 11) (v := .ref a0) (C := RX11) (T := TX11) (N := 11) hx hb hts iX11_feed_in11 hown hK hP 0 rfl rfl 0 (by decide) (hts (.fieldLink RX11 9 "OptimaWorks" "ready" "[I") (by decide +kernel)) (fun _ h9 => h9) rfl dX11_feed_22 ?_
  refine lv_iconst (v := 3) hx hb dX11_feed_25 (by decide) ?_
  refine lv_iload hx hb dX11_feed_26 (lv_at hl 4 rfl) ?_
  refine va_iast hx hb hK hP hD hS 1 0 rfl rfl (show ¬ ((3 : Int32) < 0 ∨ 5 ≤ (3 : Int32).toNatClampNeg) by decide) dX11_feed_28 (fun H locs hP hD hS => ?_)
  have hP : va_P (dC, dI) vwCl [(h0, .inr (11, [.ref a0, .ref a1, .ref a2, .ref a3, .int sl, f5, f6, f7, f8, f9, f10])), (a0, .inl (kR, 5, .inl (upd (upd (upd (upd rd 0 p1) 1 p2) 2 p3) 3 p4)))] H := hP
  have hD : va_D A [(h0, .inr (11, [.ref a0, .ref a1, .ref a2, .ref a3, .int sl, f5, f6, f7, f8, f9, f10])), (a0, .inl (kR, 5, .inl (upd (upd (upd (upd rd 0 p1) 1 p2) 2 p3) 3 p4)))] := hD
  refine lv_aload_n hx hb dX11_feed_29 rfl (lv_at hl 0 rfl) ?_
  refine va_get (D := (dC, dI)) (ci := 11) (v := .ref a0) (C := RX11) (T := TX11) (N := 11) hx hb hts iX11_feed_in11 hown hK hP 0 rfl rfl 0 (by decide) (hts (.fieldLink RX11 9 "OptimaWorks" "ready" "[I") (by decide +kernel)) (fun _ h9 => h9) rfl dX11_feed_30 ?_
  refine lv_iconst (v := 4) hx hb dX11_feed_33 (by decide) ?_
  refine lv_iload hx hb dX11_feed_34 (lv_at hl 5 rfl) ?_
  refine va_iast hx hb hK hP hD hS 1 0 rfl rfl (show ¬ ((4 : Int32) < 0 ∨ 5 ≤ (4 : Int32).toNatClampNeg) by decide) dX11_feed_36 (fun H locs hP hD hS => ?_)
  have hP : va_P (dC, dI) vwCl [(h0, .inr (11, [.ref a0, .ref a1, .ref a2, .ref a3, .int sl, f5, f6, f7, f8, f9, f10])), (a0, .inl (kR, 5, .inl (upd (upd (upd (upd (upd rd 0 p1) 1 p2) 2 p3) 3 p4) 4 p5)))] H := hP
  have hD : va_D A [(h0, .inr (11, [.ref a0, .ref a1, .ref a2, .ref a3, .int sl, f5, f6, f7, f8, f9, f10])), (a0, .inl (kR, 5, .inl (upd (upd (upd (upd (upd rd 0 p1) 1 p2) 2 p3) 3 p4) 4 p5)))] := hD
  refine W.widen (k := 0) (n := 0) (by decide +kernel) (by decide +kernel) ?_
  exact W.vret hx hb hr (fun t ht hW => ⟨⟨(), rfl, trivial, by rw [ht]; exact hP, va_K.moved hW.alike hK, hD⟩, hS.F ht⟩) hS.2.2 dX11_feed_37

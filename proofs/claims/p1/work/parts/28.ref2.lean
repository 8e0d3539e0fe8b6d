theorem dX12_cost_0 : decode cX12_cost 0 = .ok (.iconst 0, 1) := by decide +kernel
theorem dX12_cost_1 : decode cX12_cost 1 = .ok (.istore_n 2, 1) := by decide +kernel
theorem dX12_cost_2 : decode cX12_cost 2 = .ok (.iconst 0, 1) := by decide +kernel
theorem dX12_cost_3 : decode cX12_cost 3 = .ok (.istore_n 3, 1) := by decide +kernel
theorem dX12_cost_4 : decode cX12_cost 4 = .ok (.iload_n 3, 1) := by decide +kernel
theorem dX12_cost_5 : decode cX12_cost 5 = .ok (.aload_n 0, 1) := by decide +kernel
theorem dX12_cost_6 : decode cX12_cost 6 = .ok (.getfield 1051, 3) := by decide +kernel
theorem dX12_cost_9 : decode cX12_cost 9 = .ok (.if_icmp .ge 41, 3) := by decide +kernel
theorem dX12_cost_50 : decode cX12_cost 50 = .ok (.iload_n 2, 1) := by decide +kernel
theorem dX12_cost_51 : decode cX12_cost 51 = .ok (.ireturn, 1) := by decide +kernel
def wsPX12_cost : List Cond := .code yX12_cost cX12_cost 4 (some .int) :: ([.fieldLink RX12 1051 "OptimaWorksModel" "clauses" "I"] ++ wsX120)
theorem iwsPX12_cost_in12 : ∀ w ∈ wsX120, w ∈ wsPX12_cost := fun _ h => List.mem_cons_of_mem _ (List.mem_append_right _ h)
set_option maxHeartbeats 4000000 in
set_option maxRecDepth 100000 in
/-- cost(t) without clauses -/
theorem p_X12_cost (l : Launch) (dC : Nat → ClassId) (dI : Nat → Nat → Nat) (h0 : Nat) (v : Nat → Value) (h_clauses : v 146 = .int 0) (qt : Int32) (sz : Nat) : Met l yX12_cost wsPX12_cost ({ frames := 0, cells := 0, slots := 0, locals := 0 }) (va_Pc [.ref h0, .int qt] (fun U => U.heap.size = sz ∧ va_P (dC, dI) vwCl [(h0, .inr (12, fM v))] U.heap ∧ va_K (dC, dI) vwCl [] U ∧ va_D (fun _ => True) [(h0, .inr (12, fM v))])) (va_Qi (fun (r : Int32) (u : Unit) => r = 0) (fun (u : Unit) t => va_P (dC, dI) vwCl [(h0, .inr (12, fM v))] t.heap ∧ va_K (dC, dI) vwCl [] t ∧ va_D (va_A [(h0, .inr (12, fM v))] sz) [(h0, .inr (12, fM v))]) (va_A [(h0, .inr (12, fM v))] sz)) 0 0 (va_A [(h0, .inr (12, fM v))] sz) := by
  refine Met.ofW (cc := cX12_cost) (maxL := 4) (ret := (some .int)) (by decide) rfl ?_
  intro p e s m args below meth c s₁ B hml hv
  obtain ⟨rfl, hsz, hP, hK, hD0⟩ := hv
  have hx := B.exec
  have hb := B.bytes
  have hr := B.returns
  have hts := atoms_spec (ws := wsPX12_cost) B.pre
  have hown : s.vm.findClass RX12 = some m.cls := findClass_of_methodNamed B.named
  have hlocks := B.notSynchronized
  subst hsz
  have hD := hD0.self (sz := s.heap.size)
  generalize hAe : va_A [(h0, .inr (12, fM v))] s.heap.size = A at hD ⊢
  have hA : ∀ q : Nat, s.heap.size ≤ q → A q := fun q h => by rw [← hAe]; exact Or.inr h
  have hS : va_S A s.heap s.heap [] := va_S.rf
  have hP : va_P (dC, dI) vwCl [(h0, .inr (12, fM v))] s.heap := hP
  have hl := lv_entry ([.ref h0, .int qt]) (n := 4) (Nat.le_of_ble_eq_true rfl)
  rw [lg_entry_eq]
  generalize (lg_sl ([.ref h0, .int qt]) ++ List.replicate (4 - (lg_sl ([.ref h0, .int qt])).length) Slot.unset).toArray = ls at hl ⊢
  have hl : lv_has ls 4 [(0, .ref h0), (1, .int qt)] := hl
  refine lv_iconst (v := 0) hx hb dX12_cost_0 (by decide) ?_
  refine lv_istore_n (lv' := [(2, .int 0), (0, .ref h0), (1, .int qt)]) hx hb dX12_cost_1 rfl hl (by decide) rfl (fun ls hl => ?_)
  refine lv_iconst (v := 0) hx hb dX12_cost_2 (by decide) ?_
  refine lv_istore_n (lv' := [(3, .int 0), (2, .int 0), (0, .ref h0), (1, .int qt)]) hx hb dX12_cost_3 rfl hl (by decide) rfl (fun ls hl => ?_)
  refine lv_iload_n hx hb dX12_cost_4 rfl (lv_at hl 0 rfl) ?_
  refine lv_aload_n hx hb dX12_cost_5 rfl (lv_at hl 2 rfl) ?_
  refine va_get (D := (dC, dI)) (ci := 12) (v := .int 0) (C := RX12) (T := TX12) (N := 163) hx hb hts iwsPX12_cost_in12 hown hK hP 0 rfl rfl 146 (by decide) (hts (.fieldLink RX12 1051 "OptimaWorksModel" "clauses" "I") (by decide +kernel)) (fun _ h9 => h9) (congrArg some h_clauses) dX12_cost_6 ?_
  refine lv_icmp_ge (tgt := 50) hx hb dX12_cost_9 (by decide) (fun _ => ?_) (fun c9 => absurd (by decide) c9)
  refine lv_iload_n hx hb dX12_cost_50 rfl (lv_at hl 1 rfl) ?_
  refine W.widen (k := 0) (n := 0) (by decide +kernel) (by decide +kernel) ?_
  exact W.iret (v := 0) hx hb hr (fun t ht hW => ⟨⟨0, (), rfl, by (first | rfl | assumption | trivial | omega | (simp []; done) | (simp; omega)), by rw [ht]; exact hP.sub [0] rfl, va_K.moved hW.alike (hK.sub [] rfl), hD.sub [0] (by decide) rfl⟩, hS.F ht⟩) hS.2.2 dX12_cost_51
theorem dX12_models_0 : decode cX12_models 0 = .ok (.iconst 0, 1) := by decide +kernel
theorem dX12_models_1 : decode cX12_models 1 = .ok (.istore_n 2, 1) := by decide +kernel
theorem dX12_models_2 : decode cX12_models 2 = .ok (.iconst 0, 1) := by decide +kernel
theorem dX12_models_3 : decode cX12_models 3 = .ok (.istore_n 3, 1) := by decide +kernel
theorem dX12_models_4 : decode cX12_models 4 = .ok (.iload_n 3, 1) := by decide +kernel
theorem dX12_models_5 : decode cX12_models 5 = .ok (.sipush 4096, 3) := by decide +kernel
theorem dX12_models_8 : decode cX12_models 8 = .ok (.if_icmp .ge 74, 3) := by decide +kernel
theorem dX12_models_11 : decode cX12_models 11 = .ok (.iconst 1, 1) := by decide +kernel
theorem dX12_models_12 : decode cX12_models 12 = .ok (.istore 4, 2) := by decide +kernel
theorem dX12_models_14 : decode cX12_models 14 = .ok (.iconst 0, 1) := by decide +kernel
theorem dX12_models_15 : decode cX12_models 15 = .ok (.istore 5, 2) := by decide +kernel
theorem dX12_models_17 : decode cX12_models 17 = .ok (.iload 5, 2) := by decide +kernel
theorem dX12_models_19 : decode cX12_models 19 = .ok (.aload_n 0, 1) := by decide +kernel
theorem dX12_models_20 : decode cX12_models 20 = .ok (.getfield 1051, 3) := by decide +kernel
theorem dX12_models_23 : decode cX12_models 23 = .ok (.if_icmp .ge 40, 3) := by decide +kernel
theorem dX12_models_63 : decode cX12_models 63 = .ok (.iload_n 2, 1) := by decide +kernel
theorem dX12_models_64 : decode cX12_models 64 = .ok (.iload 4, 2) := by decide +kernel
theorem dX12_models_66 : decode cX12_models 66 = .ok (.ifCond .eq 7, 3) := by decide +kernel
theorem dX12_models_69 : decode cX12_models 69 = .ok (.iconst 1, 1) := by decide +kernel
theorem dX12_models_70 : decode cX12_models 70 = .ok (.goto 4, 3) := by decide +kernel
theorem dX12_models_74 : decode cX12_models 74 = .ok (.iadd, 1) := by decide +kernel
theorem dX12_models_75 : decode cX12_models 75 = .ok (.istore_n 2, 1) := by decide +kernel
theorem dX12_models_76 : decode cX12_models 76 = .ok (.iinc 3 1, 3) := by decide +kernel
theorem dX12_models_79 : decode cX12_models 79 = .ok (.goto (-75), 3) := by decide +kernel
theorem dX12_models_82 : decode cX12_models 82 = .ok (.iload_n 2, 1) := by decide +kernel
theorem dX12_models_83 : decode cX12_models 83 = .ok (.ireturn, 1) := by decide +kernel
def wsPX12_models : List Cond := .code yX12_models cX12_models 6 (some .int) :: ([.fieldLink RX12 1051 "OptimaWorksModel" "clauses" "I"] ++ wsX120)
theorem iwsPX12_models_in12 : ∀ w ∈ wsX120, w ∈ wsPX12_models := fun _ h => List.mem_cons_of_mem _ (List.mem_append_right _ h)
set_option maxHeartbeats 4000000 in
set_option maxRecDepth 100000 in
/-- models(some) without clauses -/
theorem p_X12_models (l : Launch) (dC : Nat → ClassId) (dI : Nat → Nat → Nat) (h0 : Nat) (v : Nat → Value) (h_clauses : v 146 = .int 0) (qs : Int32) (sz : Nat) : Met l yX12_models wsPX12_models ({ frames := 0, cells := 0, slots := 0, locals := 0 }) (va_Pc [.ref h0, .int qs] (fun U => U.heap.size = sz ∧ va_P (dC, dI) vwCl [(h0, .inr (12, fM v))] U.heap ∧ va_K (dC, dI) vwCl [] U ∧ va_D (fun _ => True) [(h0, .inr (12, fM v))])) (va_Qi (fun (r : Int32) (u : Unit) => ((r).toInt = 4096)) (fun (u : Unit) t => va_P (dC, dI) vwCl [(h0, .inr (12, fM v))] t.heap ∧ va_K (dC, dI) vwCl [] t ∧ va_D (va_A [(h0, .inr (12, fM v))] sz) [(h0, .inr (12, fM v))]) (va_A [(h0, .inr (12, fM v))] sz)) 0 0 (va_A [(h0, .inr (12, fM v))] sz) := by
  refine Met.ofW (cc := cX12_models) (maxL := 6) (ret := (some .int)) (by decide) rfl ?_
  intro p e s m args below meth c s₁ B hml hv
  obtain ⟨rfl, hsz, hP, hK, hD0⟩ := hv
  have hx := B.exec
  have hb := B.bytes
  have hr := B.returns
  have hts := atoms_spec (ws := wsPX12_models) B.pre
  have hown : s.vm.findClass RX12 = some m.cls := findClass_of_methodNamed B.named
  have hlocks := B.notSynchronized
  subst hsz
  have hD := hD0.self (sz := s.heap.size)
  generalize hAe : va_A [(h0, .inr (12, fM v))] s.heap.size = A at hD ⊢
  have hA : ∀ q : Nat, s.heap.size ≤ q → A q := fun q h => by rw [← hAe]; exact Or.inr h
  have hS : va_S A s.heap s.heap [] := va_S.rf
  have hP : va_P (dC, dI) vwCl [(h0, .inr (12, fM v))] s.heap := hP
  have hl := lv_entry ([.ref h0, .int qs]) (n := 6) (Nat.le_of_ble_eq_true rfl)
  rw [lg_entry_eq]
  generalize (lg_sl ([.ref h0, .int qs]) ++ List.replicate (6 - (lg_sl ([.ref h0, .int qs])).length) Slot.unset).toArray = ls at hl ⊢
  have hl : lv_has ls 6 [(0, .ref h0), (1, .int qs)] := hl
  refine lv_iconst (v := 0) hx hb dX12_models_0 (by decide) ?_
  refine lv_istore_n (lv' := [(2, .int 0), (0, .ref h0), (1, .int qs)]) hx hb dX12_models_1 rfl hl (by decide) rfl (fun ls hl => ?_)
  refine lv_iconst (v := 0) hx hb dX12_models_2 (by decide) ?_
  refine lv_istore_n (lv' := [(3, .int 0), (2, .int 0), (0, .ref h0), (1, .int qs)]) hx hb dX12_models_3 rfl hl (by decide) rfl (fun ls hl => ?_)
  have hl := lv_sub hl [1, 0, 2, 3] (l' := [(2, .int (nI 0)), (3, .int (nI 0)), (0, .ref h0), (1, .int qs)]) rfl
  refine (fun (loop : ∀ (n9 : Nat) (i : Nat) (H : Heap) (locs : List Loc) (ls : Array Slot), (i ≤ 4096) →  (4096 < i + n9) → va_P (dC, dI) vwCl [(h0, .inr (12, fM v))] H → va_D A [(h0, .inr (12, fM v))] → va_S A s.heap H locs → lv_has ls 6 [(2, .int (nI i)), (3, .int (nI i)), (0, .ref h0), (1, .int qs)] → W p l e _ s m _ below meth c H locs 0 0 _ (F0 m 4 ls [])) => loop (4097) 0 _ _ _ (by omega) (by omega) hP hD hS hl) ?_
  intro n9
  induction n9 with
  | zero => intro i H locs ls hi hf9; exact False.elim (by omega)
  | succ n9 ih4 =>
    intro i H locs ls hi hf4 hP hD hS hl
    refine lv_iload_n hx hb dX12_models_4 rfl (lv_at hl 1 rfl) ?_
    refine lv_sipush (v := 4096) hx hb dX12_models_5 (by decide) ?_
    refine lv_icmp_ge (tgt := 82) hx hb dX12_models_8 (by decide) (fun c_8 => ?_) (fun c_8 => ?_)
    · have t_8 : ((i : Nat) : Int) ≥ 4096 := toI_ge c_8 (nI_toInt (by omega)) (by decide)
      refine lv_iload_n hx hb dX12_models_82 rfl (lv_at hl 0 rfl) ?_
      refine W.widen (k := 0) (n := 0) (by decide +kernel) (by decide +kernel) ?_
      exact W.iret (v := (nI i)) hx hb hr (fun t ht hW => ⟨⟨(nI i), (), rfl, by (try dsimp only); rw [nI_toInt (by omega)]; omega, by rw [ht]; exact hP.sub [0] rfl, va_K.moved hW.alike (hK.sub [] rfl), hD.sub [0] (by decide) rfl⟩, hS.F ht⟩) hS.2.2 dX12_models_83
    · have t_8 : ¬ ((i : Nat) : Int) ≥ 4096 := toI_nge c_8 (nI_toInt (by omega)) (by decide)
      refine lv_iconst (v := 1) hx hb dX12_models_11 (by decide) ?_
      refine lv_istore (lv' := [(4, .int 1), (2, .int (nI i)), (3, .int (nI i)), (0, .ref h0), (1, .int qs)]) hx hb dX12_models_12 hl (by decide) rfl (fun ls hl => ?_)
      refine lv_iconst (v := 0) hx hb dX12_models_14 (by decide) ?_
      refine lv_istore (lv' := [(5, .int 0), (4, .int 1), (2, .int (nI i)), (3, .int (nI i)), (0, .ref h0), (1, .int qs)]) hx hb dX12_models_15 hl (by decide) rfl (fun ls hl => ?_)
      refine lv_iload hx hb dX12_models_17 (lv_at hl 0 rfl) ?_
      refine lv_aload_n hx hb dX12_models_19 rfl (lv_at hl 4 rfl) ?_
      refine va_get (D := (dC, dI)) (ci := 12) (v := .int 0) (C := RX12) (T := TX12) (N := 163) hx hb hts iwsPX12_models_in12 hown hK hP 0 rfl rfl 146 (by decide) (hts (.fieldLink RX12 1051 "OptimaWorksModel" "clauses" "I") (by decide +kernel)) (fun _ h9 => h9) (congrArg some h_clauses) dX12_models_20 ?_
      refine lv_icmp_ge (tgt := 63) hx hb dX12_models_23 (by decide) (fun _ => ?_) (fun c9 => absurd (by decide) c9)
      refine lv_iload_n hx hb dX12_models_63 rfl (lv_at hl 2 rfl) ?_
      refine lv_iload hx hb dX12_models_64 (lv_at hl 1 rfl) ?_
      refine lv_if_eq (tgt := 73) hx hb dX12_models_66 (by decide) (fun c9 => absurd c9 (by decide)) (fun _ => ?_)
      refine lv_iconst (v := 1) hx hb dX12_models_69 (by decide) ?_
      refine lv_goto (tgt := 74) hx hb dX12_models_70 (by decide) ?_
      refine lv_iadd hx hb dX12_models_74 ?_
      refine lv_topi (fun y1 hy1 => ?_)
      obtain rfl : (nI (i + 1)) = y1 := (hy1.trans (nI_add i 1)).symm
      refine lv_istore_n (lv' := [(2, .int (nI (i + 1))), (5, .int 0), (4, .int 1), (3, .int (nI i)), (0, .ref h0), (1, .int qs)]) hx hb dX12_models_75 rfl hl (by decide) rfl (fun ls hl => ?_)
      refine lv_iinc (v := (nI (i + 1))) (lv' := [(3, .int (nI (i + 1))), (2, .int (nI (i + 1))), (5, .int 0), (4, .int 1), (0, .ref h0), (1, .int qs)]) hx hb dX12_models_76 hl (k := 3) rfl (nI_add i 1) (by decide) rfl (fun ls hl => ?_)
      refine lv_goto (tgt := 4) hx hb dX12_models_79 (by decide) ?_
      have hl := lv_sub hl [1, 0, 4, 5] (l' := [(2, .int (nI (i + 1))), (3, .int (nI (i + 1))), (0, .ref h0), (1, .int qs)]) rfl
      exact ih4 (i + 1) _ _ _ (by omega) (by omega) hP hD hS hl
theorem dX12_core_0 : decode cX12_core 0 = .ok (.iconst 1, 1) := by decide +kernel
theorem dX12_core_1 : decode cX12_core 1 = .ok (.aload_n 0, 1) := by decide +kernel
theorem dX12_core_2 : decode cX12_core 2 = .ok (.getfield 1051, 3) := by decide +kernel
theorem dX12_core_5 : decode cX12_core 5 = .ok (.ishl, 1) := by decide +kernel
theorem dX12_core_6 : decode cX12_core 6 = .ok (.iconst 1, 1) := by decide +kernel
theorem dX12_core_7 : decode cX12_core 7 = .ok (.isub, 1) := by decide +kernel
theorem dX12_core_8 : decode cX12_core 8 = .ok (.istore_n 1, 1) := by decide +kernel
theorem dX12_core_9 : decode cX12_core 9 = .ok (.aload_n 0, 1) := by decide +kernel
theorem dX12_core_10 : decode cX12_core 10 = .ok (.iload_n 1, 1) := by decide +kernel
theorem dX12_core_11 : decode cX12_core 11 = .ok (.invokevirtual 1057, 3) := by decide +kernel
theorem dX12_core_14 : decode cX12_core 14 = .ok (.ifCond .le 5, 3) := by decide +kernel
theorem dX12_core_17 : decode cX12_core 17 = .ok (.iconst 0, 1) := by decide +kernel
theorem dX12_core_18 : decode cX12_core 18 = .ok (.ireturn, 1) := by decide +kernel
def wsPX12_core : List Cond := .code yX12_core cX12_core 3 (some .int) :: ([.fieldLink RX12 1051 "OptimaWorksModel" "clauses" "I"] ++ wsX120 ++ (wsV RX12 1057 RX12 yX12_models wsPX12_models))
theorem iwsPX12_core_in12 : ∀ w ∈ wsX120, w ∈ wsPX12_core := fun _ h => List.mem_cons_of_mem _ (List.mem_append_left _ (List.mem_append_right _ h))
theorem gwsPX12_core_0 : GoodIn wsPX12_core (wsV RX12 1057 RX12 yX12_models wsPX12_models) := goodIn_sub (fun _ h => List.mem_cons_of_mem _ (List.mem_append_right _ h)) (by decide +kernel)
set_option maxHeartbeats 4000000 in
set_option maxRecDepth 100000 in
/-- core() without clauses -/
theorem p_X12_core (l : Launch) (dC : Nat → ClassId) (dI : Nat → Nat → Nat) (h0 : Nat) (v : Nat → Value) (h_clauses : v 146 = .int 0) (sz : Nat) : Met l yX12_core wsPX12_core ({ frames := 1, cells := 0, slots := 0, locals := 25 }) (va_Pc [.ref h0] (fun U => U.heap.size = sz ∧ va_P (dC, dI) vwCl [(h0, .inr (12, fM v))] U.heap ∧ va_K (dC, dI) vwCl [] U ∧ va_D (fun _ => True) [(h0, .inr (12, fM v))])) (va_Qi (fun (r : Int32) (u : Unit) => r = 0) (fun (u : Unit) t => va_P (dC, dI) vwCl [(h0, .inr (12, fM v))] t.heap ∧ va_K (dC, dI) vwCl [] t ∧ va_D (va_A [(h0, .inr (12, fM v))] sz) [(h0, .inr (12, fM v))]) (va_A [(h0, .inr (12, fM v))] sz)) 0 0 (va_A [(h0, .inr (12, fM v))] sz) := by
  refine Met.ofW (cc := cX12_core) (maxL := 3) (ret := (some .int)) (by decide) rfl ?_
  intro p e s m args below meth c s₁ B hml hv
  obtain ⟨rfl, hsz, hP, hK, hD0⟩ := hv
  have hx := B.exec
  have hb := B.bytes
  have hr := B.returns
  have hts := atoms_spec (ws := wsPX12_core) B.pre
  have hown : s.vm.findClass RX12 = some m.cls := findClass_of_methodNamed B.named
  have hlocks := B.notSynchronized
  subst hsz
  have hD := hD0.self (sz := s.heap.size)
  generalize hAe : va_A [(h0, .inr (12, fM v))] s.heap.size = A at hD ⊢
  have hA : ∀ q : Nat, s.heap.size ≤ q → A q := fun q h => by rw [← hAe]; exact Or.inr h
  have hS : va_S A s.heap s.heap [] := va_S.rf
  have hP : va_P (dC, dI) vwCl [(h0, .inr (12, fM v))] s.heap := hP
  have hl := lv_entry ([.ref h0]) (n := 3) (Nat.le_of_ble_eq_true rfl)
  rw [lg_entry_eq]
  generalize (lg_sl ([.ref h0]) ++ List.replicate (3 - (lg_sl ([.ref h0])).length) Slot.unset).toArray = ls at hl ⊢
  have hl : lv_has ls 3 [(0, .ref h0)] := hl
  refine lv_iconst (v := 1) hx hb dX12_core_0 (by decide) ?_
  refine lv_aload_n hx hb dX12_core_1 rfl (lv_at hl 0 rfl) ?_
  refine va_get (D := (dC, dI)) (ci := 12) (v := .int 0) (C := RX12) (T := TX12) (N := 163) hx hb hts iwsPX12_core_in12 hown hK hP 0 rfl rfl 146 (by decide) (hts (.fieldLink RX12 1051 "OptimaWorksModel" "clauses" "I") (by decide +kernel)) (fun _ h9 => h9) (congrArg some h_clauses) dX12_core_2 ?_
  refine lv_ishl hx hb dX12_core_5 ?_
  refine lv_topi (fun y1 hy1 => ?_)
  obtain rfl : 1 = y1 := (hy1.trans (by decide)).symm
  refine lv_iconst (v := 1) hx hb dX12_core_6 (by decide) ?_
  refine lv_isub hx hb dX12_core_7 ?_
  refine lv_topi (fun y2 hy2 => ?_)
  obtain rfl : 0 = y2 := (hy2.trans (by decide)).symm
  refine lv_istore_n (lv' := [(1, .int 0), (0, .ref h0)]) hx hb dX12_core_8 rfl hl (by decide) rfl (fun ls hl => ?_)
  refine lv_aload_n hx hb dX12_core_9 rfl (lv_at hl 1 rfl) ?_
  refine lv_iload_n hx hb dX12_core_10 rfl (lv_at hl 0 rfl) ?_
  have hPc := hP.sub (ws' := [(h0, .inr (12, fM v))]) [0] rfl
  have hDc := hD.sub (ws' := [(h0, .inr (12, fM v))]) [0] (by decide) rfl
  have hKc := hK.sub (tys' := []) [] rfl
  have hFc := va_free (wc := [(h0, .inr (12, fM v))]) hD hS hA [0] rfl
  refine va_calli (va_runV (As := [.int 0]) (rest := []) ⟨hx, hb, hml, hown, hts⟩ (p_X12_models l dC dI h0 v (h_clauses) 0 s.heap.size) (cwV 1 hts gwsPX12_core_0 rfl rfl rfl (by decide +kernel) ⟨by decide +kernel, by decide +kernel⟩) ⟨fun a U g mk q => by obtain ⟨q0, q1, qP, qK, qD⟩ := q; exact ⟨q0, q1, qP, va_K.moved (u := U) (U := U.calling g mk a) (Vm.Alike.refl U.vm) qK, qD⟩, va_recv hKc hPc (ci := 12) (q0 := 0) rfl rfl, fun U hU9 hW => ⟨rfl, by rw [hU9], by rw [hU9]; exact hPc, va_K.moved hW.alike hKc, hDc.weaken (fun _ _ _ _ => trivial)⟩⟩ rfl rfl hl.1 rfl (lv_room (Nat.le_of_ble_eq_true rfl)) dX12_core_11 ⟨by decide +kernel, by decide +kernel⟩) hS (fun q _ h => hFc q h) hFc (fun r11 u t H1 locs ht hvm hw hB hz1 hk1 hS => ?_)
  obtain ⟨hP1, hK1, hD1⟩ := hB
  rw [ht] at hP1
  have hK1 := va_K.moved hvm.symm hK1
  obtain ⟨hP, hD⟩ := va_join (wr := []) (w1 := [(h0, .inr (12, fM v))]) hP hD [0] [] rfl rfl (by decide) (by decide) hk1 hFc hP1 hD1
  generalize H1 = H at hP hS ⊢
  have hP : va_P (dC, dI) vwCl [(h0, .inr (12, fM v))] H := hP
  have hD : va_D A [(h0, .inr (12, fM v))] := hD
  have f11_0 := hw
  try dsimp only at f11_0
  refine lv_if_le (tgt := 19) hx hb dX12_core_14 (by decide) (fun c9 => False.elim (by have t9 : (r11).toInt ≤ 0 := toI_le c9 rfl (by decide); omega)) (fun c_14 => ?_)
  have t_14 : ¬ (r11).toInt ≤ 0 := toI_nle c_14 rfl (by decide)
  refine lv_iconst (v := 0) hx hb dX12_core_17 (by decide) ?_
  refine W.widen (k := 0) (n := 0) (by decide +kernel) (by decide +kernel) ?_
  exact W.iret (v := 0) hx hb hr (fun t ht hW => ⟨⟨0, (), rfl, by (first | rfl | assumption | trivial | omega | (simp []; done) | (simp; omega)), by rw [ht]; exact hP.sub [0] rfl, va_K.moved hW.alike (hK.sub [] rfl), hD.sub [0] (by decide) rfl⟩, hS.F ht⟩) hS.2.2 dX12_core_18
theorem dX12_truth_0 : decode cX12_truth 0 = .ok (.aload_n 0, 1) := by decide +kernel
theorem dX12_truth_1 : decode cX12_truth 1 = .ok (.iconst 0, 1) := by decide +kernel
theorem dX12_truth_2 : decode cX12_truth 2 = .ok (.putfield 348, 3) := by decide +kernel
theorem dX12_truth_5 : decode cX12_truth 5 = .ok (.iload_n 1, 1) := by decide +kernel
theorem dX12_truth_6 : decode cX12_truth 6 = .ok (.iconst 4, 1) := by decide +kernel
theorem dX12_truth_7 : decode cX12_truth 7 = .ok (.if_icmp .ne 8, 3) := by decide +kernel
theorem dX12_truth_10 : decode cX12_truth 10 = .ok (.aload_n 0, 1) := by decide +kernel
theorem dX12_truth_11 : decode cX12_truth 11 = .ok (.getfield 1051, 3) := by decide +kernel
theorem dX12_truth_14 : decode cX12_truth 14 = .ok (.ireturn, 1) := by decide +kernel
theorem dX12_truth_15 : decode cX12_truth 15 = .ok (.iload_n 1, 1) := by decide +kernel
theorem dX12_truth_16 : decode cX12_truth 16 = .ok (.iconst 2, 1) := by decide +kernel
theorem dX12_truth_17 : decode cX12_truth 17 = .ok (.if_icmp .ne 16, 3) := by decide +kernel
theorem dX12_truth_20 : decode cX12_truth 20 = .ok (.aload_n 0, 1) := by decide +kernel
theorem dX12_truth_21 : decode cX12_truth 21 = .ok (.iconst 1, 1) := by decide +kernel
theorem dX12_truth_22 : decode cX12_truth 22 = .ok (.aload_n 0, 1) := by decide +kernel
theorem dX12_truth_23 : decode cX12_truth 23 = .ok (.getfield 1051, 3) := by decide +kernel
theorem dX12_truth_26 : decode cX12_truth 26 = .ok (.ishl, 1) := by decide +kernel
theorem dX12_truth_27 : decode cX12_truth 27 = .ok (.iconst 1, 1) := by decide +kernel
theorem dX12_truth_28 : decode cX12_truth 28 = .ok (.isub, 1) := by decide +kernel
theorem dX12_truth_29 : decode cX12_truth 29 = .ok (.invokevirtual 1057, 3) := by decide +kernel
theorem dX12_truth_32 : decode cX12_truth 32 = .ok (.ireturn, 1) := by decide +kernel
theorem dX12_truth_33 : decode cX12_truth 33 = .ok (.iload_n 1, 1) := by decide +kernel
theorem dX12_truth_34 : decode cX12_truth 34 = .ok (.iconst 3, 1) := by decide +kernel
theorem dX12_truth_35 : decode cX12_truth 35 = .ok (.if_icmp .ne 8, 3) := by decide +kernel
theorem dX12_truth_38 : decode cX12_truth 38 = .ok (.aload_n 0, 1) := by decide +kernel
theorem dX12_truth_39 : decode cX12_truth 39 = .ok (.invokevirtual 1060, 3) := by decide +kernel
theorem dX12_truth_42 : decode cX12_truth 42 = .ok (.ireturn, 1) := by decide +kernel
theorem dX12_truth_43 : decode cX12_truth 43 = .ok (.iload_n 1, 1) := by decide +kernel
theorem dX12_truth_44 : decode cX12_truth 44 = .ok (.ifCond .eq 10, 3) := by decide +kernel
theorem dX12_truth_47 : decode cX12_truth 47 = .ok (.iload_n 1, 1) := by decide +kernel
theorem dX12_truth_48 : decode cX12_truth 48 = .ok (.iconst 1, 1) := by decide +kernel
theorem dX12_truth_49 : decode cX12_truth 49 = .ok (.if_icmp .eq 5, 3) := by decide +kernel
theorem dX12_truth_52 : decode cX12_truth 52 = .ok (.iconst (-1), 1) := by decide +kernel
theorem dX12_truth_53 : decode cX12_truth 53 = .ok (.ireturn, 1) := by decide +kernel
theorem dX12_truth_54 : decode cX12_truth 54 = .ok (.iconst (-1), 1) := by decide +kernel
theorem dX12_truth_55 : decode cX12_truth 55 = .ok (.istore_n 2, 1) := by decide +kernel
theorem dX12_truth_56 : decode cX12_truth 56 = .ok (.iconst (-1), 1) := by decide +kernel
theorem dX12_truth_57 : decode cX12_truth 57 = .ok (.istore_n 3, 1) := by decide +kernel
theorem dX12_truth_58 : decode cX12_truth 58 = .ok (.iconst 0, 1) := by decide +kernel
theorem dX12_truth_59 : decode cX12_truth 59 = .ok (.istore 4, 2) := by decide +kernel
theorem dX12_truth_61 : decode cX12_truth 61 = .ok (.iload 4, 2) := by decide +kernel
theorem dX12_truth_63 : decode cX12_truth 63 = .ok (.sipush 4096, 3) := by decide +kernel
theorem dX12_truth_66 : decode cX12_truth 66 = .ok (.if_icmp .ge 43, 3) := by decide +kernel
theorem dX12_truth_69 : decode cX12_truth 69 = .ok (.aload_n 0, 1) := by decide +kernel
theorem dX12_truth_70 : decode cX12_truth 70 = .ok (.iload 4, 2) := by decide +kernel
theorem dX12_truth_72 : decode cX12_truth 72 = .ok (.invokevirtual 1063, 3) := by decide +kernel
theorem dX12_truth_75 : decode cX12_truth 75 = .ok (.istore 5, 2) := by decide +kernel
theorem dX12_truth_77 : decode cX12_truth 77 = .ok (.iload 5, 2) := by decide +kernel
theorem dX12_truth_79 : decode cX12_truth 79 = .ok (.iconst (-1), 1) := by decide +kernel
theorem dX12_truth_80 : decode cX12_truth 80 = .ok (.if_icmp .eq 23, 3) := by decide +kernel
theorem dX12_truth_83 : decode cX12_truth 83 = .ok (.iload_n 2, 1) := by decide +kernel
theorem dX12_truth_84 : decode cX12_truth 84 = .ok (.iconst (-1), 1) := by decide +kernel
theorem dX12_truth_85 : decode cX12_truth 85 = .ok (.if_icmp .eq 12, 3) := by decide +kernel
theorem dX12_truth_88 : decode cX12_truth 88 = .ok (.iload 5, 2) := by decide +kernel
theorem dX12_truth_90 : decode cX12_truth 90 = .ok (.iload_n 2, 1) := by decide +kernel
theorem dX12_truth_91 : decode cX12_truth 91 = .ok (.if_icmp .lt 6, 3) := by decide +kernel
theorem dX12_truth_94 : decode cX12_truth 94 = .ok (.goto 9, 3) := by decide +kernel
theorem dX12_truth_97 : decode cX12_truth 97 = .ok (.iload 5, 2) := by decide +kernel
theorem dX12_truth_99 : decode cX12_truth 99 = .ok (.istore_n 2, 1) := by decide +kernel
theorem dX12_truth_100 : decode cX12_truth 100 = .ok (.iload 4, 2) := by decide +kernel
theorem dX12_truth_102 : decode cX12_truth 102 = .ok (.istore_n 3, 1) := by decide +kernel
theorem dX12_truth_103 : decode cX12_truth 103 = .ok (.iinc 4 1, 3) := by decide +kernel
theorem dX12_truth_106 : decode cX12_truth 106 = .ok (.goto (-45), 3) := by decide +kernel
theorem dX12_truth_109 : decode cX12_truth 109 = .ok (.iload_n 1, 1) := by decide +kernel
theorem dX12_truth_110 : decode cX12_truth 110 = .ok (.ifCond .ne 7, 3) := by decide +kernel
theorem dX12_truth_113 : decode cX12_truth 113 = .ok (.iload_n 2, 1) := by decide +kernel
theorem dX12_truth_114 : decode cX12_truth 114 = .ok (.goto 4, 3) := by decide +kernel
theorem dX12_truth_117 : decode cX12_truth 117 = .ok (.iload_n 3, 1) := by decide +kernel
theorem dX12_truth_118 : decode cX12_truth 118 = .ok (.ireturn, 1) := by decide +kernel
def wsPX12_truth : List Cond := .code yX12_truth cX12_truth 6 (some .int) :: ([.fieldLink RX12 348 "OptimaWorksModel" "thrown" "I", .fieldLink RX12 1051 "OptimaWorksModel" "clauses" "I"] ++ wsX120 ++ (wsV RX12 1063 RX12 yX12_cost wsPX12_cost) ++ (wsV RX12 1060 RX12 yX12_core wsPX12_core) ++ (wsV RX12 1057 RX12 yX12_models wsPX12_models))
theorem iwsPX12_truth_in12 : ∀ w ∈ wsX120, w ∈ wsPX12_truth := fun _ h => List.mem_cons_of_mem _ (List.mem_append_left _ (List.mem_append_left _ (List.mem_append_left _ (List.mem_append_right _ h))))
theorem gwsPX12_truth_0 : GoodIn wsPX12_truth (wsV RX12 1063 RX12 yX12_cost wsPX12_cost) := goodIn_sub (fun _ h => List.mem_cons_of_mem _ (List.mem_append_left _ (List.mem_append_left _ (List.mem_append_right _ h)))) (by decide +kernel)
theorem gwsPX12_truth_1 : GoodIn wsPX12_truth (wsV RX12 1060 RX12 yX12_core wsPX12_core) := goodIn_sub (fun _ h => List.mem_cons_of_mem _ (List.mem_append_left _ (List.mem_append_right _ h))) (by decide +kernel)
theorem gwsPX12_truth_2 : GoodIn wsPX12_truth (wsV RX12 1057 RX12 yX12_models wsPX12_models) := goodIn_sub (fun _ h => List.mem_cons_of_mem _ (List.mem_append_right _ h)) (by decide +kernel)
set_option maxHeartbeats 4000000 in
set_option maxRecDepth 100000 in
/-- truth(what) without clauses -/
theorem p_X12_truth (l : Launch) (dC : Nat → ClassId) (dI : Nat → Nat → Nat) (h0 : Nat) (v : Nat → Value) (h_clauses : v 146 = .int 0) (wh : Int32) (sz : Nat) : Met l yX12_truth wsPX12_truth ({ frames := 2, cells := 0, slots := 0, locals := 47 }) (va_Pc [.ref h0, .int wh] (fun U => U.heap.size = sz ∧ va_P (dC, dI) vwCl [(h0, .inr (12, fM v))] U.heap ∧ va_K (dC, dI) vwCl [] U ∧ va_D (fun _ => True) [(h0, .inr (12, fM v))])) (va_Qi (fun (r : Int32) (u : Nat → Value) => (((r).toInt = 0) ∧ (0 ≤ (wh).toInt ∧ (wh).toInt ≤ 4 ∧ ¬ (wh).toInt = 2) ∧ (u 0 = .int 0)) ∨ (((r).toInt = 4096) ∧ ((wh).toInt = 2) ∧ (u 0 = .int 0)) ∨ (r = (-1) ∧ ((wh).toInt < 0 ∨ 4 < (wh).toInt) ∧ (u 0 = .int 0))) (fun (u : Nat → Value) t => va_P (dC, dI) vwCl [(h0, .inr (12, fM u))] t.heap ∧ va_K (dC, dI) vwCl [] t ∧ va_D (va_A [(h0, .inr (12, fM v))] sz) [(h0, .inr (12, fM u))]) (va_A [(h0, .inr (12, fM v))] sz)) 0 0 (va_A [(h0, .inr (12, fM v))] sz) := by
  refine Met.ofW (cc := cX12_truth) (maxL := 6) (ret := (some .int)) (by decide) rfl ?_
  intro p e s m args below meth c s₁ B hml hv
  obtain ⟨rfl, hsz, hP, hK, hD0⟩ := hv
  have hx := B.exec
  have hb := B.bytes
  have hr := B.returns
  have hts := atoms_spec (ws := wsPX12_truth) B.pre
  have hown : s.vm.findClass RX12 = some m.cls := findClass_of_methodNamed B.named
  have hlocks := B.notSynchronized
  subst hsz
  have hD := hD0.self (sz := s.heap.size)
  generalize hAe : va_A [(h0, .inr (12, fM v))] s.heap.size = A at hD ⊢
  have hA : ∀ q : Nat, s.heap.size ≤ q → A q := fun q h => by rw [← hAe]; exact Or.inr h
  have hS : va_S A s.heap s.heap [] := va_S.rf
  have hP : va_P (dC, dI) vwCl [(h0, .inr (12, fM v))] s.heap := hP
  have hl := lv_entry ([.ref h0, .int wh]) (n := 6) (Nat.le_of_ble_eq_true rfl)
  rw [lg_entry_eq]
  generalize (lg_sl ([.ref h0, .int wh]) ++ List.replicate (6 - (lg_sl ([.ref h0, .int wh])).length) Slot.unset).toArray = ls at hl ⊢
  have hl : lv_has ls 6 [(0, .ref h0), (1, .int wh)] := hl
  refine lv_aload_n hx hb dX12_truth_0 rfl (lv_at hl 0 rfl) ?_
  refine lv_iconst (v := 0) hx hb dX12_truth_1 (by decide) ?_
  refine va_put (D := (dC, dI)) (ci := 12) (v := .int 0) (ty := .int) (C := RX12) (T := TX12) (N := 163) hx hb hts iwsPX12_truth_in12 tyX12 tyX12_ok nmX12 hown hK hP hD hS 0 rfl rfl 0 (by decide) (hts (.fieldLink RX12 348 "OptimaWorksModel" "thrown" "I") (by decide +kernel)) (fun _ h9 => h9) rfl (by decide +kernel) rfl rfl (Nat.le_of_ble_eq_true rfl) dX12_truth_2 (fun H locs hP hD hS => ?_)
  have hP : va_P (dC, dI) vwCl [(h0, .inr (12, fM (mUp v 0 (.int 0))))] H := hP
  have hD : va_D A [(h0, .inr (12, fM (mUp v 0 (.int 0))))] := hD
  refine lv_iload_n hx hb dX12_truth_5 rfl (lv_at hl 1 rfl) ?_
  refine lv_iconst (v := 4) hx hb dX12_truth_6 (by decide) ?_
  refine lv_icmp_ne (tgt := 15) hx hb dX12_truth_7 (by decide) (fun c_7 => ?_) (fun c_7 => ?_)
  · have t_7 : (wh).toInt ≠ 4 := toI_ne c_7 rfl (by decide)
    refine lv_iload_n hx hb dX12_truth_15 rfl (lv_at hl 1 rfl) ?_
    refine lv_iconst (v := 2) hx hb dX12_truth_16 (by decide) ?_
    refine lv_icmp_ne (tgt := 33) hx hb dX12_truth_17 (by decide) (fun c_17 => ?_) (fun c_17 => ?_)
    · have t_17 : (wh).toInt ≠ 2 := toI_ne c_17 rfl (by decide)
      refine lv_iload_n hx hb dX12_truth_33 rfl (lv_at hl 1 rfl) ?_
      refine lv_iconst (v := 3) hx hb dX12_truth_34 (by decide) ?_
      refine lv_icmp_ne (tgt := 43) hx hb dX12_truth_35 (by decide) (fun c_35 => ?_) (fun c_35 => ?_)
      · have t_35 : (wh).toInt ≠ 3 := toI_ne c_35 rfl (by decide)
        refine lv_iload_n hx hb dX12_truth_43 rfl (lv_at hl 1 rfl) ?_
        refine lv_if_eq (tgt := 54) hx hb dX12_truth_44 (by decide) (fun c_44 => ?_) (fun c_44 => ?_)
        · have t_44 : (wh).toInt = 0 := toI_eq c_44 rfl (by decide)
          refine lv_iconst (v := (-1)) hx hb dX12_truth_54 (by decide) ?_
          refine lv_istore_n (lv' := [(2, .int (-1)), (0, .ref h0), (1, .int wh)]) hx hb dX12_truth_55 rfl hl (by decide) rfl (fun ls hl => ?_)
          refine lv_iconst (v := (-1)) hx hb dX12_truth_56 (by decide) ?_
          refine lv_istore_n (lv' := [(3, .int (-1)), (2, .int (-1)), (0, .ref h0), (1, .int wh)]) hx hb dX12_truth_57 rfl hl (by decide) rfl (fun ls hl => ?_)
          refine lv_iconst (v := 0) hx hb dX12_truth_58 (by decide) ?_
          refine lv_istore (lv' := [(4, .int 0), (3, .int (-1)), (2, .int (-1)), (0, .ref h0), (1, .int wh)]) hx hb dX12_truth_59 hl (by decide) rfl (fun ls hl => ?_)
          have hl := lv_sub hl [0, 2, 1, 3, 4] (l' := [(4, .int (nI 0)), (2, .int (-1)), (3, .int (-1)), (0, .ref h0), (1, .int wh)]) rfl
          refine (fun (loop : ∀ (n9 : Nat) (i : Nat) (bs : Int32) (ch : Int32) (H : Heap) (locs : List Loc) (ls : Array Slot), (i ≤ 4096) → ((i = 0 ∧ bs.toInt = -1 ∧ ch.toInt = -1) ∨ (0 < i ∧ bs.toInt = 0 ∧ ch.toInt = 0)) →  (4096 < i + n9) → va_P (dC, dI) vwCl [(h0, .inr (12, fM (mUp v 0 (.int 0))))] H → va_D A [(h0, .inr (12, fM (mUp v 0 (.int 0))))] → va_S A s.heap H locs → lv_has ls 6 [(4, .int (nI i)), (2, .int bs), (3, .int ch), (0, .ref h0), (1, .int wh)] → W p l e _ s m _ below meth c H locs 0 0 _ (F0 m 61 ls [])) => loop (4097) 0 (-1) (-1) _ _ _ (by omega) (Or.inl ⟨rfl, by decide, by decide⟩) (by omega) hP hD hS hl) ?_
          intro n9
          induction n9 with
          | zero => intro i bs ch H locs ls hi hq hf9; exact False.elim (by omega)
          | succ n9 ih61 =>
            intro i bs ch H locs ls hi hq hf61 hP hD hS hl
            refine lv_iload hx hb dX12_truth_61 (lv_at hl 0 rfl) ?_
            refine lv_sipush (v := 4096) hx hb dX12_truth_63 (by decide) ?_
            refine lv_icmp_ge (tgt := 109) hx hb dX12_truth_66 (by decide) (fun c_66 => ?_) (fun c_66 => ?_)
            · have t_66 : ((i : Nat) : Int) ≥ 4096 := toI_ge c_66 (nI_toInt (by omega)) (by decide)
              refine lv_iload_n hx hb dX12_truth_109 rfl (lv_at hl 4 rfl) ?_
              refine lv_if_ne (tgt := 117) hx hb dX12_truth_110 (by decide) (fun c_110 => ?_) (fun c_110 => ?_)
              · have t_110 : (wh).toInt ≠ 0 := toI_ne c_110 rfl (by decide)
                refine lv_iload_n hx hb dX12_truth_117 rfl (lv_at hl 2 rfl) ?_
                refine W.widen (k := 0) (n := 0) (by decide +kernel) (by decide +kernel) ?_
                exact W.iret (v := ch) hx hb hr (fun t ht hW => ⟨⟨ch, (mUp v 0 (.int 0)), rfl, by first | (left; (refine ⟨?_, ?_, ?_⟩ <;> (first | rfl | assumption | trivial | omega | (simp [c_7, c_17, c_35, c_44, c_66, c_110]; done) | (simp; omega)))) | (right; left; (refine ⟨?_, ?_, ?_⟩ <;> (first | rfl | assumption | trivial | omega | (simp [c_7, c_17, c_35, c_44, c_66, c_110]; done) | (simp; omega)))) | (right; right; (refine ⟨?_, ?_, ?_⟩ <;> (first | rfl | assumption | trivial | omega | (simp [c_7, c_17, c_35, c_44, c_66, c_110]; done) | (simp; omega)))), by rw [ht]; exact hP.sub [0] rfl, va_K.moved hW.alike (hK.sub [] rfl), hD.sub [0] (by decide) rfl⟩, hS.F ht⟩) hS.2.2 dX12_truth_118
              · have t_110 : (wh).toInt = 0 := toI_nne c_110 rfl (by decide)
                refine lv_iload_n hx hb dX12_truth_113 rfl (lv_at hl 1 rfl) ?_
                refine lv_goto (tgt := 118) hx hb dX12_truth_114 (by decide) ?_
                refine W.widen (k := 0) (n := 0) (by decide +kernel) (by decide +kernel) ?_
                exact W.iret (v := bs) hx hb hr (fun t ht hW => ⟨⟨bs, (mUp v 0 (.int 0)), rfl, by first | (left; (refine ⟨?_, ?_, ?_⟩ <;> (first | rfl | assumption | trivial | omega | (simp [c_7, c_17, c_35, c_44, c_66, c_110]; done) | (simp; omega)))) | (right; left; (refine ⟨?_, ?_, ?_⟩ <;> (first | rfl | assumption | trivial | omega | (simp [c_7, c_17, c_35, c_44, c_66, c_110]; done) | (simp; omega)))) | (right; right; (refine ⟨?_, ?_, ?_⟩ <;> (first | rfl | assumption | trivial | omega | (simp [c_7, c_17, c_35, c_44, c_66, c_110]; done) | (simp; omega)))), by rw [ht]; exact hP.sub [0] rfl, va_K.moved hW.alike (hK.sub [] rfl), hD.sub [0] (by decide) rfl⟩, hS.F ht⟩) hS.2.2 dX12_truth_118
            · have t_66 : ¬ ((i : Nat) : Int) ≥ 4096 := toI_nge c_66 (nI_toInt (by omega)) (by decide)
              refine lv_aload_n hx hb dX12_truth_69 rfl (lv_at hl 3 rfl) ?_
              refine lv_iload hx hb dX12_truth_70 (lv_at hl 0 rfl) ?_
              have hPc := hP.sub (ws' := [(h0, .inr (12, fM (mUp v 0 (.int 0))))]) [0] rfl
              have hDc := hD.sub (ws' := [(h0, .inr (12, fM (mUp v 0 (.int 0))))]) [0] (by decide) rfl
              have hKc := hK.sub (tys' := []) [] rfl
              have hFc := va_free (wc := [(h0, .inr (12, fM (mUp v 0 (.int 0))))]) hD hS hA [0] rfl
              refine va_calli (va_runV (As := [.int (nI i)]) (rest := []) ⟨hx, hb, hml, hown, hts⟩ (p_X12_cost l dC dI h0 (mUp v 0 (.int 0)) (h_clauses) (nI i) H.size) (cwV 1 hts gwsPX12_truth_0 rfl rfl rfl (by decide +kernel) ⟨by decide +kernel, by decide +kernel⟩) ⟨fun a U g mk q => by obtain ⟨q0, q1, qP, qK, qD⟩ := q; exact ⟨q0, q1, qP, va_K.moved (u := U) (U := U.calling g mk a) (Vm.Alike.refl U.vm) qK, qD⟩, va_recv hKc hPc (ci := 12) (q0 := 0) rfl rfl, fun U hU9 hW => ⟨rfl, by rw [hU9], by rw [hU9]; exact hPc, va_K.moved hW.alike hKc, hDc.weaken (fun _ _ _ _ => trivial)⟩⟩ rfl rfl hl.1 rfl (lv_room (Nat.le_of_ble_eq_true rfl)) dX12_truth_72 ⟨by decide +kernel, by decide +kernel⟩) hS (fun q _ h => hFc q h) hFc (fun r72 u t H1 locs ht hvm hw hB hz1 hk1 hS => ?_)
              obtain ⟨hP1, hK1, hD1⟩ := hB
              rw [ht] at hP1
              have hK1 := va_K.moved hvm.symm hK1
              obtain ⟨hP, hD⟩ := va_join (wr := []) (w1 := [(h0, .inr (12, fM ((mUp v 0 (.int 0)))))]) hP hD [0] [] rfl rfl (by decide) (by decide) hk1 hFc hP1 hD1
              generalize H1 = H at hP hS ⊢
              have hP : va_P (dC, dI) vwCl [(h0, .inr (12, fM ((mUp v 0 (.int 0)))))] H := hP
              have hD : va_D A [(h0, .inr (12, fM ((mUp v 0 (.int 0)))))] := hD
              obtain rfl := hw
              refine lv_istore (lv' := [(5, .int 0), (4, .int (nI i)), (2, .int bs), (3, .int ch), (0, .ref h0), (1, .int wh)]) hx hb dX12_truth_75 hl (by decide) rfl (fun ls hl => ?_)
              refine lv_iload hx hb dX12_truth_77 (lv_at hl 0 rfl) ?_
              refine lv_iconst (v := (-1)) hx hb dX12_truth_79 (by decide) ?_
              refine lv_icmp_eq (tgt := 103) hx hb dX12_truth_80 (by decide) (fun c9 => absurd c9 (by decide)) (fun _ => ?_)
              refine lv_iload_n hx hb dX12_truth_83 rfl (lv_at hl 2 rfl) ?_
              refine lv_iconst (v := (-1)) hx hb dX12_truth_84 (by decide) ?_
              refine lv_icmp_eq (tgt := 97) hx hb dX12_truth_85 (by decide) (fun c_85 => ?_) (fun c_85 => ?_)
              · have t_85 : (bs).toInt = -1 := toI_eq c_85 rfl (by decide)
                refine lv_iload hx hb dX12_truth_97 (lv_at hl 0 rfl) ?_
                refine lv_istore_n (lv' := [(2, .int 0), (5, .int 0), (4, .int (nI i)), (3, .int ch), (0, .ref h0), (1, .int wh)]) hx hb dX12_truth_99 rfl hl (by decide) rfl (fun ls hl => ?_)
                refine lv_iload hx hb dX12_truth_100 (lv_at hl 2 rfl) ?_
                refine lv_istore_n (lv' := [(3, .int (nI i)), (2, .int 0), (5, .int 0), (4, .int (nI i)), (0, .ref h0), (1, .int wh)]) hx hb dX12_truth_102 rfl hl (by decide) rfl (fun ls hl => ?_)
                refine lv_iinc (v := (nI (i + 1))) (lv' := [(4, .int (nI (i + 1))), (3, .int (nI i)), (2, .int 0), (5, .int 0), (0, .ref h0), (1, .int wh)]) hx hb dX12_truth_103 hl (k := 3) rfl (nI_add i 1) (by decide) rfl (fun ls hl => ?_)
                refine lv_goto (tgt := 61) hx hb dX12_truth_106 (by decide) ?_
                have hl := lv_sub hl [0, 2, 1, 4, 5] (l' := [(4, .int (nI (i + 1))), (2, .int 0), (3, .int (nI i)), (0, .ref h0), (1, .int wh)]) rfl
                exact ih61 (i + 1) 0 (nI i) _ _ _ (by omega) (by first | omega | (have z0 : (0 : Int32).toInt = 0 := (by decide); have z1 : (-1 : Int32).toInt = -1 := (by decide); have z2 := nI_toInt (n := i) (by omega); omega)) (by omega) hP hD hS hl
              · have t_85 : ¬ (bs).toInt = -1 := toI_neq c_85 rfl (by decide)
                refine lv_iload hx hb dX12_truth_88 (lv_at hl 0 rfl) ?_
                refine lv_iload_n hx hb dX12_truth_90 rfl (lv_at hl 2 rfl) ?_
                refine lv_icmp_lt (tgt := 97) hx hb dX12_truth_91 (by decide) (fun c9 => False.elim (by have t9 : 0 < (bs).toInt := toI_lt c9 (by decide) rfl; omega)) (fun c_91 => ?_)
                have t_91 : ¬ 0 < (bs).toInt := toI_nlt c_91 (by decide) rfl
                refine lv_goto (tgt := 103) hx hb dX12_truth_94 (by decide) ?_
                refine lv_iinc (v := (nI (i + 1))) (lv' := [(4, .int (nI (i + 1))), (5, .int 0), (2, .int bs), (3, .int ch), (0, .ref h0), (1, .int wh)]) hx hb dX12_truth_103 hl (k := 1) rfl (nI_add i 1) (by decide) rfl (fun ls hl => ?_)
                refine lv_goto (tgt := 61) hx hb dX12_truth_106 (by decide) ?_
                have hl := lv_sub hl [0, 2, 3, 4, 5] (l' := [(4, .int (nI (i + 1))), (2, .int bs), (3, .int ch), (0, .ref h0), (1, .int wh)]) rfl
                exact ih61 (i + 1) bs ch _ _ _ (by omega) (by first | omega | (have z0 : (0 : Int32).toInt = 0 := (by decide); have z1 : (-1 : Int32).toInt = -1 := (by decide); have z2 := nI_toInt (n := i) (by omega); omega)) (by omega) hP hD hS hl
        · have t_44 : ¬ (wh).toInt = 0 := toI_neq c_44 rfl (by decide)
          refine lv_iload_n hx hb dX12_truth_47 rfl (lv_at hl 1 rfl) ?_
          refine lv_iconst (v := 1) hx hb dX12_truth_48 (by decide) ?_
          refine lv_icmp_eq (tgt := 54) hx hb dX12_truth_49 (by decide) (fun c_49 => ?_) (fun c_49 => ?_)
          · have t_49 : (wh).toInt = 1 := toI_eq c_49 rfl (by decide)
            refine lv_iconst (v := (-1)) hx hb dX12_truth_54 (by decide) ?_
            refine lv_istore_n (lv' := [(2, .int (-1)), (0, .ref h0), (1, .int wh)]) hx hb dX12_truth_55 rfl hl (by decide) rfl (fun ls hl => ?_)
            refine lv_iconst (v := (-1)) hx hb dX12_truth_56 (by decide) ?_
            refine lv_istore_n (lv' := [(3, .int (-1)), (2, .int (-1)), (0, .ref h0), (1, .int wh)]) hx hb dX12_truth_57 rfl hl (by decide) rfl (fun ls hl => ?_)
            refine lv_iconst (v := 0) hx hb dX12_truth_58 (by decide) ?_
            refine lv_istore (lv' := [(4, .int 0), (3, .int (-1)), (2, .int (-1)), (0, .ref h0), (1, .int wh)]) hx hb dX12_truth_59 hl (by decide) rfl (fun ls hl => ?_)
            have hl := lv_sub hl [0, 2, 1, 3, 4] (l' := [(4, .int (nI 0)), (2, .int (-1)), (3, .int (-1)), (0, .ref h0), (1, .int wh)]) rfl
            refine (fun (loop : ∀ (n9 : Nat) (i : Nat) (bs : Int32) (ch : Int32) (H : Heap) (locs : List Loc) (ls : Array Slot), (i ≤ 4096) → ((i = 0 ∧ bs.toInt = -1 ∧ ch.toInt = -1) ∨ (0 < i ∧ bs.toInt = 0 ∧ ch.toInt = 0)) →  (4096 < i + n9) → va_P (dC, dI) vwCl [(h0, .inr (12, fM (mUp v 0 (.int 0))))] H → va_D A [(h0, .inr (12, fM (mUp v 0 (.int 0))))] → va_S A s.heap H locs → lv_has ls 6 [(4, .int (nI i)), (2, .int bs), (3, .int ch), (0, .ref h0), (1, .int wh)] → W p l e _ s m _ below meth c H locs 0 0 _ (F0 m 61 ls [])) => loop (4097) 0 (-1) (-1) _ _ _ (by omega) (Or.inl ⟨rfl, by decide, by decide⟩) (by omega) hP hD hS hl) ?_
            intro n9
            induction n9 with
            | zero => intro i bs ch H locs ls hi hq hf9; exact False.elim (by omega)
            | succ n9 ih61_1 =>
              intro i bs ch H locs ls hi hq hf61_1 hP hD hS hl
              refine lv_iload hx hb dX12_truth_61 (lv_at hl 0 rfl) ?_
              refine lv_sipush (v := 4096) hx hb dX12_truth_63 (by decide) ?_
              refine lv_icmp_ge (tgt := 109) hx hb dX12_truth_66 (by decide) (fun c_66 => ?_) (fun c_66 => ?_)
              · have t_66 : ((i : Nat) : Int) ≥ 4096 := toI_ge c_66 (nI_toInt (by omega)) (by decide)
                refine lv_iload_n hx hb dX12_truth_109 rfl (lv_at hl 4 rfl) ?_
                refine lv_if_ne (tgt := 117) hx hb dX12_truth_110 (by decide) (fun c_110 => ?_) (fun c_110 => ?_)
                · have t_110 : (wh).toInt ≠ 0 := toI_ne c_110 rfl (by decide)
                  refine lv_iload_n hx hb dX12_truth_117 rfl (lv_at hl 2 rfl) ?_
                  refine W.widen (k := 0) (n := 0) (by decide +kernel) (by decide +kernel) ?_
                  exact W.iret (v := ch) hx hb hr (fun t ht hW => ⟨⟨ch, (mUp v 0 (.int 0)), rfl, by first | (left; (refine ⟨?_, ?_, ?_⟩ <;> (first | rfl | assumption | trivial | omega | (simp [c_7, c_17, c_35, c_44, c_49, c_66, c_110]; done) | (simp; omega)))) | (right; left; (refine ⟨?_, ?_, ?_⟩ <;> (first | rfl | assumption | trivial | omega | (simp [c_7, c_17, c_35, c_44, c_49, c_66, c_110]; done) | (simp; omega)))) | (right; right; (refine ⟨?_, ?_, ?_⟩ <;> (first | rfl | assumption | trivial | omega | (simp [c_7, c_17, c_35, c_44, c_49, c_66, c_110]; done) | (simp; omega)))), by rw [ht]; exact hP.sub [0] rfl, va_K.moved hW.alike (hK.sub [] rfl), hD.sub [0] (by decide) rfl⟩, hS.F ht⟩) hS.2.2 dX12_truth_118
                · have t_110 : (wh).toInt = 0 := toI_nne c_110 rfl (by decide)
                  refine lv_iload_n hx hb dX12_truth_113 rfl (lv_at hl 1 rfl) ?_
                  refine lv_goto (tgt := 118) hx hb dX12_truth_114 (by decide) ?_
                  refine W.widen (k := 0) (n := 0) (by decide +kernel) (by decide +kernel) ?_
                  exact W.iret (v := bs) hx hb hr (fun t ht hW => ⟨⟨bs, (mUp v 0 (.int 0)), rfl, by first | (left; (refine ⟨?_, ?_, ?_⟩ <;> (first | rfl | assumption | trivial | omega | (simp [c_7, c_17, c_35, c_44, c_49, c_66, c_110]; done) | (simp; omega)))) | (right; left; (refine ⟨?_, ?_, ?_⟩ <;> (first | rfl | assumption | trivial | omega | (simp [c_7, c_17, c_35, c_44, c_49, c_66, c_110]; done) | (simp; omega)))) | (right; right; (refine ⟨?_, ?_, ?_⟩ <;> (first | rfl | assumption | trivial | omega | (simp [c_7, c_17, c_35, c_44, c_49, c_66, c_110]; done) | (simp; omega)))), by rw [ht]; exact hP.sub [0] rfl, va_K.moved hW.alike (hK.sub [] rfl), hD.sub [0] (by decide) rfl⟩, hS.F ht⟩) hS.2.2 dX12_truth_118
              · have t_66 : ¬ ((i : Nat) : Int) ≥ 4096 := toI_nge c_66 (nI_toInt (by omega)) (by decide)
                refine lv_aload_n hx hb dX12_truth_69 rfl (lv_at hl 3 rfl) ?_
                refine lv_iload hx hb dX12_truth_70 (lv_at hl 0 rfl) ?_
                have hPc := hP.sub (ws' := [(h0, .inr (12, fM (mUp v 0 (.int 0))))]) [0] rfl
                have hDc := hD.sub (ws' := [(h0, .inr (12, fM (mUp v 0 (.int 0))))]) [0] (by decide) rfl
                have hKc := hK.sub (tys' := []) [] rfl
                have hFc := va_free (wc := [(h0, .inr (12, fM (mUp v 0 (.int 0))))]) hD hS hA [0] rfl
                refine va_calli (va_runV (As := [.int (nI i)]) (rest := []) ⟨hx, hb, hml, hown, hts⟩ (p_X12_cost l dC dI h0 (mUp v 0 (.int 0)) (h_clauses) (nI i) H.size) (cwV 1 hts gwsPX12_truth_0 rfl rfl rfl (by decide +kernel) ⟨by decide +kernel, by decide +kernel⟩) ⟨fun a U g mk q => by obtain ⟨q0, q1, qP, qK, qD⟩ := q; exact ⟨q0, q1, qP, va_K.moved (u := U) (U := U.calling g mk a) (Vm.Alike.refl U.vm) qK, qD⟩, va_recv hKc hPc (ci := 12) (q0 := 0) rfl rfl, fun U hU9 hW => ⟨rfl, by rw [hU9], by rw [hU9]; exact hPc, va_K.moved hW.alike hKc, hDc.weaken (fun _ _ _ _ => trivial)⟩⟩ rfl rfl hl.1 rfl (lv_room (Nat.le_of_ble_eq_true rfl)) dX12_truth_72 ⟨by decide +kernel, by decide +kernel⟩) hS (fun q _ h => hFc q h) hFc (fun r72_1 u t H1 locs ht hvm hw hB hz1 hk1 hS => ?_)
                obtain ⟨hP1, hK1, hD1⟩ := hB
                rw [ht] at hP1
                have hK1 := va_K.moved hvm.symm hK1
                obtain ⟨hP, hD⟩ := va_join (wr := []) (w1 := [(h0, .inr (12, fM ((mUp v 0 (.int 0)))))]) hP hD [0] [] rfl rfl (by decide) (by decide) hk1 hFc hP1 hD1
                generalize H1 = H at hP hS ⊢
                have hP : va_P (dC, dI) vwCl [(h0, .inr (12, fM ((mUp v 0 (.int 0)))))] H := hP
                have hD : va_D A [(h0, .inr (12, fM ((mUp v 0 (.int 0)))))] := hD
                obtain rfl := hw
                refine lv_istore (lv' := [(5, .int 0), (4, .int (nI i)), (2, .int bs), (3, .int ch), (0, .ref h0), (1, .int wh)]) hx hb dX12_truth_75 hl (by decide) rfl (fun ls hl => ?_)
                refine lv_iload hx hb dX12_truth_77 (lv_at hl 0 rfl) ?_
                refine lv_iconst (v := (-1)) hx hb dX12_truth_79 (by decide) ?_
                refine lv_icmp_eq (tgt := 103) hx hb dX12_truth_80 (by decide) (fun c9 => absurd c9 (by decide)) (fun _ => ?_)
                refine lv_iload_n hx hb dX12_truth_83 rfl (lv_at hl 2 rfl) ?_
                refine lv_iconst (v := (-1)) hx hb dX12_truth_84 (by decide) ?_
                refine lv_icmp_eq (tgt := 97) hx hb dX12_truth_85 (by decide) (fun c_85 => ?_) (fun c_85 => ?_)
                · have t_85 : (bs).toInt = -1 := toI_eq c_85 rfl (by decide)
                  refine lv_iload hx hb dX12_truth_97 (lv_at hl 0 rfl) ?_
                  refine lv_istore_n (lv' := [(2, .int 0), (5, .int 0), (4, .int (nI i)), (3, .int ch), (0, .ref h0), (1, .int wh)]) hx hb dX12_truth_99 rfl hl (by decide) rfl (fun ls hl => ?_)
                  refine lv_iload hx hb dX12_truth_100 (lv_at hl 2 rfl) ?_
                  refine lv_istore_n (lv' := [(3, .int (nI i)), (2, .int 0), (5, .int 0), (4, .int (nI i)), (0, .ref h0), (1, .int wh)]) hx hb dX12_truth_102 rfl hl (by decide) rfl (fun ls hl => ?_)
                  refine lv_iinc (v := (nI (i + 1))) (lv' := [(4, .int (nI (i + 1))), (3, .int (nI i)), (2, .int 0), (5, .int 0), (0, .ref h0), (1, .int wh)]) hx hb dX12_truth_103 hl (k := 3) rfl (nI_add i 1) (by decide) rfl (fun ls hl => ?_)
                  refine lv_goto (tgt := 61) hx hb dX12_truth_106 (by decide) ?_
                  have hl := lv_sub hl [0, 2, 1, 4, 5] (l' := [(4, .int (nI (i + 1))), (2, .int 0), (3, .int (nI i)), (0, .ref h0), (1, .int wh)]) rfl
                  exact ih61_1 (i + 1) 0 (nI i) _ _ _ (by omega) (by first | omega | (have z0 : (0 : Int32).toInt = 0 := (by decide); have z1 : (-1 : Int32).toInt = -1 := (by decide); have z2 := nI_toInt (n := i) (by omega); omega)) (by omega) hP hD hS hl
                · have t_85 : ¬ (bs).toInt = -1 := toI_neq c_85 rfl (by decide)
                  refine lv_iload hx hb dX12_truth_88 (lv_at hl 0 rfl) ?_
                  refine lv_iload_n hx hb dX12_truth_90 rfl (lv_at hl 2 rfl) ?_
                  refine lv_icmp_lt (tgt := 97) hx hb dX12_truth_91 (by decide) (fun c9 => False.elim (by have t9 : 0 < (bs).toInt := toI_lt c9 (by decide) rfl; omega)) (fun c_91 => ?_)
                  have t_91 : ¬ 0 < (bs).toInt := toI_nlt c_91 (by decide) rfl
                  refine lv_goto (tgt := 103) hx hb dX12_truth_94 (by decide) ?_
                  refine lv_iinc (v := (nI (i + 1))) (lv' := [(4, .int (nI (i + 1))), (5, .int 0), (2, .int bs), (3, .int ch), (0, .ref h0), (1, .int wh)]) hx hb dX12_truth_103 hl (k := 1) rfl (nI_add i 1) (by decide) rfl (fun ls hl => ?_)
                  refine lv_goto (tgt := 61) hx hb dX12_truth_106 (by decide) ?_
                  have hl := lv_sub hl [0, 2, 3, 4, 5] (l' := [(4, .int (nI (i + 1))), (2, .int bs), (3, .int ch), (0, .ref h0), (1, .int wh)]) rfl
                  exact ih61_1 (i + 1) bs ch _ _ _ (by omega) (by first | omega | (have z0 : (0 : Int32).toInt = 0 := (by decide); have z1 : (-1 : Int32).toInt = -1 := (by decide); have z2 := nI_toInt (n := i) (by omega); omega)) (by omega) hP hD hS hl
          · have t_49 : ¬ (wh).toInt = 1 := toI_neq c_49 rfl (by decide)
            refine lv_iconst (v := (-1)) hx hb dX12_truth_52 (by decide) ?_
            refine W.widen (k := 0) (n := 0) (by decide +kernel) (by decide +kernel) ?_
            exact W.iret (v := (-1)) hx hb hr (fun t ht hW => ⟨⟨(-1), (mUp v 0 (.int 0)), rfl, by first | (left; (refine ⟨?_, ?_, ?_⟩ <;> (first | rfl | assumption | trivial | omega | (simp [c_7, c_17, c_35, c_44, c_49]; done) | (simp; omega)))) | (right; left; (refine ⟨?_, ?_, ?_⟩ <;> (first | rfl | assumption | trivial | omega | (simp [c_7, c_17, c_35, c_44, c_49]; done) | (simp; omega)))) | (right; right; (refine ⟨?_, ?_, ?_⟩ <;> (first | rfl | assumption | trivial | omega | (simp [c_7, c_17, c_35, c_44, c_49]; done) | (simp; omega)))), by rw [ht]; exact hP.sub [0] rfl, va_K.moved hW.alike (hK.sub [] rfl), hD.sub [0] (by decide) rfl⟩, hS.F ht⟩) hS.2.2 dX12_truth_53
      · have t_35 : (wh).toInt = 3 := toI_nne c_35 rfl (by decide)
        refine lv_aload_n hx hb dX12_truth_38 rfl (lv_at hl 0 rfl) ?_
        have hPc := hP.sub (ws' := [(h0, .inr (12, fM (mUp v 0 (.int 0))))]) [0] rfl
        have hDc := hD.sub (ws' := [(h0, .inr (12, fM (mUp v 0 (.int 0))))]) [0] (by decide) rfl
        have hKc := hK.sub (tys' := []) [] rfl
        have hFc := va_free (wc := [(h0, .inr (12, fM (mUp v 0 (.int 0))))]) hD hS hA [0] rfl
        refine va_calli (va_runV (As := []) (rest := []) ⟨hx, hb, hml, hown, hts⟩ (p_X12_core l dC dI h0 (mUp v 0 (.int 0)) (h_clauses) H.size) (cwV 0 hts gwsPX12_truth_1 rfl rfl rfl (by decide +kernel) ⟨by decide +kernel, by decide +kernel⟩) ⟨fun a U g mk q => by obtain ⟨q0, q1, qP, qK, qD⟩ := q; exact ⟨q0, q1, qP, va_K.moved (u := U) (U := U.calling g mk a) (Vm.Alike.refl U.vm) qK, qD⟩, va_recv hKc hPc (ci := 12) (q0 := 0) rfl rfl, fun U hU9 hW => ⟨rfl, by rw [hU9], by rw [hU9]; exact hPc, va_K.moved hW.alike hKc, hDc.weaken (fun _ _ _ _ => trivial)⟩⟩ rfl rfl hl.1 rfl (lv_room (Nat.le_of_ble_eq_true rfl)) dX12_truth_39 ⟨by decide +kernel, by decide +kernel⟩) hS (fun q _ h => hFc q h) hFc (fun r39 u t H1 locs ht hvm hw hB hz1 hk1 hS => ?_)
        obtain ⟨hP1, hK1, hD1⟩ := hB
        rw [ht] at hP1
        have hK1 := va_K.moved hvm.symm hK1
        obtain ⟨hP, hD⟩ := va_join (wr := []) (w1 := [(h0, .inr (12, fM ((mUp v 0 (.int 0)))))]) hP hD [0] [] rfl rfl (by decide) (by decide) hk1 hFc hP1 hD1
        generalize H1 = H at hP hS ⊢
        have hP : va_P (dC, dI) vwCl [(h0, .inr (12, fM ((mUp v 0 (.int 0)))))] H := hP
        have hD : va_D A [(h0, .inr (12, fM ((mUp v 0 (.int 0)))))] := hD
        obtain rfl := hw
        refine W.widen (k := 0) (n := 0) (by decide +kernel) (by decide +kernel) ?_
        exact W.iret (v := 0) hx hb hr (fun t ht hW => ⟨⟨0, (mUp v 0 (.int 0)), rfl, by first | (left; (refine ⟨?_, ?_, ?_⟩ <;> (first | rfl | assumption | trivial | omega | (simp [c_7, c_17, c_35]; done) | (simp; omega)))) | (right; left; (refine ⟨?_, ?_, ?_⟩ <;> (first | rfl | assumption | trivial | omega | (simp [c_7, c_17, c_35]; done) | (simp; omega)))) | (right; right; (refine ⟨?_, ?_, ?_⟩ <;> (first | rfl | assumption | trivial | omega | (simp [c_7, c_17, c_35]; done) | (simp; omega)))), by rw [ht]; exact hP.sub [0] rfl, va_K.moved hW.alike (hK.sub [] rfl), hD.sub [0] (by decide) rfl⟩, hS.F ht⟩) hS.2.2 dX12_truth_42
    · have t_17 : (wh).toInt = 2 := toI_nne c_17 rfl (by decide)
      refine lv_aload_n hx hb dX12_truth_20 rfl (lv_at hl 0 rfl) ?_
      refine lv_iconst (v := 1) hx hb dX12_truth_21 (by decide) ?_
      refine lv_aload_n hx hb dX12_truth_22 rfl (lv_at hl 0 rfl) ?_
      refine va_get (D := (dC, dI)) (ci := 12) (v := .int 0) (C := RX12) (T := TX12) (N := 163) hx hb hts iwsPX12_truth_in12 hown hK hP 0 rfl rfl 146 (by decide) (hts (.fieldLink RX12 1051 "OptimaWorksModel" "clauses" "I") (by decide +kernel)) (fun _ h9 => h9) (congrArg some h_clauses) dX12_truth_23 ?_
      refine lv_ishl hx hb dX12_truth_26 ?_
      refine lv_topi (fun y1 hy1 => ?_)
      obtain rfl : 1 = y1 := (hy1.trans (by decide)).symm
      refine lv_iconst (v := 1) hx hb dX12_truth_27 (by decide) ?_
      refine lv_isub hx hb dX12_truth_28 ?_
      refine lv_topi (fun y2 hy2 => ?_)
      obtain rfl : 0 = y2 := (hy2.trans (by decide)).symm
      have hPc := hP.sub (ws' := [(h0, .inr (12, fM (mUp v 0 (.int 0))))]) [0] rfl
      have hDc := hD.sub (ws' := [(h0, .inr (12, fM (mUp v 0 (.int 0))))]) [0] (by decide) rfl
      have hKc := hK.sub (tys' := []) [] rfl
      have hFc := va_free (wc := [(h0, .inr (12, fM (mUp v 0 (.int 0))))]) hD hS hA [0] rfl
      refine va_calli (va_runV (As := [.int 0]) (rest := []) ⟨hx, hb, hml, hown, hts⟩ (p_X12_models l dC dI h0 (mUp v 0 (.int 0)) (h_clauses) 0 H.size) (cwV 1 hts gwsPX12_truth_2 rfl rfl rfl (by decide +kernel) ⟨by decide +kernel, by decide +kernel⟩) ⟨fun a U g mk q => by obtain ⟨q0, q1, qP, qK, qD⟩ := q; exact ⟨q0, q1, qP, va_K.moved (u := U) (U := U.calling g mk a) (Vm.Alike.refl U.vm) qK, qD⟩, va_recv hKc hPc (ci := 12) (q0 := 0) rfl rfl, fun U hU9 hW => ⟨rfl, by rw [hU9], by rw [hU9]; exact hPc, va_K.moved hW.alike hKc, hDc.weaken (fun _ _ _ _ => trivial)⟩⟩ rfl rfl hl.1 rfl (lv_room (Nat.le_of_ble_eq_true rfl)) dX12_truth_29 ⟨by decide +kernel, by decide +kernel⟩) hS (fun q _ h => hFc q h) hFc (fun r29 u t H1 locs ht hvm hw hB hz1 hk1 hS => ?_)
      obtain ⟨hP1, hK1, hD1⟩ := hB
      rw [ht] at hP1
      have hK1 := va_K.moved hvm.symm hK1
      obtain ⟨hP, hD⟩ := va_join (wr := []) (w1 := [(h0, .inr (12, fM ((mUp v 0 (.int 0)))))]) hP hD [0] [] rfl rfl (by decide) (by decide) hk1 hFc hP1 hD1
      generalize H1 = H at hP hS ⊢
      have hP : va_P (dC, dI) vwCl [(h0, .inr (12, fM ((mUp v 0 (.int 0)))))] H := hP
      have hD : va_D A [(h0, .inr (12, fM ((mUp v 0 (.int 0)))))] := hD
      have f29_0 := hw
      try dsimp only at f29_0
      refine W.widen (k := 0) (n := 0) (by decide +kernel) (by decide +kernel) ?_
      exact W.iret (v := r29) hx hb hr (fun t ht hW => ⟨⟨r29, (mUp v 0 (.int 0)), rfl, by first | (left; (refine ⟨?_, ?_, ?_⟩ <;> (first | rfl | assumption | trivial | omega | (simp [c_7, c_17]; done) | (simp; omega)))) | (right; left; (refine ⟨?_, ?_, ?_⟩ <;> (first | rfl | assumption | trivial | omega | (simp [c_7, c_17]; done) | (simp; omega)))) | (right; right; (refine ⟨?_, ?_, ?_⟩ <;> (first | rfl | assumption | trivial | omega | (simp [c_7, c_17]; done) | (simp; omega)))), by rw [ht]; exact hP.sub [0] rfl, va_K.moved hW.alike (hK.sub [] rfl), hD.sub [0] (by decide) rfl⟩, hS.F ht⟩) hS.2.2 dX12_truth_32
  · have t_7 : (wh).toInt = 4 := toI_nne c_7 rfl (by decide)
    refine lv_aload_n hx hb dX12_truth_10 rfl (lv_at hl 0 rfl) ?_
    refine va_get (D := (dC, dI)) (ci := 12) (v := .int 0) (C := RX12) (T := TX12) (N := 163) hx hb hts iwsPX12_truth_in12 hown hK hP 0 rfl rfl 146 (by decide) (hts (.fieldLink RX12 1051 "OptimaWorksModel" "clauses" "I") (by decide +kernel)) (fun _ h9 => h9) (congrArg some h_clauses) dX12_truth_11 ?_
    refine W.widen (k := 0) (n := 0) (by decide +kernel) (by decide +kernel) ?_
    exact W.iret (v := 0) hx hb hr (fun t ht hW => ⟨⟨0, (mUp v 0 (.int 0)), rfl, by first | (left; (refine ⟨?_, ?_, ?_⟩ <;> (first | rfl | assumption | trivial | omega | (simp [c_7]; done) | (simp; omega)))) | (right; left; (refine ⟨?_, ?_, ?_⟩ <;> (first | rfl | assumption | trivial | omega | (simp [c_7]; done) | (simp; omega)))) | (right; right; (refine ⟨?_, ?_, ?_⟩ <;> (first | rfl | assumption | trivial | omega | (simp [c_7]; done) | (simp; omega)))), by rw [ht]; exact hP.sub [0] rfl, va_K.moved hW.alike (hK.sub [] rfl), hD.sub [0] (by decide) rfl⟩, hS.F ht⟩) hS.2.2 dX12_truth_14
def wsPX12_isPlace : List Cond := .code yX12_isPlace cX12_isPlace 1 (some .boolean) :: ([])
set_option maxHeartbeats 4000000 in
set_option maxRecDepth 100000 in
/-- isPlace(n) -/
theorem p_X12_isPlace (l : Launch) (dC : Nat → ClassId) (dI : Nat → Nat → Nat) (np : Int32) (sz : Nat) : Met l yX12_isPlace wsPX12_isPlace ({ frames := 0, cells := 0, slots := 0, locals := 0 }) (va_Pc [.int np] (fun U => U.heap.size = sz ∧ va_P (dC, dI) vwCl [] U.heap ∧ va_K (dC, dI) vwCl [] U ∧ va_D (fun _ => True) [])) (va_Qi (fun (r : Int32) (u : Unit) => (r = 1 ∧ (0 ≤ (np).toInt ∧ (np).toInt < 12)) ∨ (r = 0 ∧ ((np).toInt < 0 ∨ 12 ≤ (np).toInt))) (fun (u : Unit) t => va_P (dC, dI) vwCl [] t.heap ∧ va_K (dC, dI) vwCl [] t ∧ va_D (va_A [] sz) []) (va_A [] sz)) 0 0 (va_A [] sz) := by
  refine Met.ofW (cc := cX12_isPlace) (maxL := 1) (ret := (some .boolean)) (by decide) rfl ?_
  intro p e s m args below meth c s₁ B hml hv
  obtain ⟨rfl, hsz, hP, hK, hD0⟩ := hv
  have hx := B.exec
  have hb := B.bytes
  have hr := B.returns
  have hts := atoms_spec (ws := wsPX12_isPlace) B.pre
  have hown : s.vm.findClass RX12 = some m.cls := findClass_of_methodNamed B.named
  have hlocks := B.notSynchronized
  subst hsz
  have hD := hD0.self (sz := s.heap.size)
  generalize hAe : va_A [] s.heap.size = A at hD ⊢
  have hA : ∀ q : Nat, s.heap.size ≤ q → A q := fun q h => by rw [← hAe]; exact Or.inr h
  have hS : va_S A s.heap s.heap [] := va_S.rf
  have hP : va_P (dC, dI) vwCl [] s.heap := hP
  have hl := lv_entry ([.int np]) (n := 1) (Nat.le_of_ble_eq_true rfl)
  rw [lg_entry_eq]
  generalize (lg_sl ([.int np]) ++ List.replicate (1 - (lg_sl ([.int np])).length) Slot.unset).toArray = ls at hl ⊢
  have hl : lv_has ls 1 [(0, .int np)] := hl
  refine lv_iload_n hx hb dX12_isPlace_0 rfl (lv_at hl 0 rfl) ?_
  refine lv_if_lt (tgt := 14) hx hb dX12_isPlace_1 (by decide) (fun c_1 => ?_) (fun c_1 => ?_)
  · have t_1 : (np).toInt < 0 := toI_lt c_1 rfl (by decide)
    refine lv_iconst (v := 0) hx hb dX12_isPlace_14 (by decide) ?_
    refine W.widen (k := 0) (n := 0) (by decide +kernel) (by decide +kernel) ?_
    exact W.zret (v := 0) hx hb hr rfl (fun t ht hW => ⟨⟨0, (), rfl, by first | (left; (refine ⟨?_, ?_⟩ <;> (first | rfl | assumption | trivial | omega | (simp [c_1]; done) | (simp; omega)))) | (right; (refine ⟨?_, ?_⟩ <;> (first | rfl | assumption | trivial | omega | (simp [c_1]; done) | (simp; omega)))), by rw [ht]; exact hP.sub [] rfl, va_K.moved hW.alike (hK.sub [] rfl), hD.sub [] (by decide) rfl⟩, hS.F ht⟩) hS.2.2 dX12_isPlace_15
  · have t_1 : ¬ (np).toInt < 0 := toI_nlt c_1 rfl (by decide)
    refine lv_iload_n hx hb dX12_isPlace_4 rfl (lv_at hl 0 rfl) ?_
    refine lv_bipush (v := 12) hx hb dX12_isPlace_5 (by decide) ?_
    refine lv_icmp_ge (tgt := 14) hx hb dX12_isPlace_7 (by decide) (fun c_7 => ?_) (fun c_7 => ?_)
    · have t_7 : (np).toInt ≥ 12 := toI_ge c_7 rfl (by decide)
      refine lv_iconst (v := 0) hx hb dX12_isPlace_14 (by decide) ?_
      refine W.widen (k := 0) (n := 0) (by decide +kernel) (by decide +kernel) ?_
      exact W.zret (v := 0) hx hb hr rfl (fun t ht hW => ⟨⟨0, (), rfl, by first | (left; (refine ⟨?_, ?_⟩ <;> (first | rfl | assumption | trivial | omega | (simp [c_1, c_7]; done) | (simp; omega)))) | (right; (refine ⟨?_, ?_⟩ <;> (first | rfl | assumption | trivial | omega | (simp [c_1, c_7]; done) | (simp; omega)))), by rw [ht]; exact hP.sub [] rfl, va_K.moved hW.alike (hK.sub [] rfl), hD.sub [] (by decide) rfl⟩, hS.F ht⟩) hS.2.2 dX12_isPlace_15
    · have t_7 : ¬ (np).toInt ≥ 12 := toI_nge c_7 rfl (by decide)
      refine lv_iconst (v := 1) hx hb dX12_isPlace_10 (by decide) ?_
      refine lv_goto (tgt := 15) hx hb dX12_isPlace_11 (by decide) ?_
      refine W.widen (k := 0) (n := 0) (by decide +kernel) (by decide +kernel) ?_
      exact W.zret (v := 1) hx hb hr rfl (fun t ht hW => ⟨⟨1, (), rfl, by first | (left; (refine ⟨?_, ?_⟩ <;> (first | rfl | assumption | trivial | omega | (simp [c_1, c_7]; done) | (simp; omega)))) | (right; (refine ⟨?_, ?_⟩ <;> (first | rfl | assumption | trivial | omega | (simp [c_1, c_7]; done) | (simp; omega)))), by rw [ht]; exact hP.sub [] rfl, va_K.moved hW.alike (hK.sub [] rfl), hD.sub [] (by decide) rfl⟩, hS.F ht⟩) hS.2.2 dX12_isPlace_15
theorem dX12_arc_0 : decode cX12_arc 0 = .ok (.iload_n 1, 1) := by decide +kernel
theorem dX12_arc_1 : decode cX12_arc 1 = .ok (.invokestatic 1066, 3) := by decide +kernel
theorem dX12_arc_4 : decode cX12_arc 4 = .ok (.ifCond .eq 43, 3) := by decide +kernel
theorem dX12_arc_7 : decode cX12_arc 7 = .ok (.iload_n 2, 1) := by decide +kernel
theorem dX12_arc_8 : decode cX12_arc 8 = .ok (.invokestatic 1066, 3) := by decide +kernel
theorem dX12_arc_11 : decode cX12_arc 11 = .ok (.ifCond .eq 36, 3) := by decide +kernel
theorem dX12_arc_14 : decode cX12_arc 14 = .ok (.iload_n 1, 1) := by decide +kernel
theorem dX12_arc_15 : decode cX12_arc 15 = .ok (.iload_n 2, 1) := by decide +kernel
theorem dX12_arc_16 : decode cX12_arc 16 = .ok (.if_icmp .eq 31, 3) := by decide +kernel
theorem dX12_arc_19 : decode cX12_arc 19 = .ok (.iload_n 3, 1) := by decide +kernel
theorem dX12_arc_20 : decode cX12_arc 20 = .ok (.ifCond .lt 27, 3) := by decide +kernel
theorem dX12_arc_23 : decode cX12_arc 23 = .ok (.iload_n 3, 1) := by decide +kernel
theorem dX12_arc_24 : decode cX12_arc 24 = .ok (.sipush 1000, 3) := by decide +kernel
theorem dX12_arc_27 : decode cX12_arc 27 = .ok (.if_icmp .gt 20, 3) := by decide +kernel
theorem dX12_arc_30 : decode cX12_arc 30 = .ok (.iload 4, 2) := by decide +kernel
theorem dX12_arc_32 : decode cX12_arc 32 = .ok (.ifCond .lt 15, 3) := by decide +kernel
theorem dX12_arc_35 : decode cX12_arc 35 = .ok (.iload 4, 2) := by decide +kernel
theorem dX12_arc_37 : decode cX12_arc 37 = .ok (.sipush 1000, 3) := by decide +kernel
theorem dX12_arc_40 : decode cX12_arc 40 = .ok (.if_icmp .gt 7, 3) := by decide +kernel
theorem dX12_arc_43 : decode cX12_arc 43 = .ok (.iconst 1, 1) := by decide +kernel
theorem dX12_arc_44 : decode cX12_arc 44 = .ok (.goto 4, 3) := by decide +kernel
theorem dX12_arc_47 : decode cX12_arc 47 = .ok (.iconst 0, 1) := by decide +kernel
theorem dX12_arc_48 : decode cX12_arc 48 = .ok (.istore 5, 2) := by decide +kernel
theorem dX12_arc_50 : decode cX12_arc 50 = .ok (.aload_n 0, 1) := by decide +kernel
theorem dX12_arc_51 : decode cX12_arc 51 = .ok (.iload 5, 2) := by decide +kernel
theorem dX12_arc_53 : decode cX12_arc 53 = .ok (.ifCond .ne 7, 3) := by decide +kernel
theorem dX12_arc_56 : decode cX12_arc 56 = .ok (.iconst 1, 1) := by decide +kernel
theorem dX12_arc_57 : decode cX12_arc 57 = .ok (.goto 17, 3) := by decide +kernel
theorem dX12_arc_60 : decode cX12_arc 60 = .ok (.aload_n 0, 1) := by decide +kernel
theorem dX12_arc_61 : decode cX12_arc 61 = .ok (.getfield 1069, 3) := by decide +kernel
theorem dX12_arc_64 : decode cX12_arc 64 = .ok (.bipush 40, 2) := by decide +kernel
theorem dX12_arc_66 : decode cX12_arc 66 = .ok (.if_icmp .ne 7, 3) := by decide +kernel
theorem dX12_arc_73 : decode cX12_arc 73 = .ok (.iconst 0, 1) := by decide +kernel
theorem dX12_arc_74 : decode cX12_arc 74 = .ok (.putfield 348, 3) := by decide +kernel
theorem dX12_arc_77 : decode cX12_arc 77 = .ok (.aload_n 0, 1) := by decide +kernel
theorem dX12_arc_78 : decode cX12_arc 78 = .ok (.getfield 348, 3) := by decide +kernel
theorem dX12_arc_81 : decode cX12_arc 81 = .ok (.ifCond .le 5, 3) := by decide +kernel
theorem dX12_arc_84 : decode cX12_arc 84 = .ok (.iconst 0, 1) := by decide +kernel
theorem dX12_arc_85 : decode cX12_arc 85 = .ok (.ireturn, 1) := by decide +kernel
theorem dX12_arc_86 : decode cX12_arc 86 = .ok (.aload_n 0, 1) := by decide +kernel
theorem dX12_arc_87 : decode cX12_arc 87 = .ok (.getfield 312, 3) := by decide +kernel
theorem dX12_arc_90 : decode cX12_arc 90 = .ok (.aload_n 0, 1) := by decide +kernel
theorem dX12_arc_91 : decode cX12_arc 91 = .ok (.getfield 1069, 3) := by decide +kernel
theorem dX12_arc_94 : decode cX12_arc 94 = .ok (.iload_n 1, 1) := by decide +kernel
theorem dX12_arc_95 : decode cX12_arc 95 = .ok (.iastore, 1) := by decide +kernel
theorem dX12_arc_96 : decode cX12_arc 96 = .ok (.aload_n 0, 1) := by decide +kernel
theorem dX12_arc_97 : decode cX12_arc 97 = .ok (.getfield 315, 3) := by decide +kernel
theorem dX12_arc_100 : decode cX12_arc 100 = .ok (.aload_n 0, 1) := by decide +kernel
theorem dX12_arc_101 : decode cX12_arc 101 = .ok (.getfield 1069, 3) := by decide +kernel
theorem dX12_arc_104 : decode cX12_arc 104 = .ok (.iload_n 2, 1) := by decide +kernel
theorem dX12_arc_105 : decode cX12_arc 105 = .ok (.iastore, 1) := by decide +kernel
theorem dX12_arc_106 : decode cX12_arc 106 = .ok (.aload_n 0, 1) := by decide +kernel
theorem dX12_arc_107 : decode cX12_arc 107 = .ok (.getfield 318, 3) := by decide +kernel
theorem dX12_arc_110 : decode cX12_arc 110 = .ok (.aload_n 0, 1) := by decide +kernel
theorem dX12_arc_111 : decode cX12_arc 111 = .ok (.getfield 1069, 3) := by decide +kernel
theorem dX12_arc_114 : decode cX12_arc 114 = .ok (.iload_n 3, 1) := by decide +kernel
theorem dX12_arc_115 : decode cX12_arc 115 = .ok (.iastore, 1) := by decide +kernel
theorem dX12_arc_116 : decode cX12_arc 116 = .ok (.aload_n 0, 1) := by decide +kernel
theorem dX12_arc_117 : decode cX12_arc 117 = .ok (.getfield 321, 3) := by decide +kernel
theorem dX12_arc_120 : decode cX12_arc 120 = .ok (.aload_n 0, 1) := by decide +kernel
theorem dX12_arc_121 : decode cX12_arc 121 = .ok (.getfield 1069, 3) := by decide +kernel
theorem dX12_arc_124 : decode cX12_arc 124 = .ok (.iload 4, 2) := by decide +kernel
theorem dX12_arc_126 : decode cX12_arc 126 = .ok (.iastore, 1) := by decide +kernel
theorem dX12_arc_127 : decode cX12_arc 127 = .ok (.aload_n 0, 1) := by decide +kernel
theorem dX12_arc_128 : decode cX12_arc 128 = .ok (.dup, 1) := by decide +kernel
theorem dX12_arc_129 : decode cX12_arc 129 = .ok (.getfield 1069, 3) := by decide +kernel
theorem dX12_arc_132 : decode cX12_arc 132 = .ok (.iconst 1, 1) := by decide +kernel
theorem dX12_arc_133 : decode cX12_arc 133 = .ok (.iadd, 1) := by decide +kernel
theorem dX12_arc_134 : decode cX12_arc 134 = .ok (.putfield 1069, 3) := by decide +kernel
theorem dX12_arc_137 : decode cX12_arc 137 = .ok (.aload_n 0, 1) := by decide +kernel
theorem dX12_arc_138 : decode cX12_arc 138 = .ok (.getfield 1069, 3) := by decide +kernel
theorem dX12_arc_141 : decode cX12_arc 141 = .ok (.iconst 1, 1) := by decide +kernel
theorem dX12_arc_142 : decode cX12_arc 142 = .ok (.isub, 1) := by decide +kernel
theorem dX12_arc_143 : decode cX12_arc 143 = .ok (.ireturn, 1) := by decide +kernel
def wsPX12_arc : List Cond := .code yX12_arc cX12_arc 6 (some .int) :: ([.fieldLink RX12 348 "OptimaWorksModel" "thrown" "I", .fieldLink RX12 1069 "OptimaWorksModel" "arcs" "I", .fieldLink RX12 312 "OptimaWorksModel" "arcFrom" "[I", .fieldLink RX12 315 "OptimaWorksModel" "arcTo" "[I", .fieldLink RX12 318 "OptimaWorksModel" "arcRoom" "[I", .fieldLink RX12 321 "OptimaWorksModel" "arcCost" "[I"] ++ wsX120 ++ (va_wsS RX12 1066 yX12_isPlace wsPX12_isPlace))
theorem iwsPX12_arc_in12 : ∀ w ∈ wsX120, w ∈ wsPX12_arc := fun _ h => List.mem_cons_of_mem _ (List.mem_append_left _ (List.mem_append_right _ h))
theorem gwsPX12_arc_0 : GoodIn wsPX12_arc (va_wsS RX12 1066 yX12_isPlace wsPX12_isPlace) := goodIn_sub (fun _ h => List.mem_cons_of_mem _ (List.mem_append_right _ h)) (by decide +kernel)
set_option maxHeartbeats 4000000 in
set_option maxRecDepth 100000 in
/-- arc(..) -/
theorem p_X12_arc (l : Launch) (dC : Nat → ClassId) (dI : Nat → Nat → Nat) (h0 : Nat) (v : Nat → Value) (h_arcs : v 150 = .int 0) (b_arcFrom : Nat) (h_arcFrom : v 151 = .ref b_arcFrom) (k_arcFrom : ClassId) (r_arcFrom : Nat → Int32) (b_arcTo : Nat) (h_arcTo : v 152 = .ref b_arcTo) (k_arcTo : ClassId) (r_arcTo : Nat → Int32) (b_arcRoom : Nat) (h_arcRoom : v 153 = .ref b_arcRoom) (k_arcRoom : ClassId) (r_arcRoom : Nat → Int32) (b_arcCost : Nat) (h_arcCost : v 154 = .ref b_arcCost) (k_arcCost : ClassId) (r_arcCost : Nat → Int32) (qf : Int32) (qt : Int32) (qr : Int32) (qc : Int32) (sz : Nat) : Met l yX12_arc wsPX12_arc ({ frames := 1, cells := 0, slots := 0, locals := 20 }) (va_Pc [.ref h0, .int qf, .int qt, .int qr, .int qc] (fun U => U.heap.size = sz ∧ va_P (dC, dI) vwCl [(h0, .inr (12, fM v)), (b_arcFrom, .inl (k_arcFrom, 40, .inl r_arcFrom)), (b_arcTo, .inl (k_arcTo, 40, .inl r_arcTo)), (b_arcRoom, .inl (k_arcRoom, 40, .inl r_arcRoom)), (b_arcCost, .inl (k_arcCost, 40, .inl r_arcCost))] U.heap ∧ va_K (dC, dI) vwCl [(k_arcFrom, .int), (k_arcTo, .int), (k_arcRoom, .int), (k_arcCost, .int)] U ∧ va_D (fun _ => True) [(h0, .inr (12, fM v)), (b_arcFrom, .inl (k_arcFrom, 40, .inl r_arcFrom)), (b_arcTo, .inl (k_arcTo, 40, .inl r_arcTo)), (b_arcRoom, .inl (k_arcRoom, 40, .inl r_arcRoom)), (b_arcCost, .inl (k_arcCost, 40, .inl r_arcCost))])) (va_Qi (fun (r : Int32) (u : Nat → Value) => (r = 0 ∧ (0 ≤ (qf).toInt ∧ (qf).toInt < 12 ∧ 0 ≤ (qt).toInt ∧ (qt).toInt < 12 ∧ ¬ (qf).toInt = (qt).toInt ∧ 0 ≤ (qr).toInt ∧ (qr).toInt ≤ 1000 ∧ 0 ≤ (qc).toInt ∧ (qc).toInt ≤ 1000) ∧ (u 0 = .int 0)) ∨ (r = 0 ∧ ((qf).toInt < 0 ∨ 12 ≤ (qf).toInt ∨ (qt).toInt < 0 ∨ 12 ≤ (qt).toInt ∨ (qf).toInt = (qt).toInt ∨ (qr).toInt < 0 ∨ 1000 < (qr).toInt ∨ (qc).toInt < 0 ∨ 1000 < (qc).toInt) ∧ (u 0 = .int 1))) (fun (u : Nat → Value) t => va_P (dC, dI) vwCl [(h0, .inr (12, fM u))] t.heap ∧ va_K (dC, dI) vwCl [] t ∧ va_D (va_A [(h0, .inr (12, fM v)), (b_arcFrom, .inl (k_arcFrom, 40, .inl r_arcFrom)), (b_arcTo, .inl (k_arcTo, 40, .inl r_arcTo)), (b_arcRoom, .inl (k_arcRoom, 40, .inl r_arcRoom)), (b_arcCost, .inl (k_arcCost, 40, .inl r_arcCost))] sz) [(h0, .inr (12, fM u))]) (va_A [(h0, .inr (12, fM v)), (b_arcFrom, .inl (k_arcFrom, 40, .inl r_arcFrom)), (b_arcTo, .inl (k_arcTo, 40, .inl r_arcTo)), (b_arcRoom, .inl (k_arcRoom, 40, .inl r_arcRoom)), (b_arcCost, .inl (k_arcCost, 40, .inl r_arcCost))] sz)) 0 0 (va_A [(h0, .inr (12, fM v)), (b_arcFrom, .inl (k_arcFrom, 40, .inl r_arcFrom)), (b_arcTo, .inl (k_arcTo, 40, .inl r_arcTo)), (b_arcRoom, .inl (k_arcRoom, 40, .inl r_arcRoom)), (b_arcCost, .inl (k_arcCost, 40, .inl r_arcCost))] sz) := by
  refine Met.ofW (cc := cX12_arc) (maxL := 6) (ret := (some .int)) (by decide) rfl ?_
  intro p e s m args below meth c s₁ B hml hv
  obtain ⟨rfl, hsz, hP, hK, hD0⟩ := hv
  have hx := B.exec
  have hb := B.bytes
  have hr := B.returns
  have hts := atoms_spec (ws := wsPX12_arc) B.pre
  have hown : s.vm.findClass RX12 = some m.cls := findClass_of_methodNamed B.named
  have hlocks := B.notSynchronized
  subst hsz
  have hD := hD0.self (sz := s.heap.size)
  generalize hAe : va_A [(h0, .inr (12, fM v)), (b_arcFrom, .inl (k_arcFrom, 40, .inl r_arcFrom)), (b_arcTo, .inl (k_arcTo, 40, .inl r_arcTo)), (b_arcRoom, .inl (k_arcRoom, 40, .inl r_arcRoom)), (b_arcCost, .inl (k_arcCost, 40, .inl r_arcCost))] s.heap.size = A at hD ⊢
  have hA : ∀ q : Nat, s.heap.size ≤ q → A q := fun q h => by rw [← hAe]; exact Or.inr h
  have hS : va_S A s.heap s.heap [] := va_S.rf
  have hP : va_P (dC, dI) vwCl [(h0, .inr (12, fM v)), (b_arcFrom, .inl (k_arcFrom, 40, .inl r_arcFrom)), (b_arcTo, .inl (k_arcTo, 40, .inl r_arcTo)), (b_arcRoom, .inl (k_arcRoom, 40, .inl r_arcRoom)), (b_arcCost, .inl (k_arcCost, 40, .inl r_arcCost))] s.heap := hP
  have hl := lv_entry ([.ref h0, .int qf, .int qt, .int qr, .int qc]) (n := 6) (Nat.le_of_ble_eq_true rfl)
  rw [lg_entry_eq]
  generalize (lg_sl ([.ref h0, .int qf, .int qt, .int qr, .int qc]) ++ List.replicate (6 - (lg_sl ([.ref h0, .int qf, .int qt, .int qr, .int qc])).length) Slot.unset).toArray = ls at hl ⊢
  have hl : lv_has ls 6 [(0, .ref h0), (1, .int qf), (2, .int qt), (3, .int qr), (4, .int qc)] := hl
  refine lv_iload_n hx hb dX12_arc_0 rfl (lv_at hl 1 rfl) ?_
  have hPc := hP.sub (ws' := []) [] rfl
  have hDc := hD.sub (ws' := []) [] (by decide) rfl
  have hKc := hK.sub (tys' := []) [] rfl
  have hFc := va_free (wc := []) hD hS hA [] rfl
  refine va_calli (va_runS (As := [.int qf]) (rest := []) ⟨hx, hb, hml, hown, hts⟩ (p_X12_isPlace l dC dI qf s.heap.size) (va_cwS 1 hts gwsPX12_arc_0 rfl rfl rfl (by decide +kernel) ⟨by decide +kernel, by decide +kernel⟩) ⟨fun a U g mk q => by obtain ⟨q0, q1, qP, qK, qD⟩ := q; exact ⟨q0, q1, qP, va_K.moved (u := U) (U := U.calling g mk a) (Vm.Alike.refl U.vm) qK, qD⟩, fun U hU9 hW => ⟨rfl, by rw [hU9], by rw [hU9]; exact hPc, va_K.moved hW.alike hKc, hDc.weaken (fun _ _ _ _ => trivial)⟩⟩ rfl rfl hl.1 rfl (lv_room (Nat.le_of_ble_eq_true rfl)) dX12_arc_1 ⟨by decide +kernel, by decide +kernel⟩) hS (fun q _ h => hFc q h) hFc (fun r1 u t H1 locs ht hvm hw hB hz1 hk1 hS => ?_)
  obtain ⟨hP1, hK1, hD1⟩ := hB
  rw [ht] at hP1
  have hK1 := va_K.moved hvm.symm hK1
  obtain ⟨hP, hD⟩ := va_join (wr := [(h0, .inr (12, fM v)), (b_arcFrom, .inl (k_arcFrom, 40, .inl r_arcFrom)), (b_arcTo, .inl (k_arcTo, 40, .inl r_arcTo)), (b_arcRoom, .inl (k_arcRoom, 40, .inl r_arcRoom)), (b_arcCost, .inl (k_arcCost, 40, .inl r_arcCost))]) (w1 := []) hP hD [] [0, 1, 2, 3, 4] rfl rfl (by decide) (by decide) hk1 hFc hP1 hD1
  generalize H1 = H at hP hS ⊢
  have hP : va_P (dC, dI) vwCl [(h0, .inr (12, fM v)), (b_arcFrom, .inl (k_arcFrom, 40, .inl r_arcFrom)), (b_arcTo, .inl (k_arcTo, 40, .inl r_arcTo)), (b_arcRoom, .inl (k_arcRoom, 40, .inl r_arcRoom)), (b_arcCost, .inl (k_arcCost, 40, .inl r_arcCost))] H := hP
  have hD : va_D A [(h0, .inr (12, fM v)), (b_arcFrom, .inl (k_arcFrom, 40, .inl r_arcFrom)), (b_arcTo, .inl (k_arcTo, 40, .inl r_arcTo)), (b_arcRoom, .inl (k_arcRoom, 40, .inl r_arcRoom)), (b_arcCost, .inl (k_arcCost, 40, .inl r_arcCost))] := hD
  rcases hw with ⟨rfl, f1_0⟩ | ⟨rfl, f1_0⟩
  · refine lv_if_eq (tgt := 47) hx hb dX12_arc_4 (by decide) (fun c9 => absurd c9 (by decide)) (fun _ => ?_)
    refine lv_iload_n hx hb dX12_arc_7 rfl (lv_at hl 2 rfl) ?_
    have hPc := hP.sub (ws' := []) [] rfl
    have hDc := hD.sub (ws' := []) [] (by decide) rfl
    have hKc := hK.sub (tys' := []) [] rfl
    have hFc := va_free (wc := []) hD hS hA [] rfl
    refine va_calli (va_runS (As := [.int qt]) (rest := []) ⟨hx, hb, hml, hown, hts⟩ (p_X12_isPlace l dC dI qt H.size) (va_cwS 1 hts gwsPX12_arc_0 rfl rfl rfl (by decide +kernel) ⟨by decide +kernel, by decide +kernel⟩) ⟨fun a U g mk q => by obtain ⟨q0, q1, qP, qK, qD⟩ := q; exact ⟨q0, q1, qP, va_K.moved (u := U) (U := U.calling g mk a) (Vm.Alike.refl U.vm) qK, qD⟩, fun U hU9 hW => ⟨rfl, by rw [hU9], by rw [hU9]; exact hPc, va_K.moved hW.alike hKc, hDc.weaken (fun _ _ _ _ => trivial)⟩⟩ rfl rfl hl.1 rfl (lv_room (Nat.le_of_ble_eq_true rfl)) dX12_arc_8 ⟨by decide +kernel, by decide +kernel⟩) hS (fun q _ h => hFc q h) hFc (fun r8 u t H1 locs ht hvm hw hB hz1 hk1 hS => ?_)
    obtain ⟨hP1, hK1, hD1⟩ := hB
    rw [ht] at hP1
    have hK1 := va_K.moved hvm.symm hK1
    obtain ⟨hP, hD⟩ := va_join (wr := [(h0, .inr (12, fM v)), (b_arcFrom, .inl (k_arcFrom, 40, .inl r_arcFrom)), (b_arcTo, .inl (k_arcTo, 40, .inl r_arcTo)), (b_arcRoom, .inl (k_arcRoom, 40, .inl r_arcRoom)), (b_arcCost, .inl (k_arcCost, 40, .inl r_arcCost))]) (w1 := []) hP hD [] [0, 1, 2, 3, 4] rfl rfl (by decide) (by decide) hk1 hFc hP1 hD1
    generalize H1 = H at hP hS ⊢
    have hP : va_P (dC, dI) vwCl [(h0, .inr (12, fM v)), (b_arcFrom, .inl (k_arcFrom, 40, .inl r_arcFrom)), (b_arcTo, .inl (k_arcTo, 40, .inl r_arcTo)), (b_arcRoom, .inl (k_arcRoom, 40, .inl r_arcRoom)), (b_arcCost, .inl (k_arcCost, 40, .inl r_arcCost))] H := hP
    have hD : va_D A [(h0, .inr (12, fM v)), (b_arcFrom, .inl (k_arcFrom, 40, .inl r_arcFrom)), (b_arcTo, .inl (k_arcTo, 40, .inl r_arcTo)), (b_arcRoom, .inl (k_arcRoom, 40, .inl r_arcRoom)), (b_arcCost, .inl (k_arcCost, 40, .inl r_arcCost))] := hD
    rcases hw with ⟨rfl, f8_0⟩ | ⟨rfl, f8_0⟩
    · refine lv_if_eq (tgt := 47) hx hb dX12_arc_11 (by decide) (fun c9 => absurd c9 (by decide)) (fun _ => ?_)
      refine lv_iload_n hx hb dX12_arc_14 rfl (lv_at hl 1 rfl) ?_
      refine lv_iload_n hx hb dX12_arc_15 rfl (lv_at hl 2 rfl) ?_
      refine lv_icmp_eq (tgt := 47) hx hb dX12_arc_16 (by decide) (fun c_16 => ?_) (fun c_16 => ?_)
      · have t_16 : (qf).toInt = (qt).toInt := toI_eq c_16 rfl rfl
        refine lv_iconst (v := 0) hx hb dX12_arc_47 (by decide) ?_
        refine lv_istore (lv' := [(5, .int 0), (0, .ref h0), (1, .int qf), (2, .int qt), (3, .int qr), (4, .int qc)]) hx hb dX12_arc_48 hl (by decide) rfl (fun ls hl => ?_)
        refine lv_aload_n hx hb dX12_arc_50 rfl (lv_at hl 1 rfl) ?_
        refine lv_iload hx hb dX12_arc_51 (lv_at hl 0 rfl) ?_
        refine lv_if_ne (tgt := 60) hx hb dX12_arc_53 (by decide) (fun c9 => absurd c9 (by decide)) (fun _ => ?_)
        refine lv_iconst (v := 1) hx hb dX12_arc_56 (by decide) ?_
        refine lv_goto (tgt := 74) hx hb dX12_arc_57 (by decide) ?_
        refine va_put (D := (dC, dI)) (ci := 12) (v := .int 1) (ty := .int) (C := RX12) (T := TX12) (N := 163) hx hb hts iwsPX12_arc_in12 tyX12 tyX12_ok nmX12 hown hK hP hD hS 0 rfl rfl 0 (by decide) (hts (.fieldLink RX12 348 "OptimaWorksModel" "thrown" "I") (by decide +kernel)) (fun _ h9 => h9) rfl (by decide +kernel) rfl rfl (Nat.le_of_ble_eq_true rfl) dX12_arc_74 (fun H locs hP hD hS => ?_)
        have hP : va_P (dC, dI) vwCl [(h0, .inr (12, fM (mUp v 0 (.int 1)))), (b_arcFrom, .inl (k_arcFrom, 40, .inl r_arcFrom)), (b_arcTo, .inl (k_arcTo, 40, .inl r_arcTo)), (b_arcRoom, .inl (k_arcRoom, 40, .inl r_arcRoom)), (b_arcCost, .inl (k_arcCost, 40, .inl r_arcCost))] H := hP
        have hD : va_D A [(h0, .inr (12, fM (mUp v 0 (.int 1)))), (b_arcFrom, .inl (k_arcFrom, 40, .inl r_arcFrom)), (b_arcTo, .inl (k_arcTo, 40, .inl r_arcTo)), (b_arcRoom, .inl (k_arcRoom, 40, .inl r_arcRoom)), (b_arcCost, .inl (k_arcCost, 40, .inl r_arcCost))] := hD
        refine lv_aload_n hx hb dX12_arc_77 rfl (lv_at hl 1 rfl) ?_
        refine va_get (D := (dC, dI)) (ci := 12) (v := .int 1) (C := RX12) (T := TX12) (N := 163) hx hb hts iwsPX12_arc_in12 hown hK hP 0 rfl rfl 0 (by decide) (hts (.fieldLink RX12 348 "OptimaWorksModel" "thrown" "I") (by decide +kernel)) (fun _ h9 => h9) rfl dX12_arc_78 ?_
        refine lv_if_le (tgt := 86) hx hb dX12_arc_81 (by decide) (fun c9 => absurd c9 (by decide)) (fun _ => ?_)
        refine lv_iconst (v := 0) hx hb dX12_arc_84 (by decide) ?_
        refine W.widen (k := 0) (n := 0) (by decide +kernel) (by decide +kernel) ?_
        exact W.iret (v := 0) hx hb hr (fun t ht hW => ⟨⟨0, (mUp v 0 (.int 1)), rfl, by first | (left; (refine ⟨?_, ?_, ?_⟩ <;> (first | rfl | assumption | trivial | omega | (simp [c_16]; done) | (simp; omega)))) | (right; (refine ⟨?_, ?_, ?_⟩ <;> (first | rfl | assumption | trivial | omega | (simp [c_16]; done) | (simp; omega)))), by rw [ht]; exact hP.sub [0] rfl, va_K.moved hW.alike (hK.sub [] rfl), hD.sub [0] (by decide) rfl⟩, hS.F ht⟩) hS.2.2 dX12_arc_85
      · have t_16 : ¬ (qf).toInt = (qt).toInt := toI_neq c_16 rfl rfl
        refine lv_iload_n hx hb dX12_arc_19 rfl (lv_at hl 3 rfl) ?_
        refine lv_if_lt (tgt := 47) hx hb dX12_arc_20 (by decide) (fun c_20 => ?_) (fun c_20 => ?_)
        · have t_20 : (qr).toInt < 0 := toI_lt c_20 rfl (by decide)
          refine lv_iconst (v := 0) hx hb dX12_arc_47 (by decide) ?_
          refine lv_istore (lv' := [(5, .int 0), (0, .ref h0), (1, .int qf), (2, .int qt), (3, .int qr), (4, .int qc)]) hx hb dX12_arc_48 hl (by decide) rfl (fun ls hl => ?_)
          refine lv_aload_n hx hb dX12_arc_50 rfl (lv_at hl 1 rfl) ?_
          refine lv_iload hx hb dX12_arc_51 (lv_at hl 0 rfl) ?_
          refine lv_if_ne (tgt := 60) hx hb dX12_arc_53 (by decide) (fun c9 => absurd c9 (by decide)) (fun _ => ?_)
          refine lv_iconst (v := 1) hx hb dX12_arc_56 (by decide) ?_
          refine lv_goto (tgt := 74) hx hb dX12_arc_57 (by decide) ?_
          refine va_put (D := (dC, dI)) (ci := 12) (v := .int 1) (ty := .int) (C := RX12) (T := TX12) (N := 163) hx hb hts iwsPX12_arc_in12 tyX12 tyX12_ok nmX12 hown hK hP hD hS 0 rfl rfl 0 (by decide) (hts (.fieldLink RX12 348 "OptimaWorksModel" "thrown" "I") (by decide +kernel)) (fun _ h9 => h9) rfl (by decide +kernel) rfl rfl (Nat.le_of_ble_eq_true rfl) dX12_arc_74 (fun H locs hP hD hS => ?_)
          have hP : va_P (dC, dI) vwCl [(h0, .inr (12, fM (mUp v 0 (.int 1)))), (b_arcFrom, .inl (k_arcFrom, 40, .inl r_arcFrom)), (b_arcTo, .inl (k_arcTo, 40, .inl r_arcTo)), (b_arcRoom, .inl (k_arcRoom, 40, .inl r_arcRoom)), (b_arcCost, .inl (k_arcCost, 40, .inl r_arcCost))] H := hP
          have hD : va_D A [(h0, .inr (12, fM (mUp v 0 (.int 1)))), (b_arcFrom, .inl (k_arcFrom, 40, .inl r_arcFrom)), (b_arcTo, .inl (k_arcTo, 40, .inl r_arcTo)), (b_arcRoom, .inl (k_arcRoom, 40, .inl r_arcRoom)), (b_arcCost, .inl (k_arcCost, 40, .inl r_arcCost))] := hD
          refine lv_aload_n hx hb dX12_arc_77 rfl (lv_at hl 1 rfl) ?_
          refine va_get (D := (dC, dI)) (ci := 12) (v := .int 1) (C := RX12) (T := TX12) (N := 163) hx hb hts iwsPX12_arc_in12 hown hK hP 0 rfl rfl 0 (by decide) (hts (.fieldLink RX12 348 "OptimaWorksModel" "thrown" "I") (by decide +kernel)) (fun _ h9 => h9) rfl dX12_arc_78 ?_
          refine lv_if_le (tgt := 86) hx hb dX12_arc_81 (by decide) (fun c9 => absurd c9 (by decide)) (fun _ => ?_)
          refine lv_iconst (v := 0) hx hb dX12_arc_84 (by decide) ?_
          refine W.widen (k := 0) (n := 0) (by decide +kernel) (by decide +kernel) ?_
          exact W.iret (v := 0) hx hb hr (fun t ht hW => ⟨⟨0, (mUp v 0 (.int 1)), rfl, by first | (left; (refine ⟨?_, ?_, ?_⟩ <;> (first | rfl | assumption | trivial | omega | (simp [c_16, c_20]; done) | (simp; omega)))) | (right; (refine ⟨?_, ?_, ?_⟩ <;> (first | rfl | assumption | trivial | omega | (simp [c_16, c_20]; done) | (simp; omega)))), by rw [ht]; exact hP.sub [0] rfl, va_K.moved hW.alike (hK.sub [] rfl), hD.sub [0] (by decide) rfl⟩, hS.F ht⟩) hS.2.2 dX12_arc_85
        · have t_20 : ¬ (qr).toInt < 0 := toI_nlt c_20 rfl (by decide)
          refine lv_iload_n hx hb dX12_arc_23 rfl (lv_at hl 3 rfl) ?_
          refine lv_sipush (v := 1000) hx hb dX12_arc_24 (by decide) ?_
          refine lv_icmp_gt (tgt := 47) hx hb dX12_arc_27 (by decide) (fun c_27 => ?_) (fun c_27 => ?_)
          · have t_27 : (qr).toInt > 1000 := toI_gt c_27 rfl (by decide)
            refine lv_iconst (v := 0) hx hb dX12_arc_47 (by decide) ?_
            refine lv_istore (lv' := [(5, .int 0), (0, .ref h0), (1, .int qf), (2, .int qt), (3, .int qr), (4, .int qc)]) hx hb dX12_arc_48 hl (by decide) rfl (fun ls hl => ?_)
            refine lv_aload_n hx hb dX12_arc_50 rfl (lv_at hl 1 rfl) ?_
            refine lv_iload hx hb dX12_arc_51 (lv_at hl 0 rfl) ?_
            refine lv_if_ne (tgt := 60) hx hb dX12_arc_53 (by decide) (fun c9 => absurd c9 (by decide)) (fun _ => ?_)
            refine lv_iconst (v := 1) hx hb dX12_arc_56 (by decide) ?_
            refine lv_goto (tgt := 74) hx hb dX12_arc_57 (by decide) ?_
            refine va_put (D := (dC, dI)) (ci := 12) (v := .int 1) (ty := .int) (C := RX12) (T := TX12) (N := 163) hx hb hts iwsPX12_arc_in12 tyX12 tyX12_ok nmX12 hown hK hP hD hS 0 rfl rfl 0 (by decide) (hts (.fieldLink RX12 348 "OptimaWorksModel" "thrown" "I") (by decide +kernel)) (fun _ h9 => h9) rfl (by decide +kernel) rfl rfl (Nat.le_of_ble_eq_true rfl) dX12_arc_74 (fun H locs hP hD hS => ?_)
            have hP : va_P (dC, dI) vwCl [(h0, .inr (12, fM (mUp v 0 (.int 1)))), (b_arcFrom, .inl (k_arcFrom, 40, .inl r_arcFrom)), (b_arcTo, .inl (k_arcTo, 40, .inl r_arcTo)), (b_arcRoom, .inl (k_arcRoom, 40, .inl r_arcRoom)), (b_arcCost, .inl (k_arcCost, 40, .inl r_arcCost))] H := hP
            have hD : va_D A [(h0, .inr (12, fM (mUp v 0 (.int 1)))), (b_arcFrom, .inl (k_arcFrom, 40, .inl r_arcFrom)), (b_arcTo, .inl (k_arcTo, 40, .inl r_arcTo)), (b_arcRoom, .inl (k_arcRoom, 40, .inl r_arcRoom)), (b_arcCost, .inl (k_arcCost, 40, .inl r_arcCost))] := hD
            refine lv_aload_n hx hb dX12_arc_77 rfl (lv_at hl 1 rfl) ?_
            refine va_get (D := (dC, dI)) (ci := 12) (v := .int 1) (C := RX12) (T := TX12) (N := 163) hx hb hts iwsPX12_arc_in12 hown hK hP 0 rfl rfl 0 (by decide) (hts (.fieldLink RX12 348 "OptimaWorksModel" "thrown" "I") (by decide +kernel)) (fun _ h9 => h9) rfl dX12_arc_78 ?_
            refine lv_if_le (tgt := 86) hx hb dX12_arc_81 (by decide) (fun c9 => absurd c9 (by decide)) (fun _ => ?_)
            refine lv_iconst (v := 0) hx hb dX12_arc_84 (by decide) ?_
            refine W.widen (k := 0) (n := 0) (by decide +kernel) (by decide +kernel) ?_
            exact W.iret (v := 0) hx hb hr (fun t ht hW => ⟨⟨0, (mUp v 0 (.int 1)), rfl, by first | (left; (refine ⟨?_, ?_, ?_⟩ <;> (first | rfl | assumption | trivial | omega | (simp [c_16, c_20, c_27]; done) | (simp; omega)))) | (right; (refine ⟨?_, ?_, ?_⟩ <;> (first | rfl | assumption | trivial | omega | (simp [c_16, c_20, c_27]; done) | (simp; omega)))), by rw [ht]; exact hP.sub [0] rfl, va_K.moved hW.alike (hK.sub [] rfl), hD.sub [0] (by decide) rfl⟩, hS.F ht⟩) hS.2.2 dX12_arc_85
          · have t_27 : ¬ (qr).toInt > 1000 := toI_ngt c_27 rfl (by decide)
            refine lv_iload hx hb dX12_arc_30 (lv_at hl 4 rfl) ?_
            refine lv_if_lt (tgt := 47) hx hb dX12_arc_32 (by decide) (fun c_32 => ?_) (fun c_32 => ?_)
            · have t_32 : (qc).toInt < 0 := toI_lt c_32 rfl (by decide)
              refine lv_iconst (v := 0) hx hb dX12_arc_47 (by decide) ?_
              refine lv_istore (lv' := [(5, .int 0), (0, .ref h0), (1, .int qf), (2, .int qt), (3, .int qr), (4, .int qc)]) hx hb dX12_arc_48 hl (by decide) rfl (fun ls hl => ?_)
              refine lv_aload_n hx hb dX12_arc_50 rfl (lv_at hl 1 rfl) ?_
              refine lv_iload hx hb dX12_arc_51 (lv_at hl 0 rfl) ?_
              refine lv_if_ne (tgt := 60) hx hb dX12_arc_53 (by decide) (fun c9 => absurd c9 (by decide)) (fun _ => ?_)
              refine lv_iconst (v := 1) hx hb dX12_arc_56 (by decide) ?_
              refine lv_goto (tgt := 74) hx hb dX12_arc_57 (by decide) ?_
              refine va_put (D := (dC, dI)) (ci := 12) (v := .int 1) (ty := .int) (C := RX12) (T := TX12) (N := 163) hx hb hts iwsPX12_arc_in12 tyX12 tyX12_ok nmX12 hown hK hP hD hS 0 rfl rfl 0 (by decide) (hts (.fieldLink RX12 348 "OptimaWorksModel" "thrown" "I") (by decide +kernel)) (fun _ h9 => h9) rfl (by decide +kernel) rfl rfl (Nat.le_of_ble_eq_true rfl) dX12_arc_74 (fun H locs hP hD hS => ?_)
              have hP : va_P (dC, dI) vwCl [(h0, .inr (12, fM (mUp v 0 (.int 1)))), (b_arcFrom, .inl (k_arcFrom, 40, .inl r_arcFrom)), (b_arcTo, .inl (k_arcTo, 40, .inl r_arcTo)), (b_arcRoom, .inl (k_arcRoom, 40, .inl r_arcRoom)), (b_arcCost, .inl (k_arcCost, 40, .inl r_arcCost))] H := hP
              have hD : va_D A [(h0, .inr (12, fM (mUp v 0 (.int 1)))), (b_arcFrom, .inl (k_arcFrom, 40, .inl r_arcFrom)), (b_arcTo, .inl (k_arcTo, 40, .inl r_arcTo)), (b_arcRoom, .inl (k_arcRoom, 40, .inl r_arcRoom)), (b_arcCost, .inl (k_arcCost, 40, .inl r_arcCost))] := hD
              refine lv_aload_n hx hb dX12_arc_77 rfl (lv_at hl 1 rfl) ?_
              refine va_get (D := (dC, dI)) (ci := 12) (v := .int 1) (C := RX12) (T := TX12) (N := 163) hx hb hts iwsPX12_arc_in12 hown hK hP 0 rfl rfl 0 (by decide) (hts (.fieldLink RX12 348 "OptimaWorksModel" "thrown" "I") (by decide +kernel)) (fun _ h9 => h9) rfl dX12_arc_78 ?_
              refine lv_if_le (tgt := 86) hx hb dX12_arc_81 (by decide) (fun c9 => absurd c9 (by decide)) (fun _ => ?_)
              refine lv_iconst (v := 0) hx hb dX12_arc_84 (by decide) ?_
              refine W.widen (k := 0) (n := 0) (by decide +kernel) (by decide +kernel) ?_
              exact W.iret (v := 0) hx hb hr (fun t ht hW => ⟨⟨0, (mUp v 0 (.int 1)), rfl, by first | (left; (refine ⟨?_, ?_, ?_⟩ <;> (first | rfl | assumption | trivial | omega | (simp [c_16, c_20, c_27, c_32]; done) | (simp; omega)))) | (right; (refine ⟨?_, ?_, ?_⟩ <;> (first | rfl | assumption | trivial | omega | (simp [c_16, c_20, c_27, c_32]; done) | (simp; omega)))), by rw [ht]; exact hP.sub [0] rfl, va_K.moved hW.alike (hK.sub [] rfl), hD.sub [0] (by decide) rfl⟩, hS.F ht⟩) hS.2.2 dX12_arc_85
            · have t_32 : ¬ (qc).toInt < 0 := toI_nlt c_32 rfl (by decide)
              refine lv_iload hx hb dX12_arc_35 (lv_at hl 4 rfl) ?_
              refine lv_sipush (v := 1000) hx hb dX12_arc_37 (by decide) ?_
              refine lv_icmp_gt (tgt := 47) hx hb dX12_arc_40 (by decide) (fun c_40 => ?_) (fun c_40 => ?_)
              · have t_40 : (qc).toInt > 1000 := toI_gt c_40 rfl (by decide)
                refine lv_iconst (v := 0) hx hb dX12_arc_47 (by decide) ?_
                refine lv_istore (lv' := [(5, .int 0), (0, .ref h0), (1, .int qf), (2, .int qt), (3, .int qr), (4, .int qc)]) hx hb dX12_arc_48 hl (by decide) rfl (fun ls hl => ?_)
                refine lv_aload_n hx hb dX12_arc_50 rfl (lv_at hl 1 rfl) ?_
                refine lv_iload hx hb dX12_arc_51 (lv_at hl 0 rfl) ?_
                refine lv_if_ne (tgt := 60) hx hb dX12_arc_53 (by decide) (fun c9 => absurd c9 (by decide)) (fun _ => ?_)
                refine lv_iconst (v := 1) hx hb dX12_arc_56 (by decide) ?_
                refine lv_goto (tgt := 74) hx hb dX12_arc_57 (by decide) ?_
                refine va_put (D := (dC, dI)) (ci := 12) (v := .int 1) (ty := .int) (C := RX12) (T := TX12) (N := 163) hx hb hts iwsPX12_arc_in12 tyX12 tyX12_ok nmX12 hown hK hP hD hS 0 rfl rfl 0 (by decide) (hts (.fieldLink RX12 348 "OptimaWorksModel" "thrown" "I") (by decide +kernel)) (fun _ h9 => h9) rfl (by decide +kernel) rfl rfl (Nat.le_of_ble_eq_true rfl) dX12_arc_74 (fun H locs hP hD hS => ?_)
                have hP : va_P (dC, dI) vwCl [(h0, .inr (12, fM (mUp v 0 (.int 1)))), (b_arcFrom, .inl (k_arcFrom, 40, .inl r_arcFrom)), (b_arcTo, .inl (k_arcTo, 40, .inl r_arcTo)), (b_arcRoom, .inl (k_arcRoom, 40, .inl r_arcRoom)), (b_arcCost, .inl (k_arcCost, 40, .inl r_arcCost))] H := hP
                have hD : va_D A [(h0, .inr (12, fM (mUp v 0 (.int 1)))), (b_arcFrom, .inl (k_arcFrom, 40, .inl r_arcFrom)), (b_arcTo, .inl (k_arcTo, 40, .inl r_arcTo)), (b_arcRoom, .inl (k_arcRoom, 40, .inl r_arcRoom)), (b_arcCost, .inl (k_arcCost, 40, .inl r_arcCost))] := hD
                refine lv_aload_n hx hb dX12_arc_77 rfl (lv_at hl 1 rfl) ?_
                refine va_get (D := (dC, dI)) (ci := 12) (v := .int 1) (C := RX12) (T := TX12) (N := 163) hx hb hts iwsPX12_arc_in12 hown hK hP 0 rfl rfl 0 (by decide) (hts (.fieldLink RX12 348 "OptimaWorksModel" "thrown" "I") (by decide +kernel)) (fun _ h9 => h9) rfl dX12_arc_78 ?_
                refine lv_if_le (tgt := 86) hx hb dX12_arc_81 (by decide) (fun c9 => absurd c9 (by decide)) (fun _ => ?_)
                refine lv_iconst (v := 0) hx hb dX12_arc_84 (by decide) ?_
                refine W.widen (k := 0) (n := 0) (by decide +kernel) (by decide +kernel) ?_
                exact W.iret (v := 0) hx hb hr (fun t ht hW => ⟨⟨0, (mUp v 0 (.int 1)), rfl, by first | (left; (refine ⟨?_, ?_, ?_⟩ <;> (first | rfl | assumption | trivial | omega | (simp [c_16, c_20, c_27, c_32, c_40]; done) | (simp; omega)))) | (right; (refine ⟨?_, ?_, ?_⟩ <;> (first | rfl | assumption | trivial | omega | (simp [c_16, c_20, c_27, c_32, c_40]; done) | (simp; omega)))), by rw [ht]; exact hP.sub [0] rfl, va_K.moved hW.alike (hK.sub [] rfl), hD.sub [0] (by decide) rfl⟩, hS.F ht⟩) hS.2.2 dX12_arc_85
              · have t_40 : ¬ (qc).toInt > 1000 := toI_ngt c_40 rfl (by decide)
                refine lv_iconst (v := 1) hx hb dX12_arc_43 (by decide) ?_
                refine lv_goto (tgt := 48) hx hb dX12_arc_44 (by decide) ?_
                refine lv_istore (lv' := [(5, .int 1), (0, .ref h0), (1, .int qf), (2, .int qt), (3, .int qr), (4, .int qc)]) hx hb dX12_arc_48 hl (by decide) rfl (fun ls hl => ?_)
                refine lv_aload_n hx hb dX12_arc_50 rfl (lv_at hl 1 rfl) ?_
                refine lv_iload hx hb dX12_arc_51 (lv_at hl 0 rfl) ?_
                refine lv_if_ne (tgt := 60) hx hb dX12_arc_53 (by decide) (fun _ => ?_) (fun c9 => absurd c9 (by decide))
                refine lv_aload_n hx hb dX12_arc_60 rfl (lv_at hl 1 rfl) ?_
                refine va_get (D := (dC, dI)) (ci := 12) (v := .int 0) (C := RX12) (T := TX12) (N := 163) hx hb hts iwsPX12_arc_in12 hown hK hP 0 rfl rfl 150 (by decide) (hts (.fieldLink RX12 1069 "OptimaWorksModel" "arcs" "I") (by decide +kernel)) (fun _ h9 => h9) (congrArg some h_arcs) dX12_arc_61 ?_
                refine lv_bipush (v := 40) hx hb dX12_arc_64 (by decide) ?_
                refine lv_icmp_ne (tgt := 73) hx hb dX12_arc_66 (by decide) (fun _ => ?_) (fun c9 => absurd c9 (by decide))
                refine lv_iconst (v := 0) hx hb dX12_arc_73 (by decide) ?_
                refine va_put (D := (dC, dI)) (ci := 12) (v := .int 0) (ty := .int) (C := RX12) (T := TX12) (N := 163) hx hb hts iwsPX12_arc_in12 tyX12 tyX12_ok nmX12 hown hK hP hD hS 0 rfl rfl 0 (by decide) (hts (.fieldLink RX12 348 "OptimaWorksModel" "thrown" "I") (by decide +kernel)) (fun _ h9 => h9) rfl (by decide +kernel) rfl rfl (Nat.le_of_ble_eq_true rfl) dX12_arc_74 (fun H locs hP hD hS => ?_)
                have hP : va_P (dC, dI) vwCl [(h0, .inr (12, fM (mUp v 0 (.int 0)))), (b_arcFrom, .inl (k_arcFrom, 40, .inl r_arcFrom)), (b_arcTo, .inl (k_arcTo, 40, .inl r_arcTo)), (b_arcRoom, .inl (k_arcRoom, 40, .inl r_arcRoom)), (b_arcCost, .inl (k_arcCost, 40, .inl r_arcCost))] H := hP
                have hD : va_D A [(h0, .inr (12, fM (mUp v 0 (.int 0)))), (b_arcFrom, .inl (k_arcFrom, 40, .inl r_arcFrom)), (b_arcTo, .inl (k_arcTo, 40, .inl r_arcTo)), (b_arcRoom, .inl (k_arcRoom, 40, .inl r_arcRoom)), (b_arcCost, .inl (k_arcCost, 40, .inl r_arcCost))] := hD
                refine lv_aload_n hx hb dX12_arc_77 rfl (lv_at hl 1 rfl) ?_
                refine va_get (D := (dC, dI)) (ci := 12) (v := .int 0) (C := RX12) (T := TX12) (N := 163) hx hb hts iwsPX12_arc_in12 hown hK hP 0 rfl rfl 0 (by decide) (hts (.fieldLink RX12 348 "OptimaWorksModel" "thrown" "I") (by decide +kernel)) (fun _ h9 => h9) rfl dX12_arc_78 ?_
                refine lv_if_le (tgt := 86) hx hb dX12_arc_81 (by decide) (fun _ => ?_) (fun c9 => absurd (by decide) c9)
                refine lv_aload_n hx hb dX12_arc_86 rfl (lv_at hl 1 rfl) ?_
                refine va_get (D := (dC, dI)) (ci := 12) (v := .ref b_arcFrom) (C := RX12) (T := TX12) (N := 163) hx hb hts iwsPX12_arc_in12 hown hK hP 0 rfl rfl 151 (by decide) (hts (.fieldLink RX12 312 "OptimaWorksModel" "arcFrom" "[I") (by decide +kernel)) (fun _ h9 => h9) (congrArg some h_arcFrom) dX12_arc_87 ?_
                refine lv_aload_n hx hb dX12_arc_90 rfl (lv_at hl 1 rfl) ?_
                refine va_get (D := (dC, dI)) (ci := 12) (v := .int 0) (C := RX12) (T := TX12) (N := 163) hx hb hts iwsPX12_arc_in12 hown hK hP 0 rfl rfl 150 (by decide) (hts (.fieldLink RX12 1069 "OptimaWorksModel" "arcs" "I") (by decide +kernel)) (fun _ h9 => h9) (congrArg some h_arcs) dX12_arc_91 ?_
                refine lv_iload_n hx hb dX12_arc_94 rfl (lv_at hl 2 rfl) ?_
                refine va_iast hx hb hK hP hD hS 1 0 rfl rfl (show ¬ ((0 : Int32) < 0 ∨ 40 ≤ (0 : Int32).toNatClampNeg) by decide) dX12_arc_95 (fun H locs hP hD hS => ?_)
                have hP : va_P (dC, dI) vwCl [(h0, .inr (12, fM (mUp v 0 (.int 0)))), (b_arcFrom, .inl (k_arcFrom, 40, .inl (upd r_arcFrom (0 : Int32).toNatClampNeg qf))), (b_arcTo, .inl (k_arcTo, 40, .inl r_arcTo)), (b_arcRoom, .inl (k_arcRoom, 40, .inl r_arcRoom)), (b_arcCost, .inl (k_arcCost, 40, .inl r_arcCost))] H := hP
                have hD : va_D A [(h0, .inr (12, fM (mUp v 0 (.int 0)))), (b_arcFrom, .inl (k_arcFrom, 40, .inl (upd r_arcFrom (0 : Int32).toNatClampNeg qf))), (b_arcTo, .inl (k_arcTo, 40, .inl r_arcTo)), (b_arcRoom, .inl (k_arcRoom, 40, .inl r_arcRoom)), (b_arcCost, .inl (k_arcCost, 40, .inl r_arcCost))] := hD
                refine lv_aload_n hx hb dX12_arc_96 rfl (lv_at hl 1 rfl) ?_
                refine va_get (D := (dC, dI)) (ci := 12) (v := .ref b_arcTo) (C := RX12) (T := TX12) (N := 163) hx hb hts iwsPX12_arc_in12 hown hK hP 0 rfl rfl 152 (by decide) (hts (.fieldLink RX12 315 "OptimaWorksModel" "arcTo" "[I") (by decide +kernel)) (fun _ h9 => h9) (congrArg some h_arcTo) dX12_arc_97 ?_
                refine lv_aload_n hx hb dX12_arc_100 rfl (lv_at hl 1 rfl) ?_
                refine va_get (D := (dC, dI)) (ci := 12) (v := .int 0) (C := RX12) (T := TX12) (N := 163) hx hb hts iwsPX12_arc_in12 hown hK hP 0 rfl rfl 150 (by decide) (hts (.fieldLink RX12 1069 "OptimaWorksModel" "arcs" "I") (by decide +kernel)) (fun _ h9 => h9) (congrArg some h_arcs) dX12_arc_101 ?_
                refine lv_iload_n hx hb dX12_arc_104 rfl (lv_at hl 3 rfl) ?_
                refine va_iast hx hb hK hP hD hS 2 1 rfl rfl (show ¬ ((0 : Int32) < 0 ∨ 40 ≤ (0 : Int32).toNatClampNeg) by decide) dX12_arc_105 (fun H locs hP hD hS => ?_)
                have hP : va_P (dC, dI) vwCl [(h0, .inr (12, fM (mUp v 0 (.int 0)))), (b_arcFrom, .inl (k_arcFrom, 40, .inl (upd r_arcFrom (0 : Int32).toNatClampNeg qf))), (b_arcTo, .inl (k_arcTo, 40, .inl (upd r_arcTo (0 : Int32).toNatClampNeg qt))), (b_arcRoom, .inl (k_arcRoom, 40, .inl r_arcRoom)), (b_arcCost, .inl (k_arcCost, 40, .inl r_arcCost))] H := hP
                have hD : va_D A [(h0, .inr (12, fM (mUp v 0 (.int 0)))), (b_arcFrom, .inl (k_arcFrom, 40, .inl (upd r_arcFrom (0 : Int32).toNatClampNeg qf))), (b_arcTo, .inl (k_arcTo, 40, .inl (upd r_arcTo (0 : Int32).toNatClampNeg qt))), (b_arcRoom, .inl (k_arcRoom, 40, .inl r_arcRoom)), (b_arcCost, .inl (k_arcCost, 40, .inl r_arcCost))] := hD
                refine lv_aload_n hx hb dX12_arc_106 rfl (lv_at hl 1 rfl) ?_
                refine va_get (D := (dC, dI)) (ci := 12) (v := .ref b_arcRoom) (C := RX12) (T := TX12) (N := 163) hx hb hts iwsPX12_arc_in12 hown hK hP 0 rfl rfl 153 (by decide) (hts (.fieldLink RX12 318 "OptimaWorksModel" "arcRoom" "[I") (by decide +kernel)) (fun _ h9 => h9) (congrArg some h_arcRoom) dX12_arc_107 ?_
                refine lv_aload_n hx hb dX12_arc_110 rfl (lv_at hl 1 rfl) ?_
                refine va_get (D := (dC, dI)) (ci := 12) (v := .int 0) (C := RX12) (T := TX12) (N := 163) hx hb hts iwsPX12_arc_in12 hown hK hP 0 rfl rfl 150 (by decide) (hts (.fieldLink RX12 1069 "OptimaWorksModel" "arcs" "I") (by decide +kernel)) (fun _ h9 => h9) (congrArg some h_arcs) dX12_arc_111 ?_
                refine lv_iload_n hx hb dX12_arc_114 rfl (lv_at hl 4 rfl) ?_
                refine va_iast hx hb hK hP hD hS 3 2 rfl rfl (show ¬ ((0 : Int32) < 0 ∨ 40 ≤ (0 : Int32).toNatClampNeg) by decide) dX12_arc_115 (fun H locs hP hD hS => ?_)
                have hP : va_P (dC, dI) vwCl [(h0, .inr (12, fM (mUp v 0 (.int 0)))), (b_arcFrom, .inl (k_arcFrom, 40, .inl (upd r_arcFrom (0 : Int32).toNatClampNeg qf))), (b_arcTo, .inl (k_arcTo, 40, .inl (upd r_arcTo (0 : Int32).toNatClampNeg qt))), (b_arcRoom, .inl (k_arcRoom, 40, .inl (upd r_arcRoom (0 : Int32).toNatClampNeg qr))), (b_arcCost, .inl (k_arcCost, 40, .inl r_arcCost))] H := hP
                have hD : va_D A [(h0, .inr (12, fM (mUp v 0 (.int 0)))), (b_arcFrom, .inl (k_arcFrom, 40, .inl (upd r_arcFrom (0 : Int32).toNatClampNeg qf))), (b_arcTo, .inl (k_arcTo, 40, .inl (upd r_arcTo (0 : Int32).toNatClampNeg qt))), (b_arcRoom, .inl (k_arcRoom, 40, .inl (upd r_arcRoom (0 : Int32).toNatClampNeg qr))), (b_arcCost, .inl (k_arcCost, 40, .inl r_arcCost))] := hD
                refine lv_aload_n hx hb dX12_arc_116 rfl (lv_at hl 1 rfl) ?_
                refine va_get (D := (dC, dI)) (ci := 12) (v := .ref b_arcCost) (C := RX12) (T := TX12) (N := 163) hx hb hts iwsPX12_arc_in12 hown hK hP 0 rfl rfl 154 (by decide) (hts (.fieldLink RX12 321 "OptimaWorksModel" "arcCost" "[I") (by decide +kernel)) (fun _ h9 => h9) (congrArg some h_arcCost) dX12_arc_117 ?_
                refine lv_aload_n hx hb dX12_arc_120 rfl (lv_at hl 1 rfl) ?_
                refine va_get (D := (dC, dI)) (ci := 12) (v := .int 0) (C := RX12) (T := TX12) (N := 163) hx hb hts iwsPX12_arc_in12 hown hK hP 0 rfl rfl 150 (by decide) (hts (.fieldLink RX12 1069 "OptimaWorksModel" "arcs" "I") (by decide +kernel)) (fun _ h9 => h9) (congrArg some h_arcs) dX12_arc_121 ?_
                refine lv_iload hx hb dX12_arc_124 (lv_at hl 5 rfl) ?_
                refine va_iast hx hb hK hP hD hS 4 3 rfl rfl (show ¬ ((0 : Int32) < 0 ∨ 40 ≤ (0 : Int32).toNatClampNeg) by decide) dX12_arc_126 (fun H locs hP hD hS => ?_)
                have hP : va_P (dC, dI) vwCl [(h0, .inr (12, fM (mUp v 0 (.int 0)))), (b_arcFrom, .inl (k_arcFrom, 40, .inl (upd r_arcFrom (0 : Int32).toNatClampNeg qf))), (b_arcTo, .inl (k_arcTo, 40, .inl (upd r_arcTo (0 : Int32).toNatClampNeg qt))), (b_arcRoom, .inl (k_arcRoom, 40, .inl (upd r_arcRoom (0 : Int32).toNatClampNeg qr))), (b_arcCost, .inl (k_arcCost, 40, .inl (upd r_arcCost (0 : Int32).toNatClampNeg qc)))] H := hP
                have hD : va_D A [(h0, .inr (12, fM (mUp v 0 (.int 0)))), (b_arcFrom, .inl (k_arcFrom, 40, .inl (upd r_arcFrom (0 : Int32).toNatClampNeg qf))), (b_arcTo, .inl (k_arcTo, 40, .inl (upd r_arcTo (0 : Int32).toNatClampNeg qt))), (b_arcRoom, .inl (k_arcRoom, 40, .inl (upd r_arcRoom (0 : Int32).toNatClampNeg qr))), (b_arcCost, .inl (k_arcCost, 40, .inl (upd r_arcCost (0 : Int32).toNatClampNeg qc)))] := hD
                refine lv_aload_n hx hb dX12_arc_127 rfl (lv_at hl 1 rfl) ?_
                refine lv_dup hx hb dX12_arc_128 rfl ?_
                refine va_get (D := (dC, dI)) (ci := 12) (v := .int 0) (C := RX12) (T := TX12) (N := 163) hx hb hts iwsPX12_arc_in12 hown hK hP 0 rfl rfl 150 (by decide) (hts (.fieldLink RX12 1069 "OptimaWorksModel" "arcs" "I") (by decide +kernel)) (fun _ h9 => h9) (congrArg some h_arcs) dX12_arc_129 ?_
                refine lv_iconst (v := 1) hx hb dX12_arc_132 (by decide) ?_
                refine lv_iadd hx hb dX12_arc_133 ?_
                refine lv_topi (fun y1 hy1 => ?_)
                obtain rfl : 1 = y1 := (hy1.trans (by decide)).symm
                refine va_put (D := (dC, dI)) (ci := 12) (v := .int 1) (ty := .int) (C := RX12) (T := TX12) (N := 163) hx hb hts iwsPX12_arc_in12 tyX12 tyX12_ok nmX12 hown hK hP hD hS 0 rfl rfl 150 (by decide) (hts (.fieldLink RX12 1069 "OptimaWorksModel" "arcs" "I") (by decide +kernel)) (fun _ h9 => h9) rfl (by decide +kernel) rfl rfl (Nat.le_of_ble_eq_true rfl) dX12_arc_134 (fun H locs hP hD hS => ?_)
                have hP : va_P (dC, dI) vwCl [(h0, .inr (12, fM (mUp (mUp v 0 (.int 0)) 150 (.int 1)))), (b_arcFrom, .inl (k_arcFrom, 40, .inl (upd r_arcFrom (0 : Int32).toNatClampNeg qf))), (b_arcTo, .inl (k_arcTo, 40, .inl (upd r_arcTo (0 : Int32).toNatClampNeg qt))), (b_arcRoom, .inl (k_arcRoom, 40, .inl (upd r_arcRoom (0 : Int32).toNatClampNeg qr))), (b_arcCost, .inl (k_arcCost, 40, .inl (upd r_arcCost (0 : Int32).toNatClampNeg qc)))] H := hP
                have hD : va_D A [(h0, .inr (12, fM (mUp (mUp v 0 (.int 0)) 150 (.int 1)))), (b_arcFrom, .inl (k_arcFrom, 40, .inl (upd r_arcFrom (0 : Int32).toNatClampNeg qf))), (b_arcTo, .inl (k_arcTo, 40, .inl (upd r_arcTo (0 : Int32).toNatClampNeg qt))), (b_arcRoom, .inl (k_arcRoom, 40, .inl (upd r_arcRoom (0 : Int32).toNatClampNeg qr))), (b_arcCost, .inl (k_arcCost, 40, .inl (upd r_arcCost (0 : Int32).toNatClampNeg qc)))] := hD
                refine lv_aload_n hx hb dX12_arc_137 rfl (lv_at hl 1 rfl) ?_
                refine va_get (D := (dC, dI)) (ci := 12) (v := .int 1) (C := RX12) (T := TX12) (N := 163) hx hb hts iwsPX12_arc_in12 hown hK hP 0 rfl rfl 150 (by decide) (hts (.fieldLink RX12 1069 "OptimaWorksModel" "arcs" "I") (by decide +kernel)) (fun _ h9 => h9) rfl dX12_arc_138 ?_
                refine lv_iconst (v := 1) hx hb dX12_arc_141 (by decide) ?_
                refine lv_isub hx hb dX12_arc_142 ?_
                refine lv_topi (fun y2 hy2 => ?_)
                obtain rfl : 0 = y2 := (hy2.trans (by decide)).symm
                refine W.widen (k := 0) (n := 0) (by decide +kernel) (by decide +kernel) ?_
                exact W.iret (v := 0) hx hb hr (fun t ht hW => ⟨⟨0, (mUp (mUp v 0 (.int 0)) 150 (.int 1)), rfl, by first | (left; (refine ⟨?_, ?_, ?_⟩ <;> (first | rfl | assumption | trivial | omega | (simp [c_16, c_20, c_27, c_32, c_40]; done) | (simp; omega)))) | (right; (refine ⟨?_, ?_, ?_⟩ <;> (first | rfl | assumption | trivial | omega | (simp [c_16, c_20, c_27, c_32, c_40]; done) | (simp; omega)))), by rw [ht]; exact hP.sub [0] rfl, va_K.moved hW.alike (hK.sub [] rfl), hD.sub [0] (by decide) rfl⟩, hS.F ht⟩) hS.2.2 dX12_arc_143
    · refine lv_if_eq (tgt := 47) hx hb dX12_arc_11 (by decide) (fun _ => ?_) (fun c9 => absurd (by decide) c9)
      refine lv_iconst (v := 0) hx hb dX12_arc_47 (by decide) ?_
      refine lv_istore (lv' := [(5, .int 0), (0, .ref h0), (1, .int qf), (2, .int qt), (3, .int qr), (4, .int qc)]) hx hb dX12_arc_48 hl (by decide) rfl (fun ls hl => ?_)
      refine lv_aload_n hx hb dX12_arc_50 rfl (lv_at hl 1 rfl) ?_
      refine lv_iload hx hb dX12_arc_51 (lv_at hl 0 rfl) ?_
      refine lv_if_ne (tgt := 60) hx hb dX12_arc_53 (by decide) (fun c9 => absurd c9 (by decide)) (fun _ => ?_)
      refine lv_iconst (v := 1) hx hb dX12_arc_56 (by decide) ?_
      refine lv_goto (tgt := 74) hx hb dX12_arc_57 (by decide) ?_
      refine va_put (D := (dC, dI)) (ci := 12) (v := .int 1) (ty := .int) (C := RX12) (T := TX12) (N := 163) hx hb hts iwsPX12_arc_in12 tyX12 tyX12_ok nmX12 hown hK hP hD hS 0 rfl rfl 0 (by decide) (hts (.fieldLink RX12 348 "OptimaWorksModel" "thrown" "I") (by decide +kernel)) (fun _ h9 => h9) rfl (by decide +kernel) rfl rfl (Nat.le_of_ble_eq_true rfl) dX12_arc_74 (fun H locs hP hD hS => ?_)
      have hP : va_P (dC, dI) vwCl [(h0, .inr (12, fM (mUp v 0 (.int 1)))), (b_arcFrom, .inl (k_arcFrom, 40, .inl r_arcFrom)), (b_arcTo, .inl (k_arcTo, 40, .inl r_arcTo)), (b_arcRoom, .inl (k_arcRoom, 40, .inl r_arcRoom)), (b_arcCost, .inl (k_arcCost, 40, .inl r_arcCost))] H := hP
      have hD : va_D A [(h0, .inr (12, fM (mUp v 0 (.int 1)))), (b_arcFrom, .inl (k_arcFrom, 40, .inl r_arcFrom)), (b_arcTo, .inl (k_arcTo, 40, .inl r_arcTo)), (b_arcRoom, .inl (k_arcRoom, 40, .inl r_arcRoom)), (b_arcCost, .inl (k_arcCost, 40, .inl r_arcCost))] := hD
      refine lv_aload_n hx hb dX12_arc_77 rfl (lv_at hl 1 rfl) ?_
      refine va_get (D := (dC, dI)) (ci := 12) (v := .int 1) (C := RX12) (T := TX12) (N := 163) hx hb hts iwsPX12_arc_in12 hown hK hP 0 rfl rfl 0 (by decide) (hts (.fieldLink RX12 348 "OptimaWorksModel" "thrown" "I") (by decide +kernel)) (fun _ h9 => h9) rfl dX12_arc_78 ?_
      refine lv_if_le (tgt := 86) hx hb dX12_arc_81 (by decide) (fun c9 => absurd c9 (by decide)) (fun _ => ?_)
      refine lv_iconst (v := 0) hx hb dX12_arc_84 (by decide) ?_
      refine W.widen (k := 0) (n := 0) (by decide +kernel) (by decide +kernel) ?_
      exact W.iret (v := 0) hx hb hr (fun t ht hW => ⟨⟨0, (mUp v 0 (.int 1)), rfl, by first | (left; (refine ⟨?_, ?_, ?_⟩ <;> (first | rfl | assumption | trivial | omega | (simp []; done) | (simp; omega)))) | (right; (refine ⟨?_, ?_, ?_⟩ <;> (first | rfl | assumption | trivial | omega | (simp []; done) | (simp; omega)))), by rw [ht]; exact hP.sub [0] rfl, va_K.moved hW.alike (hK.sub [] rfl), hD.sub [0] (by decide) rfl⟩, hS.F ht⟩) hS.2.2 dX12_arc_85
  · refine lv_if_eq (tgt := 47) hx hb dX12_arc_4 (by decide) (fun _ => ?_) (fun c9 => absurd (by decide) c9)
    refine lv_iconst (v := 0) hx hb dX12_arc_47 (by decide) ?_
    refine lv_istore (lv' := [(5, .int 0), (0, .ref h0), (1, .int qf), (2, .int qt), (3, .int qr), (4, .int qc)]) hx hb dX12_arc_48 hl (by decide) rfl (fun ls hl => ?_)
    refine lv_aload_n hx hb dX12_arc_50 rfl (lv_at hl 1 rfl) ?_
    refine lv_iload hx hb dX12_arc_51 (lv_at hl 0 rfl) ?_
    refine lv_if_ne (tgt := 60) hx hb dX12_arc_53 (by decide) (fun c9 => absurd c9 (by decide)) (fun _ => ?_)
    refine lv_iconst (v := 1) hx hb dX12_arc_56 (by decide) ?_
    refine lv_goto (tgt := 74) hx hb dX12_arc_57 (by decide) ?_
    refine va_put (D := (dC, dI)) (ci := 12) (v := .int 1) (ty := .int) (C := RX12) (T := TX12) (N := 163) hx hb hts iwsPX12_arc_in12 tyX12 tyX12_ok nmX12 hown hK hP hD hS 0 rfl rfl 0 (by decide) (hts (.fieldLink RX12 348 "OptimaWorksModel" "thrown" "I") (by decide +kernel)) (fun _ h9 => h9) rfl (by decide +kernel) rfl rfl (Nat.le_of_ble_eq_true rfl) dX12_arc_74 (fun H locs hP hD hS => ?_)
    have hP : va_P (dC, dI) vwCl [(h0, .inr (12, fM (mUp v 0 (.int 1)))), (b_arcFrom, .inl (k_arcFrom, 40, .inl r_arcFrom)), (b_arcTo, .inl (k_arcTo, 40, .inl r_arcTo)), (b_arcRoom, .inl (k_arcRoom, 40, .inl r_arcRoom)), (b_arcCost, .inl (k_arcCost, 40, .inl r_arcCost))] H := hP
    have hD : va_D A [(h0, .inr (12, fM (mUp v 0 (.int 1)))), (b_arcFrom, .inl (k_arcFrom, 40, .inl r_arcFrom)), (b_arcTo, .inl (k_arcTo, 40, .inl r_arcTo)), (b_arcRoom, .inl (k_arcRoom, 40, .inl r_arcRoom)), (b_arcCost, .inl (k_arcCost, 40, .inl r_arcCost))] := hD
    refine lv_aload_n hx hb dX12_arc_77 rfl (lv_at hl 1 rfl) ?_
    refine va_get (D := (dC, dI)) (ci := 12) (v := .int 1) (C := RX12) (T := TX12) (N := 163) hx hb hts iwsPX12_arc_in12 hown hK hP 0 rfl rfl 0 (by decide) (hts (.fieldLink RX12 348 "OptimaWorksModel" "thrown" "I") (by decide +kernel)) (fun _ h9 => h9) rfl dX12_arc_78 ?_
    refine lv_if_le (tgt := 86) hx hb dX12_arc_81 (by decide) (fun c9 => absurd c9 (by decide)) (fun _ => ?_)
    refine lv_iconst (v := 0) hx hb dX12_arc_84 (by decide) ?_
    refine W.widen (k := 0) (n := 0) (by decide +kernel) (by decide +kernel) ?_
    exact W.iret (v := 0) hx hb hr (fun t ht hW => ⟨⟨0, (mUp v 0 (.int 1)), rfl, by first | (left; (refine ⟨?_, ?_, ?_⟩ <;> (first | rfl | assumption | trivial | omega | (simp []; done) | (simp; omega)))) | (right; (refine ⟨?_, ?_, ?_⟩ <;> (first | rfl | assumption | trivial | omega | (simp []; done) | (simp; omega)))), by rw [ht]; exact hP.sub [0] rfl, va_K.moved hW.alike (hK.sub [] rfl), hD.sub [0] (by decide) rfl⟩, hS.F ht⟩) hS.2.2 dX12_arc_85
theorem dX12_areEnds_0 : decode cX12_areEnds 0 = .ok (.aload_n 0, 1) := by decide +kernel
theorem dX12_areEnds_1 : decode cX12_areEnds 1 = .ok (.iload_n 1, 1) := by decide +kernel
theorem dX12_areEnds_2 : decode cX12_areEnds 2 = .ok (.invokestatic 1066, 3) := by decide +kernel
theorem dX12_areEnds_5 : decode cX12_areEnds 5 = .ok (.ifCond .eq 10, 3) := by decide +kernel
theorem dX12_areEnds_8 : decode cX12_areEnds 8 = .ok (.iload_n 2, 1) := by decide +kernel
theorem dX12_areEnds_9 : decode cX12_areEnds 9 = .ok (.invokestatic 1066, 3) := by decide +kernel
theorem dX12_areEnds_12 : decode cX12_areEnds 12 = .ok (.ifCond .ne 7, 3) := by decide +kernel
theorem dX12_areEnds_15 : decode cX12_areEnds 15 = .ok (.iconst 1, 1) := by decide +kernel
theorem dX12_areEnds_16 : decode cX12_areEnds 16 = .ok (.goto 13, 3) := by decide +kernel
theorem dX12_areEnds_19 : decode cX12_areEnds 19 = .ok (.iload_n 1, 1) := by decide +kernel
theorem dX12_areEnds_20 : decode cX12_areEnds 20 = .ok (.iload_n 2, 1) := by decide +kernel
theorem dX12_areEnds_21 : decode cX12_areEnds 21 = .ok (.if_icmp .ne 7, 3) := by decide +kernel
theorem dX12_areEnds_24 : decode cX12_areEnds 24 = .ok (.iconst 2, 1) := by decide +kernel
theorem dX12_areEnds_25 : decode cX12_areEnds 25 = .ok (.goto 4, 3) := by decide +kernel
theorem dX12_areEnds_28 : decode cX12_areEnds 28 = .ok (.iconst 0, 1) := by decide +kernel
theorem dX12_areEnds_29 : decode cX12_areEnds 29 = .ok (.putfield 348, 3) := by decide +kernel
theorem dX12_areEnds_32 : decode cX12_areEnds 32 = .ok (.aload_n 0, 1) := by decide +kernel
theorem dX12_areEnds_33 : decode cX12_areEnds 33 = .ok (.getfield 348, 3) := by decide +kernel
theorem dX12_areEnds_36 : decode cX12_areEnds 36 = .ok (.ifCond .ne 7, 3) := by decide +kernel
theorem dX12_areEnds_39 : decode cX12_areEnds 39 = .ok (.iconst 1, 1) := by decide +kernel
theorem dX12_areEnds_40 : decode cX12_areEnds 40 = .ok (.goto 4, 3) := by decide +kernel
theorem dX12_areEnds_43 : decode cX12_areEnds 43 = .ok (.iconst 0, 1) := by decide +kernel
theorem dX12_areEnds_44 : decode cX12_areEnds 44 = .ok (.ireturn, 1) := by decide +kernel
def wsPX12_areEnds : List Cond := .code yX12_areEnds cX12_areEnds 3 (some .boolean) :: ([.fieldLink RX12 348 "OptimaWorksModel" "thrown" "I"] ++ wsX120 ++ (va_wsS RX12 1066 yX12_isPlace wsPX12_isPlace))
theorem iwsPX12_areEnds_in12 : ∀ w ∈ wsX120, w ∈ wsPX12_areEnds := fun _ h => List.mem_cons_of_mem _ (List.mem_append_left _ (List.mem_append_right _ h))
theorem gwsPX12_areEnds_0 : GoodIn wsPX12_areEnds (va_wsS RX12 1066 yX12_isPlace wsPX12_isPlace) := goodIn_sub (fun _ h => List.mem_cons_of_mem _ (List.mem_append_right _ h)) (by decide +kernel)
set_option maxHeartbeats 4000000 in
set_option maxRecDepth 100000 in
/-- areEnds(s, t) -/
theorem p_X12_areEnds (l : Launch) (dC : Nat → ClassId) (dI : Nat → Nat → Nat) (h0 : Nat) (v : Nat → Value) (ns : Int32) (nt : Int32) (sz : Nat) : Met l yX12_areEnds wsPX12_areEnds ({ frames := 1, cells := 0, slots := 0, locals := 20 }) (va_Pc [.ref h0, .int ns, .int nt] (fun U => U.heap.size = sz ∧ va_P (dC, dI) vwCl [(h0, .inr (12, fM v))] U.heap ∧ va_K (dC, dI) vwCl [] U ∧ va_D (fun _ => True) [(h0, .inr (12, fM v))])) (va_Qi (fun (r : Int32) (u : Nat → Value) => (r = 1 ∧ (0 ≤ (ns).toInt ∧ (ns).toInt < 12 ∧ 0 ≤ (nt).toInt ∧ (nt).toInt < 12 ∧ ¬ (ns).toInt = (nt).toInt) ∧ u = mUp v 0 (.int 0)) ∨ (r = 0 ∧ ((ns).toInt < 0 ∨ 12 ≤ (ns).toInt ∨ (nt).toInt < 0 ∨ 12 ≤ (nt).toInt) ∧ u = mUp v 0 (.int 1)) ∨ (r = 0 ∧ (0 ≤ (ns).toInt ∧ (ns).toInt < 12 ∧ 0 ≤ (nt).toInt ∧ (nt).toInt < 12 ∧ (ns).toInt = (nt).toInt) ∧ u = mUp v 0 (.int 2))) (fun (u : Nat → Value) t => va_P (dC, dI) vwCl [(h0, .inr (12, fM u))] t.heap ∧ va_K (dC, dI) vwCl [] t ∧ va_D (va_A [(h0, .inr (12, fM v))] sz) [(h0, .inr (12, fM u))]) (va_A [(h0, .inr (12, fM v))] sz)) 0 0 (va_A [(h0, .inr (12, fM v))] sz) := by
  refine Met.ofW (cc := cX12_areEnds) (maxL := 3) (ret := (some .boolean)) (by decide) rfl ?_
  intro p e s m args below meth c s₁ B hml hv
  obtain ⟨rfl, hsz, hP, hK, hD0⟩ := hv
  have hx := B.exec
  have hb := B.bytes
  have hr := B.returns
  have hts := atoms_spec (ws := wsPX12_areEnds) B.pre
  have hown : s.vm.findClass RX12 = some m.cls := findClass_of_methodNamed B.named
  have hlocks := B.notSynchronized
  subst hsz
  have hD := hD0.self (sz := s.heap.size)
  generalize hAe : va_A [(h0, .inr (12, fM v))] s.heap.size = A at hD ⊢
  have hA : ∀ q : Nat, s.heap.size ≤ q → A q := fun q h => by rw [← hAe]; exact Or.inr h
  have hS : va_S A s.heap s.heap [] := va_S.rf
  have hP : va_P (dC, dI) vwCl [(h0, .inr (12, fM v))] s.heap := hP
  have hl := lv_entry ([.ref h0, .int ns, .int nt]) (n := 3) (Nat.le_of_ble_eq_true rfl)
  rw [lg_entry_eq]
  generalize (lg_sl ([.ref h0, .int ns, .int nt]) ++ List.replicate (3 - (lg_sl ([.ref h0, .int ns, .int nt])).length) Slot.unset).toArray = ls at hl ⊢
  have hl : lv_has ls 3 [(0, .ref h0), (1, .int ns), (2, .int nt)] := hl
  refine lv_aload_n hx hb dX12_areEnds_0 rfl (lv_at hl 0 rfl) ?_
  refine lv_iload_n hx hb dX12_areEnds_1 rfl (lv_at hl 1 rfl) ?_
  have hPc := hP.sub (ws' := []) [] rfl
  have hDc := hD.sub (ws' := []) [] (by decide) rfl
  have hKc := hK.sub (tys' := []) [] rfl
  have hFc := va_free (wc := []) hD hS hA [] rfl
  refine va_calli (va_runS (As := [.int ns]) (rest := [.ref h0]) ⟨hx, hb, hml, hown, hts⟩ (p_X12_isPlace l dC dI ns s.heap.size) (va_cwS 1 hts gwsPX12_areEnds_0 rfl rfl rfl (by decide +kernel) ⟨by decide +kernel, by decide +kernel⟩) ⟨fun a U g mk q => by obtain ⟨q0, q1, qP, qK, qD⟩ := q; exact ⟨q0, q1, qP, va_K.moved (u := U) (U := U.calling g mk a) (Vm.Alike.refl U.vm) qK, qD⟩, fun U hU9 hW => ⟨rfl, by rw [hU9], by rw [hU9]; exact hPc, va_K.moved hW.alike hKc, hDc.weaken (fun _ _ _ _ => trivial)⟩⟩ rfl rfl hl.1 rfl (lv_room (Nat.le_of_ble_eq_true rfl)) dX12_areEnds_2 ⟨by decide +kernel, by decide +kernel⟩) hS (fun q _ h => hFc q h) hFc (fun r2 u t H1 locs ht hvm hw hB hz1 hk1 hS => ?_)
  obtain ⟨hP1, hK1, hD1⟩ := hB
  rw [ht] at hP1
  have hK1 := va_K.moved hvm.symm hK1
  obtain ⟨hP, hD⟩ := va_join (wr := [(h0, .inr (12, fM v))]) (w1 := []) hP hD [] [0] rfl rfl (by decide) (by decide) hk1 hFc hP1 hD1
  generalize H1 = H at hP hS ⊢
  have hP : va_P (dC, dI) vwCl [(h0, .inr (12, fM v))] H := hP
  have hD : va_D A [(h0, .inr (12, fM v))] := hD
  rcases hw with ⟨rfl, f2_0⟩ | ⟨rfl, f2_0⟩
  · refine lv_if_eq (tgt := 15) hx hb dX12_areEnds_5 (by decide) (fun c9 => absurd c9 (by decide)) (fun _ => ?_)
    refine lv_iload_n hx hb dX12_areEnds_8 rfl (lv_at hl 2 rfl) ?_
    have hPc := hP.sub (ws' := []) [] rfl
    have hDc := hD.sub (ws' := []) [] (by decide) rfl
    have hKc := hK.sub (tys' := []) [] rfl
    have hFc := va_free (wc := []) hD hS hA [] rfl
    refine va_calli (va_runS (As := [.int nt]) (rest := [.ref h0]) ⟨hx, hb, hml, hown, hts⟩ (p_X12_isPlace l dC dI nt H.size) (va_cwS 1 hts gwsPX12_areEnds_0 rfl rfl rfl (by decide +kernel) ⟨by decide +kernel, by decide +kernel⟩) ⟨fun a U g mk q => by obtain ⟨q0, q1, qP, qK, qD⟩ := q; exact ⟨q0, q1, qP, va_K.moved (u := U) (U := U.calling g mk a) (Vm.Alike.refl U.vm) qK, qD⟩, fun U hU9 hW => ⟨rfl, by rw [hU9], by rw [hU9]; exact hPc, va_K.moved hW.alike hKc, hDc.weaken (fun _ _ _ _ => trivial)⟩⟩ rfl rfl hl.1 rfl (lv_room (Nat.le_of_ble_eq_true rfl)) dX12_areEnds_9 ⟨by decide +kernel, by decide +kernel⟩) hS (fun q _ h => hFc q h) hFc (fun r9 u t H1 locs ht hvm hw hB hz1 hk1 hS => ?_)
    obtain ⟨hP1, hK1, hD1⟩ := hB
    rw [ht] at hP1
    have hK1 := va_K.moved hvm.symm hK1
    obtain ⟨hP, hD⟩ := va_join (wr := [(h0, .inr (12, fM v))]) (w1 := []) hP hD [] [0] rfl rfl (by decide) (by decide) hk1 hFc hP1 hD1
    generalize H1 = H at hP hS ⊢
    have hP : va_P (dC, dI) vwCl [(h0, .inr (12, fM v))] H := hP
    have hD : va_D A [(h0, .inr (12, fM v))] := hD
    rcases hw with ⟨rfl, f9_0⟩ | ⟨rfl, f9_0⟩
    · refine lv_if_ne (tgt := 19) hx hb dX12_areEnds_12 (by decide) (fun _ => ?_) (fun c9 => absurd c9 (by decide))
      refine lv_iload_n hx hb dX12_areEnds_19 rfl (lv_at hl 1 rfl) ?_
      refine lv_iload_n hx hb dX12_areEnds_20 rfl (lv_at hl 2 rfl) ?_
      refine lv_icmp_ne (tgt := 28) hx hb dX12_areEnds_21 (by decide) (fun c_21 => ?_) (fun c_21 => ?_)
      · have t_21 : (ns).toInt ≠ (nt).toInt := toI_ne c_21 rfl rfl
        refine lv_iconst (v := 0) hx hb dX12_areEnds_28 (by decide) ?_
        refine va_put (D := (dC, dI)) (ci := 12) (v := .int 0) (ty := .int) (C := RX12) (T := TX12) (N := 163) hx hb hts iwsPX12_areEnds_in12 tyX12 tyX12_ok nmX12 hown hK hP hD hS 0 rfl rfl 0 (by decide) (hts (.fieldLink RX12 348 "OptimaWorksModel" "thrown" "I") (by decide +kernel)) (fun _ h9 => h9) rfl (by decide +kernel) rfl rfl (Nat.le_of_ble_eq_true rfl) dX12_areEnds_29 (fun H locs hP hD hS => ?_)
        have hP : va_P (dC, dI) vwCl [(h0, .inr (12, fM (mUp v 0 (.int 0))))] H := hP
        have hD : va_D A [(h0, .inr (12, fM (mUp v 0 (.int 0))))] := hD
        refine lv_aload_n hx hb dX12_areEnds_32 rfl (lv_at hl 0 rfl) ?_
        refine va_get (D := (dC, dI)) (ci := 12) (v := .int 0) (C := RX12) (T := TX12) (N := 163) hx hb hts iwsPX12_areEnds_in12 hown hK hP 0 rfl rfl 0 (by decide) (hts (.fieldLink RX12 348 "OptimaWorksModel" "thrown" "I") (by decide +kernel)) (fun _ h9 => h9) rfl dX12_areEnds_33 ?_
        refine lv_if_ne (tgt := 43) hx hb dX12_areEnds_36 (by decide) (fun c9 => absurd c9 (by decide)) (fun _ => ?_)
        refine lv_iconst (v := 1) hx hb dX12_areEnds_39 (by decide) ?_
        refine lv_goto (tgt := 44) hx hb dX12_areEnds_40 (by decide) ?_
        refine W.widen (k := 0) (n := 0) (by decide +kernel) (by decide +kernel) ?_
        exact W.zret (v := 1) hx hb hr rfl (fun t ht hW => ⟨⟨1, (mUp v 0 (.int 0)), rfl, by first | (left; (refine ⟨?_, ?_, ?_⟩ <;> (first | rfl | assumption | trivial | omega | (simp [c_21]; done) | (simp; omega)))) | (right; left; (refine ⟨?_, ?_, ?_⟩ <;> (first | rfl | assumption | trivial | omega | (simp [c_21]; done) | (simp; omega)))) | (right; right; (refine ⟨?_, ?_, ?_⟩ <;> (first | rfl | assumption | trivial | omega | (simp [c_21]; done) | (simp; omega)))), by rw [ht]; exact hP.sub [0] rfl, va_K.moved hW.alike (hK.sub [] rfl), hD.sub [0] (by decide) rfl⟩, hS.F ht⟩) hS.2.2 dX12_areEnds_44
      · have t_21 : (ns).toInt = (nt).toInt := toI_nne c_21 rfl rfl
        refine lv_iconst (v := 2) hx hb dX12_areEnds_24 (by decide) ?_
        refine lv_goto (tgt := 29) hx hb dX12_areEnds_25 (by decide) ?_
        refine va_put (D := (dC, dI)) (ci := 12) (v := .int 2) (ty := .int) (C := RX12) (T := TX12) (N := 163) hx hb hts iwsPX12_areEnds_in12 tyX12 tyX12_ok nmX12 hown hK hP hD hS 0 rfl rfl 0 (by decide) (hts (.fieldLink RX12 348 "OptimaWorksModel" "thrown" "I") (by decide +kernel)) (fun _ h9 => h9) rfl (by decide +kernel) rfl rfl (Nat.le_of_ble_eq_true rfl) dX12_areEnds_29 (fun H locs hP hD hS => ?_)
        have hP : va_P (dC, dI) vwCl [(h0, .inr (12, fM (mUp v 0 (.int 2))))] H := hP
        have hD : va_D A [(h0, .inr (12, fM (mUp v 0 (.int 2))))] := hD
        refine lv_aload_n hx hb dX12_areEnds_32 rfl (lv_at hl 0 rfl) ?_
        refine va_get (D := (dC, dI)) (ci := 12) (v := .int 2) (C := RX12) (T := TX12) (N := 163) hx hb hts iwsPX12_areEnds_in12 hown hK hP 0 rfl rfl 0 (by decide) (hts (.fieldLink RX12 348 "OptimaWorksModel" "thrown" "I") (by decide +kernel)) (fun _ h9 => h9) rfl dX12_areEnds_33 ?_
        refine lv_if_ne (tgt := 43) hx hb dX12_areEnds_36 (by decide) (fun _ => ?_) (fun c9 => absurd c9 (by decide))
        refine lv_iconst (v := 0) hx hb dX12_areEnds_43 (by decide) ?_
        refine W.widen (k := 0) (n := 0) (by decide +kernel) (by decide +kernel) ?_
        exact W.zret (v := 0) hx hb hr rfl (fun t ht hW => ⟨⟨0, (mUp v 0 (.int 2)), rfl, by first | (left; (refine ⟨?_, ?_, ?_⟩ <;> (first | rfl | assumption | trivial | omega | (simp [c_21]; done) | (simp; omega)))) | (right; left; (refine ⟨?_, ?_, ?_⟩ <;> (first | rfl | assumption | trivial | omega | (simp [c_21]; done) | (simp; omega)))) | (right; right; (refine ⟨?_, ?_, ?_⟩ <;> (first | rfl | assumption | trivial | omega | (simp [c_21]; done) | (simp; omega)))), by rw [ht]; exact hP.sub [0] rfl, va_K.moved hW.alike (hK.sub [] rfl), hD.sub [0] (by decide) rfl⟩, hS.F ht⟩) hS.2.2 dX12_areEnds_44
    · refine lv_if_ne (tgt := 19) hx hb dX12_areEnds_12 (by decide) (fun c9 => absurd c9 (by decide)) (fun _ => ?_)
      refine lv_iconst (v := 1) hx hb dX12_areEnds_15 (by decide) ?_
      refine lv_goto (tgt := 29) hx hb dX12_areEnds_16 (by decide) ?_
      refine va_put (D := (dC, dI)) (ci := 12) (v := .int 1) (ty := .int) (C := RX12) (T := TX12) (N := 163) hx hb hts iwsPX12_areEnds_in12 tyX12 tyX12_ok nmX12 hown hK hP hD hS 0 rfl rfl 0 (by decide) (hts (.fieldLink RX12 348 "OptimaWorksModel" "thrown" "I") (by decide +kernel)) (fun _ h9 => h9) rfl (by decide +kernel) rfl rfl (Nat.le_of_ble_eq_true rfl) dX12_areEnds_29 (fun H locs hP hD hS => ?_)
      have hP : va_P (dC, dI) vwCl [(h0, .inr (12, fM (mUp v 0 (.int 1))))] H := hP
      have hD : va_D A [(h0, .inr (12, fM (mUp v 0 (.int 1))))] := hD
      refine lv_aload_n hx hb dX12_areEnds_32 rfl (lv_at hl 0 rfl) ?_
      refine va_get (D := (dC, dI)) (ci := 12) (v := .int 1) (C := RX12) (T := TX12) (N := 163) hx hb hts iwsPX12_areEnds_in12 hown hK hP 0 rfl rfl 0 (by decide) (hts (.fieldLink RX12 348 "OptimaWorksModel" "thrown" "I") (by decide +kernel)) (fun _ h9 => h9) rfl dX12_areEnds_33 ?_
      refine lv_if_ne (tgt := 43) hx hb dX12_areEnds_36 (by decide) (fun _ => ?_) (fun c9 => absurd c9 (by decide))
      refine lv_iconst (v := 0) hx hb dX12_areEnds_43 (by decide) ?_
      refine W.widen (k := 0) (n := 0) (by decide +kernel) (by decide +kernel) ?_
      exact W.zret (v := 0) hx hb hr rfl (fun t ht hW => ⟨⟨0, (mUp v 0 (.int 1)), rfl, by first | (left; (refine ⟨?_, ?_, ?_⟩ <;> (first | rfl | assumption | trivial | omega | (simp []; done) | (simp; omega)))) | (right; left; (refine ⟨?_, ?_, ?_⟩ <;> (first | rfl | assumption | trivial | omega | (simp []; done) | (simp; omega)))) | (right; right; (refine ⟨?_, ?_, ?_⟩ <;> (first | rfl | assumption | trivial | omega | (simp []; done) | (simp; omega)))), by rw [ht]; exact hP.sub [0] rfl, va_K.moved hW.alike (hK.sub [] rfl), hD.sub [0] (by decide) rfl⟩, hS.F ht⟩) hS.2.2 dX12_areEnds_44
  · refine lv_if_eq (tgt := 15) hx hb dX12_areEnds_5 (by decide) (fun _ => ?_) (fun c9 => absurd (by decide) c9)
    refine lv_iconst (v := 1) hx hb dX12_areEnds_15 (by decide) ?_
    refine lv_goto (tgt := 29) hx hb dX12_areEnds_16 (by decide) ?_
    refine va_put (D := (dC, dI)) (ci := 12) (v := .int 1) (ty := .int) (C := RX12) (T := TX12) (N := 163) hx hb hts iwsPX12_areEnds_in12 tyX12 tyX12_ok nmX12 hown hK hP hD hS 0 rfl rfl 0 (by decide) (hts (.fieldLink RX12 348 "OptimaWorksModel" "thrown" "I") (by decide +kernel)) (fun _ h9 => h9) rfl (by decide +kernel) rfl rfl (Nat.le_of_ble_eq_true rfl) dX12_areEnds_29 (fun H locs hP hD hS => ?_)
    have hP : va_P (dC, dI) vwCl [(h0, .inr (12, fM (mUp v 0 (.int 1))))] H := hP
    have hD : va_D A [(h0, .inr (12, fM (mUp v 0 (.int 1))))] := hD
    refine lv_aload_n hx hb dX12_areEnds_32 rfl (lv_at hl 0 rfl) ?_
    refine va_get (D := (dC, dI)) (ci := 12) (v := .int 1) (C := RX12) (T := TX12) (N := 163) hx hb hts iwsPX12_areEnds_in12 hown hK hP 0 rfl rfl 0 (by decide) (hts (.fieldLink RX12 348 "OptimaWorksModel" "thrown" "I") (by decide +kernel)) (fun _ h9 => h9) rfl dX12_areEnds_33 ?_
    refine lv_if_ne (tgt := 43) hx hb dX12_areEnds_36 (by decide) (fun _ => ?_) (fun c9 => absurd c9 (by decide))
    refine lv_iconst (v := 0) hx hb dX12_areEnds_43 (by decide) ?_
    refine W.widen (k := 0) (n := 0) (by decide +kernel) (by decide +kernel) ?_
    exact W.zret (v := 0) hx hb hr rfl (fun t ht hW => ⟨⟨0, (mUp v 0 (.int 1)), rfl, by first | (left; (refine ⟨?_, ?_, ?_⟩ <;> (first | rfl | assumption | trivial | omega | (simp []; done) | (simp; omega)))) | (right; left; (refine ⟨?_, ?_, ?_⟩ <;> (first | rfl | assumption | trivial | omega | (simp []; done) | (simp; omega)))) | (right; right; (refine ⟨?_, ?_, ?_⟩ <;> (first | rfl | assumption | trivial | omega | (simp []; done) | (simp; omega)))), by rw [ht]; exact hP.sub [0] rfl, va_K.moved hW.alike (hK.sub [] rfl), hD.sub [0] (by decide) rfl⟩, hS.F ht⟩) hS.2.2 dX12_areEnds_44
theorem dX12_send_0 : decode cX12_send 0 = .ok (.iconst 0, 1) := by decide +kernel
theorem dX12_send_1 : decode cX12_send 1 = .ok (.istore 4, 2) := by decide +kernel
theorem dX12_send_3 : decode cX12_send 3 = .ok (.iload 4, 2) := by decide +kernel
theorem dX12_send_5 : decode cX12_send 5 = .ok (.aload_n 0, 1) := by decide +kernel
theorem dX12_send_6 : decode cX12_send 6 = .ok (.getfield 1069, 3) := by decide +kernel
theorem dX12_send_9 : decode cX12_send 9 = .ok (.if_icmp .ge 17, 3) := by decide +kernel
theorem dX12_send_26 : decode cX12_send 26 = .ok (.iconst 0, 1) := by decide +kernel
theorem dX12_send_27 : decode cX12_send 27 = .ok (.istore 4, 2) := by decide +kernel
theorem dX12_send_29 : decode cX12_send 29 = .ok (.iconst 1, 1) := by decide +kernel
theorem dX12_send_30 : decode cX12_send 30 = .ok (.istore 5, 2) := by decide +kernel
theorem dX12_send_32 : decode cX12_send 32 = .ok (.iload 5, 2) := by decide +kernel
theorem dX12_send_34 : decode cX12_send 34 = .ok (.ifCond .eq 236, 3) := by decide +kernel
theorem dX12_send_37 : decode cX12_send 37 = .ok (.iload 4, 2) := by decide +kernel
theorem dX12_send_39 : decode cX12_send 39 = .ok (.iload_n 3, 1) := by decide +kernel
theorem dX12_send_40 : decode cX12_send 40 = .ok (.if_icmp .ge 230, 3) := by decide +kernel
theorem dX12_send_43 : decode cX12_send 43 = .ok (.iconst 0, 1) := by decide +kernel
theorem dX12_send_44 : decode cX12_send 44 = .ok (.istore 6, 2) := by decide +kernel
theorem dX12_send_46 : decode cX12_send 46 = .ok (.iload 6, 2) := by decide +kernel
theorem dX12_send_48 : decode cX12_send 48 = .ok (.bipush 12, 2) := by decide +kernel
theorem dX12_send_50 : decode cX12_send 50 = .ok (.if_icmp .ge 29, 3) := by decide +kernel
theorem dX12_send_53 : decode cX12_send 53 = .ok (.aload_n 0, 1) := by decide +kernel
theorem dX12_send_54 : decode cX12_send 54 = .ok (.getfield 327, 3) := by decide +kernel
theorem dX12_send_57 : decode cX12_send 57 = .ok (.iload 6, 2) := by decide +kernel
theorem dX12_send_59 : decode cX12_send 59 = .ok (.iload 6, 2) := by decide +kernel
theorem dX12_send_61 : decode cX12_send 61 = .ok (.iload_n 1, 1) := by decide +kernel
theorem dX12_send_62 : decode cX12_send 62 = .ok (.if_icmp .ne 7, 3) := by decide +kernel
theorem dX12_send_65 : decode cX12_send 65 = .ok (.iconst 0, 1) := by decide +kernel
theorem dX12_send_66 : decode cX12_send 66 = .ok (.goto 6, 3) := by decide +kernel
theorem dX12_send_69 : decode cX12_send 69 = .ok (.ldc_w 1072, 3) := by decide +kernel
theorem dX12_send_72 : decode cX12_send 72 = .ok (.iastore, 1) := by decide +kernel
theorem dX12_send_73 : decode cX12_send 73 = .ok (.iinc 6 1, 3) := by decide +kernel
theorem dX12_send_76 : decode cX12_send 76 = .ok (.goto (-30), 3) := by decide +kernel
theorem dX12_send_79 : decode cX12_send 79 = .ok (.iconst 1, 1) := by decide +kernel
theorem dX12_send_80 : decode cX12_send 80 = .ok (.istore 6, 2) := by decide +kernel
theorem dX12_send_82 : decode cX12_send 82 = .ok (.iload 6, 2) := by decide +kernel
theorem dX12_send_84 : decode cX12_send 84 = .ok (.ifCond .eq 144, 3) := by decide +kernel
theorem dX12_send_87 : decode cX12_send 87 = .ok (.iconst 0, 1) := by decide +kernel
theorem dX12_send_88 : decode cX12_send 88 = .ok (.istore 6, 2) := by decide +kernel
theorem dX12_send_90 : decode cX12_send 90 = .ok (.iconst 0, 1) := by decide +kernel
theorem dX12_send_91 : decode cX12_send 91 = .ok (.istore 7, 2) := by decide +kernel
theorem dX12_send_93 : decode cX12_send 93 = .ok (.iload 7, 2) := by decide +kernel
theorem dX12_send_95 : decode cX12_send 95 = .ok (.aload_n 0, 1) := by decide +kernel
theorem dX12_send_96 : decode cX12_send 96 = .ok (.getfield 1069, 3) := by decide +kernel
theorem dX12_send_99 : decode cX12_send 99 = .ok (.if_icmp .ge 126, 3) := by decide +kernel
theorem dX12_send_225 : decode cX12_send 225 = .ok (.goto (-143), 3) := by decide +kernel
theorem dX12_send_228 : decode cX12_send 228 = .ok (.aload_n 0, 1) := by decide +kernel
theorem dX12_send_229 : decode cX12_send 229 = .ok (.getfield 327, 3) := by decide +kernel
theorem dX12_send_232 : decode cX12_send 232 = .ok (.iload_n 2, 1) := by decide +kernel
theorem dX12_send_233 : decode cX12_send 233 = .ok (.iaload, 1) := by decide +kernel
theorem dX12_send_234 : decode cX12_send 234 = .ok (.ldc_w 1072, 3) := by decide +kernel
theorem dX12_send_237 : decode cX12_send 237 = .ok (.if_icmp .ge 7, 3) := by decide +kernel
theorem dX12_send_244 : decode cX12_send 244 = .ok (.iconst 0, 1) := by decide +kernel
theorem dX12_send_245 : decode cX12_send 245 = .ok (.istore 5, 2) := by decide +kernel
theorem dX12_send_247 : decode cX12_send 247 = .ok (.iload 5, 2) := by decide +kernel
theorem dX12_send_249 : decode cX12_send 249 = .ok (.ifCond .eq 18, 3) := by decide +kernel
theorem dX12_send_267 : decode cX12_send 267 = .ok (.goto (-235), 3) := by decide +kernel
theorem dX12_send_270 : decode cX12_send 270 = .ok (.iload 4, 2) := by decide +kernel
theorem dX12_send_272 : decode cX12_send 272 = .ok (.ireturn, 1) := by decide +kernel
def wsPX12_send : List Cond := .code yX12_send cX12_send 8 (some .int) :: ([.fieldLink RX12 1069 "OptimaWorksModel" "arcs" "I", .fieldLink RX12 327 "OptimaWorksModel" "price" "[I", .constant RX12 1072 536870912] ++ wsX120)
theorem iwsPX12_send_in12 : ∀ w ∈ wsX120, w ∈ wsPX12_send := fun _ h => List.mem_cons_of_mem _ (List.mem_append_right _ h)
set_option maxHeartbeats 4000000 in
set_option maxRecDepth 100000 in
/-- send(s, t, amount) without arcs -/
theorem p_X12_send (l : Launch) (dC : Nat → ClassId) (dI : Nat → Nat → Nat) (h0 : Nat) (v : Nat → Value) (h_arcs : v 150 = .int 0) (b_price : Nat) (h_price : v 156 = .ref b_price) (k_price : ClassId) (r_price : Nat → Int32) (si : Nat) (tj : Nat) (am : Int32) (hsi : si < 12) (htj : tj < 12) (hne : ¬ si = tj) (sz : Nat) : Met l yX12_send wsPX12_send ({ frames := 0, cells := 0, slots := 0, locals := 0 }) (va_Pc [.ref h0, .int (nI si), .int (nI tj), .int am] (fun U => U.heap.size = sz ∧ va_P (dC, dI) vwCl [(h0, .inr (12, fM v)), (b_price, .inl (k_price, 12, .inl r_price))] U.heap ∧ va_K (dC, dI) vwCl [(k_price, .int)] U ∧ va_D (fun _ => True) [(h0, .inr (12, fM v)), (b_price, .inl (k_price, 12, .inl r_price))])) (va_Qi (fun (r : Int32) (u : Unit) => r = 0) (fun (u : Unit) t => va_P (dC, dI) vwCl [(h0, .inr (12, fM v))] t.heap ∧ va_K (dC, dI) vwCl [] t ∧ va_D (va_A [(h0, .inr (12, fM v)), (b_price, .inl (k_price, 12, .inl r_price))] sz) [(h0, .inr (12, fM v))]) (va_A [(h0, .inr (12, fM v)), (b_price, .inl (k_price, 12, .inl r_price))] sz)) 0 0 (va_A [(h0, .inr (12, fM v)), (b_price, .inl (k_price, 12, .inl r_price))] sz) := by
  refine Met.ofW (cc := cX12_send) (maxL := 8) (ret := (some .int)) (by decide) rfl ?_
  intro p e s m args below meth c s₁ B hml hv
  obtain ⟨rfl, hsz, hP, hK, hD0⟩ := hv
  have hx := B.exec
  have hb := B.bytes
  have hr := B.returns
  have hts := atoms_spec (ws := wsPX12_send) B.pre
  have hown : s.vm.findClass RX12 = some m.cls := findClass_of_methodNamed B.named
  have hlocks := B.notSynchronized
  subst hsz
  have hD := hD0.self (sz := s.heap.size)
  generalize hAe : va_A [(h0, .inr (12, fM v)), (b_price, .inl (k_price, 12, .inl r_price))] s.heap.size = A at hD ⊢
  have hA : ∀ q : Nat, s.heap.size ≤ q → A q := fun q h => by rw [← hAe]; exact Or.inr h
  have hS : va_S A s.heap s.heap [] := va_S.rf
  have hP : va_P (dC, dI) vwCl [(h0, .inr (12, fM v)), (b_price, .inl (k_price, 12, .inl r_price))] s.heap := hP
  have hl := lv_entry ([.ref h0, .int (nI si), .int (nI tj), .int am]) (n := 8) (Nat.le_of_ble_eq_true rfl)
  rw [lg_entry_eq]
  generalize (lg_sl ([.ref h0, .int (nI si), .int (nI tj), .int am]) ++ List.replicate (8 - (lg_sl ([.ref h0, .int (nI si), .int (nI tj), .int am])).length) Slot.unset).toArray = ls at hl ⊢
  have hl : lv_has ls 8 [(0, .ref h0), (1, .int (nI si)), (2, .int (nI tj)), (3, .int am)] := hl
  refine lv_iconst (v := 0) hx hb dX12_send_0 (by decide) ?_
  refine lv_istore (lv' := [(4, .int 0), (0, .ref h0), (1, .int (nI si)), (2, .int (nI tj)), (3, .int am)]) hx hb dX12_send_1 hl (by decide) rfl (fun ls hl => ?_)
  refine lv_iload hx hb dX12_send_3 (lv_at hl 0 rfl) ?_
  refine lv_aload_n hx hb dX12_send_5 rfl (lv_at hl 1 rfl) ?_
  refine va_get (D := (dC, dI)) (ci := 12) (v := .int 0) (C := RX12) (T := TX12) (N := 163) hx hb hts iwsPX12_send_in12 hown hK hP 0 rfl rfl 150 (by decide) (hts (.fieldLink RX12 1069 "OptimaWorksModel" "arcs" "I") (by decide +kernel)) (fun _ h9 => h9) (congrArg some h_arcs) dX12_send_6 ?_
  refine lv_icmp_ge (tgt := 26) hx hb dX12_send_9 (by decide) (fun _ => ?_) (fun c9 => absurd (by decide) c9)
  refine lv_iconst (v := 0) hx hb dX12_send_26 (by decide) ?_
  refine lv_istore (lv' := [(4, .int 0), (0, .ref h0), (1, .int (nI si)), (2, .int (nI tj)), (3, .int am)]) hx hb dX12_send_27 hl (by decide) rfl (fun ls hl => ?_)
  refine lv_iconst (v := 1) hx hb dX12_send_29 (by decide) ?_
  refine lv_istore (lv' := [(5, .int 1), (4, .int 0), (0, .ref h0), (1, .int (nI si)), (2, .int (nI tj)), (3, .int am)]) hx hb dX12_send_30 hl (by decide) rfl (fun ls hl => ?_)
  refine lv_iload hx hb dX12_send_32 (lv_at hl 0 rfl) ?_
  refine lv_if_eq (tgt := 270) hx hb dX12_send_34 (by decide) (fun c9 => absurd c9 (by decide)) (fun _ => ?_)
  refine lv_iload hx hb dX12_send_37 (lv_at hl 1 rfl) ?_
  refine lv_iload_n hx hb dX12_send_39 rfl (lv_at hl 5 rfl) ?_
  refine lv_icmp_ge (tgt := 270) hx hb dX12_send_40 (by decide) (fun c_40 => ?_) (fun c_40 => ?_)
  · have t_40 : 0 ≥ (am).toInt := toI_ge c_40 (by decide) rfl
    refine lv_iload hx hb dX12_send_270 (lv_at hl 1 rfl) ?_
    refine W.widen (k := 0) (n := 0) (by decide +kernel) (by decide +kernel) ?_
    exact W.iret (v := 0) hx hb hr (fun t ht hW => ⟨⟨0, (), rfl, by (first | rfl | assumption | trivial | omega | (simp [c_40]; done) | (simp; omega)), by rw [ht]; exact hP.sub [0] rfl, va_K.moved hW.alike (hK.sub [] rfl), hD.sub [0] (by decide) rfl⟩, hS.F ht⟩) hS.2.2 dX12_send_272
  · have t_40 : ¬ 0 ≥ (am).toInt := toI_nge c_40 (by decide) rfl
    refine lv_iconst (v := 0) hx hb dX12_send_43 (by decide) ?_
    refine lv_istore (lv' := [(6, .int 0), (5, .int 1), (4, .int 0), (0, .ref h0), (1, .int (nI si)), (2, .int (nI tj)), (3, .int am)]) hx hb dX12_send_44 hl (by decide) rfl (fun ls hl => ?_)
    have hl := lv_sub hl [0, 3, 4, 5, 6, 2, 1] (l' := [(6, .int (nI 0)), (0, .ref h0), (1, .int (nI si)), (2, .int (nI tj)), (3, .int am), (4, .int 0), (5, .int 1)]) rfl
    refine (fun (loop : ∀ (n9 : Nat) (i : Nat) (g : Nat → Int32) (H : Heap) (locs : List Loc) (ls : Array Slot), (i ≤ 12) → (∀ j, j < i → g j = if j = si then 0 else 536870912) →  (12 < i + n9) → va_P (dC, dI) vwCl [(h0, .inr (12, fM v)), (b_price, .inl (k_price, 12, .inl g))] H → va_D A [(h0, .inr (12, fM v)), (b_price, .inl (k_price, 12, .inl g))] → va_S A s.heap H locs → lv_has ls 8 [(6, .int (nI i)), (0, .ref h0), (1, .int (nI si)), (2, .int (nI tj)), (3, .int am), (4, .int 0), (5, .int 1)] → W p l e _ s m _ below meth c H locs 0 0 _ (F0 m 46 ls [])) => loop (13) 0 r_price _ _ _ (by omega) (fun j h => absurd h (by omega)) (by omega) hP hD hS hl) ?_
    intro n9
    induction n9 with
    | zero => intro i g H locs ls hi hg hf9; exact False.elim (by omega)
    | succ n9 ih46 =>
      intro i g H locs ls hi hg hf46 hP hD hS hl
      refine lv_iload hx hb dX12_send_46 (lv_at hl 0 rfl) ?_
      refine lv_bipush (v := 12) hx hb dX12_send_48 (by decide) ?_
      refine lv_icmp_ge (tgt := 79) hx hb dX12_send_50 (by decide) (fun c_50 => ?_) (fun c_50 => ?_)
      · have t_50 : ((i : Nat) : Int) ≥ 12 := toI_ge c_50 (nI_toInt (by omega)) (by decide)
        refine lv_iconst (v := 1) hx hb dX12_send_79 (by decide) ?_
        refine lv_istore (lv' := [(6, .int 1), (0, .ref h0), (1, .int (nI si)), (2, .int (nI tj)), (3, .int am), (4, .int 0), (5, .int 1)]) hx hb dX12_send_80 hl (by decide) rfl (fun ls hl => ?_)
        refine lv_iload hx hb dX12_send_82 (lv_at hl 0 rfl) ?_
        refine lv_if_eq (tgt := 228) hx hb dX12_send_84 (by decide) (fun c9 => absurd c9 (by decide)) (fun _ => ?_)
        refine lv_iconst (v := 0) hx hb dX12_send_87 (by decide) ?_
        refine lv_istore (lv' := [(6, .int 0), (0, .ref h0), (1, .int (nI si)), (2, .int (nI tj)), (3, .int am), (4, .int 0), (5, .int 1)]) hx hb dX12_send_88 hl (by decide) rfl (fun ls hl => ?_)
        refine lv_iconst (v := 0) hx hb dX12_send_90 (by decide) ?_
        refine lv_istore (lv' := [(7, .int 0), (6, .int 0), (0, .ref h0), (1, .int (nI si)), (2, .int (nI tj)), (3, .int am), (4, .int 0), (5, .int 1)]) hx hb dX12_send_91 hl (by decide) rfl (fun ls hl => ?_)
        refine lv_iload hx hb dX12_send_93 (lv_at hl 0 rfl) ?_
        refine lv_aload_n hx hb dX12_send_95 rfl (lv_at hl 2 rfl) ?_
        refine va_get (D := (dC, dI)) (ci := 12) (v := .int 0) (C := RX12) (T := TX12) (N := 163) hx hb hts iwsPX12_send_in12 hown hK hP 0 rfl rfl 150 (by decide) (hts (.fieldLink RX12 1069 "OptimaWorksModel" "arcs" "I") (by decide +kernel)) (fun _ h9 => h9) (congrArg some h_arcs) dX12_send_96 ?_
        refine lv_icmp_ge (tgt := 225) hx hb dX12_send_99 (by decide) (fun _ => ?_) (fun c9 => absurd (by decide) c9)
        refine lv_goto (tgt := 82) hx hb dX12_send_225 (by decide) ?_
        refine lv_iload hx hb dX12_send_82 (lv_at hl 1 rfl) ?_
        refine lv_if_eq (tgt := 228) hx hb dX12_send_84 (by decide) (fun _ => ?_) (fun c9 => absurd (by decide) c9)
        refine lv_aload_n hx hb dX12_send_228 rfl (lv_at hl 2 rfl) ?_
        refine va_get (D := (dC, dI)) (ci := 12) (v := .ref b_price) (C := RX12) (T := TX12) (N := 163) hx hb hts iwsPX12_send_in12 hown hK hP 0 rfl rfl 156 (by decide) (hts (.fieldLink RX12 327 "OptimaWorksModel" "price" "[I") (by decide +kernel)) (fun _ h9 => h9) (congrArg some h_price) dX12_send_229 ?_
        refine lv_iload_n hx hb dX12_send_232 rfl (lv_at hl 4 rfl) ?_
        refine va_iald hx hb hK hP 1 0 rfl rfl (vp_in_nI (show tj < 12 by omega) (by omega)) dX12_send_233 ?_
        refine lv_topi (fun y1 hy1 => ?_)
        obtain rfl : 536870912 = y1 := (hy1.trans (by rw [nI_clamp (by omega), hg tj (by omega), if_neg (by omega)])).symm
        refine lv_ldcw (v := 536870912) hx hb hown (hts (.constant RX12 1072 536870912) (by decide +kernel)) dX12_send_234 ?_
        refine lv_icmp_ge (tgt := 244) hx hb dX12_send_237 (by decide) (fun _ => ?_) (fun c9 => absurd (by decide) c9)
        refine lv_iconst (v := 0) hx hb dX12_send_244 (by decide) ?_
        refine lv_istore (lv' := [(5, .int 0), (7, .int 0), (6, .int 0), (0, .ref h0), (1, .int (nI si)), (2, .int (nI tj)), (3, .int am), (4, .int 0)]) hx hb dX12_send_245 hl (by decide) rfl (fun ls hl => ?_)
        refine lv_iload hx hb dX12_send_247 (lv_at hl 0 rfl) ?_
        refine lv_if_eq (tgt := 267) hx hb dX12_send_249 (by decide) (fun _ => ?_) (fun c9 => absurd (by decide) c9)
        refine lv_goto (tgt := 32) hx hb dX12_send_267 (by decide) ?_
        refine lv_iload hx hb dX12_send_32 (lv_at hl 0 rfl) ?_
        refine lv_if_eq (tgt := 270) hx hb dX12_send_34 (by decide) (fun _ => ?_) (fun c9 => absurd (by decide) c9)
        refine lv_iload hx hb dX12_send_270 (lv_at hl 7 rfl) ?_
        refine W.widen (k := 0) (n := 0) (by decide +kernel) (by decide +kernel) ?_
        exact W.iret (v := 0) hx hb hr (fun t ht hW => ⟨⟨0, (), rfl, by (first | rfl | assumption | trivial | omega | (simp [c_40, c_50]; done) | (simp; omega)), by rw [ht]; exact hP.sub [0] rfl, va_K.moved hW.alike (hK.sub [] rfl), hD.sub [0] (by decide) rfl⟩, hS.F ht⟩) hS.2.2 dX12_send_272
      · have t_50 : ¬ ((i : Nat) : Int) ≥ 12 := toI_nge c_50 (nI_toInt (by omega)) (by decide)
        refine lv_aload_n hx hb dX12_send_53 rfl (lv_at hl 1 rfl) ?_
        refine va_get (D := (dC, dI)) (ci := 12) (v := .ref b_price) (C := RX12) (T := TX12) (N := 163) hx hb hts iwsPX12_send_in12 hown hK hP 0 rfl rfl 156 (by decide) (hts (.fieldLink RX12 327 "OptimaWorksModel" "price" "[I") (by decide +kernel)) (fun _ h9 => h9) (congrArg some h_price) dX12_send_54 ?_
        refine lv_iload hx hb dX12_send_57 (lv_at hl 0 rfl) ?_
        refine lv_iload hx hb dX12_send_59 (lv_at hl 0 rfl) ?_
        refine lv_iload_n hx hb dX12_send_61 rfl (lv_at hl 2 rfl) ?_
        refine lv_icmp_ne (tgt := 69) hx hb dX12_send_62 (by decide) (fun c_62 => ?_) (fun c_62 => ?_)
        · have t_62 : ((i : Nat) : Int) ≠ ((si : Nat) : Int) := toI_ne c_62 (nI_toInt (by omega)) (nI_toInt (by omega))
          refine lv_ldcw (v := 536870912) hx hb hown (hts (.constant RX12 1072 536870912) (by decide +kernel)) dX12_send_69 ?_
          refine va_iast hx hb hK hP hD hS 1 0 rfl rfl (vp_in_nI (show i < 12 by omega) (by omega)) dX12_send_72 (fun H locs hP hD hS => ?_)
          have hP : va_P (dC, dI) vwCl [(h0, .inr (12, fM v)), (b_price, .inl (k_price, 12, .inl (upd g ((nI i)).toNatClampNeg 536870912)))] H := hP
          have hD : va_D A [(h0, .inr (12, fM v)), (b_price, .inl (k_price, 12, .inl (upd g ((nI i)).toNatClampNeg 536870912)))] := hD
          refine lv_iinc (v := (nI (i + 1))) (lv' := [(6, .int (nI (i + 1))), (0, .ref h0), (1, .int (nI si)), (2, .int (nI tj)), (3, .int am), (4, .int 0), (5, .int 1)]) hx hb dX12_send_73 hl (k := 0) rfl (nI_add i 1) (by decide) rfl (fun ls hl => ?_)
          refine lv_goto (tgt := 46) hx hb dX12_send_76 (by decide) ?_
          have hl := lv_sub hl [0, 1, 2, 3, 4, 5, 6] (l' := [(6, .int (nI (i + 1))), (0, .ref h0), (1, .int (nI si)), (2, .int (nI tj)), (3, .int am), (4, .int 0), (5, .int 1)]) rfl
          exact ih46 (i + 1) (upd g ((nI i)).toNatClampNeg 536870912) _ _ _ (by omega) (pick_far _ (by omega) (by first | (rw [if_pos (by omega)]; done) | (rw [if_neg (by omega)]; done)) hg) (by omega) hP hD hS hl
        · have t_62 : ((i : Nat) : Int) = ((si : Nat) : Int) := toI_nne c_62 (nI_toInt (by omega)) (nI_toInt (by omega))
          refine lv_iconst (v := 0) hx hb dX12_send_65 (by decide) ?_
          refine lv_goto (tgt := 72) hx hb dX12_send_66 (by decide) ?_
          refine va_iast hx hb hK hP hD hS 1 0 rfl rfl (vp_in_nI (show i < 12 by omega) (by omega)) dX12_send_72 (fun H locs hP hD hS => ?_)
          have hP : va_P (dC, dI) vwCl [(h0, .inr (12, fM v)), (b_price, .inl (k_price, 12, .inl (upd g ((nI i)).toNatClampNeg 0)))] H := hP
          have hD : va_D A [(h0, .inr (12, fM v)), (b_price, .inl (k_price, 12, .inl (upd g ((nI i)).toNatClampNeg 0)))] := hD
          refine lv_iinc (v := (nI (i + 1))) (lv' := [(6, .int (nI (i + 1))), (0, .ref h0), (1, .int (nI si)), (2, .int (nI tj)), (3, .int am), (4, .int 0), (5, .int 1)]) hx hb dX12_send_73 hl (k := 0) rfl (nI_add i 1) (by decide) rfl (fun ls hl => ?_)
          refine lv_goto (tgt := 46) hx hb dX12_send_76 (by decide) ?_
          have hl := lv_sub hl [0, 1, 2, 3, 4, 5, 6] (l' := [(6, .int (nI (i + 1))), (0, .ref h0), (1, .int (nI si)), (2, .int (nI tj)), (3, .int am), (4, .int 0), (5, .int 1)]) rfl
          exact ih46 (i + 1) (upd g ((nI i)).toNatClampNeg 0) _ _ _ (by omega) (pick_far _ (by omega) (by first | (rw [if_pos (by omega)]; done) | (rw [if_neg (by omega)]; done)) hg) (by omega) hP hD hS hl
theorem dX12_greatest_0 : decode cX12_greatest 0 = .ok (.aload_n 0, 1) := by decide +kernel
theorem dX12_greatest_1 : decode cX12_greatest 1 = .ok (.iload_n 1, 1) := by decide +kernel
theorem dX12_greatest_2 : decode cX12_greatest 2 = .ok (.iload_n 2, 1) := by decide +kernel
theorem dX12_greatest_3 : decode cX12_greatest 3 = .ok (.invokevirtual 1079, 3) := by decide +kernel
theorem dX12_greatest_6 : decode cX12_greatest 6 = .ok (.ifCond .eq 15, 3) := by decide +kernel
theorem dX12_greatest_9 : decode cX12_greatest 9 = .ok (.aload_n 0, 1) := by decide +kernel
theorem dX12_greatest_10 : decode cX12_greatest 10 = .ok (.iload_n 1, 1) := by decide +kernel
theorem dX12_greatest_11 : decode cX12_greatest 11 = .ok (.iload_n 2, 1) := by decide +kernel
theorem dX12_greatest_12 : decode cX12_greatest 12 = .ok (.ldc_w 1082, 3) := by decide +kernel
theorem dX12_greatest_15 : decode cX12_greatest 15 = .ok (.invokevirtual 1083, 3) := by decide +kernel
theorem dX12_greatest_18 : decode cX12_greatest 18 = .ok (.goto 4, 3) := by decide +kernel
theorem dX12_greatest_21 : decode cX12_greatest 21 = .ok (.iconst 0, 1) := by decide +kernel
theorem dX12_greatest_22 : decode cX12_greatest 22 = .ok (.ireturn, 1) := by decide +kernel
def wsPX12_greatest : List Cond := .code yX12_greatest cX12_greatest 3 (some .int) :: ([.constant RX12 1082 100000] ++ (wsV RX12 1079 RX12 yX12_areEnds wsPX12_areEnds) ++ (wsV RX12 1083 RX12 yX12_send wsPX12_send))
theorem gwsPX12_greatest_0 : GoodIn wsPX12_greatest (wsV RX12 1079 RX12 yX12_areEnds wsPX12_areEnds) := goodIn_sub (fun _ h => List.mem_cons_of_mem _ (List.mem_append_left _ (List.mem_append_right _ h))) (by decide +kernel)
theorem gwsPX12_greatest_1 : GoodIn wsPX12_greatest (wsV RX12 1083 RX12 yX12_send wsPX12_send) := goodIn_sub (fun _ h => List.mem_cons_of_mem _ (List.mem_append_right _ h)) (by decide +kernel)
set_option maxHeartbeats 4000000 in
set_option maxRecDepth 100000 in
/-- greatest(s, t) without arcs -/
theorem p_X12_greatest (l : Launch) (dC : Nat → ClassId) (dI : Nat → Nat → Nat) (h0 : Nat) (v : Nat → Value) (h_arcs : v 150 = .int 0) (b_price : Nat) (h_price : v 156 = .ref b_price) (k_price : ClassId) (r_price : Nat → Int32) (ns : Int32) (nt : Int32) (sz : Nat) : Met l yX12_greatest wsPX12_greatest ({ frames := 2, cells := 0, slots := 0, locals := 42 }) (va_Pc [.ref h0, .int ns, .int nt] (fun U => U.heap.size = sz ∧ va_P (dC, dI) vwCl [(h0, .inr (12, fM v)), (b_price, .inl (k_price, 12, .inl r_price))] U.heap ∧ va_K (dC, dI) vwCl [(k_price, .int)] U ∧ va_D (fun _ => True) [(h0, .inr (12, fM v)), (b_price, .inl (k_price, 12, .inl r_price))])) (va_Qi (fun (r : Int32) (u : Nat → Value) => (r = 0 ∧ (0 ≤ (ns).toInt ∧ (ns).toInt < 12 ∧ 0 ≤ (nt).toInt ∧ (nt).toInt < 12 ∧ ¬ (ns).toInt = (nt).toInt) ∧ (u 0 = .int 0)) ∨ (r = 0 ∧ ((ns).toInt < 0 ∨ 12 ≤ (ns).toInt ∨ (nt).toInt < 0 ∨ 12 ≤ (nt).toInt) ∧ (u 0 = .int 1)) ∨ (r = 0 ∧ (0 ≤ (ns).toInt ∧ (ns).toInt < 12 ∧ 0 ≤ (nt).toInt ∧ (nt).toInt < 12 ∧ (ns).toInt = (nt).toInt) ∧ (u 0 = .int 2))) (fun (u : Nat → Value) t => va_P (dC, dI) vwCl [(h0, .inr (12, fM u))] t.heap ∧ va_K (dC, dI) vwCl [] t ∧ va_D (va_A [(h0, .inr (12, fM v)), (b_price, .inl (k_price, 12, .inl r_price))] sz) [(h0, .inr (12, fM u))]) (va_A [(h0, .inr (12, fM v)), (b_price, .inl (k_price, 12, .inl r_price))] sz)) 0 0 (va_A [(h0, .inr (12, fM v)), (b_price, .inl (k_price, 12, .inl r_price))] sz) := by
  refine Met.ofW (cc := cX12_greatest) (maxL := 3) (ret := (some .int)) (by decide) rfl ?_
  intro p e s m args below meth c s₁ B hml hv
  obtain ⟨rfl, hsz, hP, hK, hD0⟩ := hv
  have hx := B.exec
  have hb := B.bytes
  have hr := B.returns
  have hts := atoms_spec (ws := wsPX12_greatest) B.pre
  have hown : s.vm.findClass RX12 = some m.cls := findClass_of_methodNamed B.named
  have hlocks := B.notSynchronized
  subst hsz
  have hD := hD0.self (sz := s.heap.size)
  generalize hAe : va_A [(h0, .inr (12, fM v)), (b_price, .inl (k_price, 12, .inl r_price))] s.heap.size = A at hD ⊢
  have hA : ∀ q : Nat, s.heap.size ≤ q → A q := fun q h => by rw [← hAe]; exact Or.inr h
  have hS : va_S A s.heap s.heap [] := va_S.rf
  have hP : va_P (dC, dI) vwCl [(h0, .inr (12, fM v)), (b_price, .inl (k_price, 12, .inl r_price))] s.heap := hP
  have hl := lv_entry ([.ref h0, .int ns, .int nt]) (n := 3) (Nat.le_of_ble_eq_true rfl)
  rw [lg_entry_eq]
  generalize (lg_sl ([.ref h0, .int ns, .int nt]) ++ List.replicate (3 - (lg_sl ([.ref h0, .int ns, .int nt])).length) Slot.unset).toArray = ls at hl ⊢
  have hl : lv_has ls 3 [(0, .ref h0), (1, .int ns), (2, .int nt)] := hl
  refine lv_aload_n hx hb dX12_greatest_0 rfl (lv_at hl 0 rfl) ?_
  refine lv_iload_n hx hb dX12_greatest_1 rfl (lv_at hl 1 rfl) ?_
  refine lv_iload_n hx hb dX12_greatest_2 rfl (lv_at hl 2 rfl) ?_
  have hPc := hP.sub (ws' := [(h0, .inr (12, fM v))]) [0] rfl
  have hDc := hD.sub (ws' := [(h0, .inr (12, fM v))]) [0] (by decide) rfl
  have hKc := hK.sub (tys' := []) [] rfl
  have hFc := va_free (wc := [(h0, .inr (12, fM v))]) hD hS hA [0] rfl
  refine va_calli (va_runV (As := [.int ns, .int nt]) (rest := []) ⟨hx, hb, hml, hown, hts⟩ (p_X12_areEnds l dC dI h0 v ns nt s.heap.size) (cwV 2 hts gwsPX12_greatest_0 rfl rfl rfl (by decide +kernel) ⟨by decide +kernel, by decide +kernel⟩) ⟨fun a U g mk q => by obtain ⟨q0, q1, qP, qK, qD⟩ := q; exact ⟨q0, q1, qP, va_K.moved (u := U) (U := U.calling g mk a) (Vm.Alike.refl U.vm) qK, qD⟩, va_recv hKc hPc (ci := 12) (q0 := 0) rfl rfl, fun U hU9 hW => ⟨rfl, by rw [hU9], by rw [hU9]; exact hPc, va_K.moved hW.alike hKc, hDc.weaken (fun _ _ _ _ => trivial)⟩⟩ rfl rfl hl.1 rfl (lv_room (Nat.le_of_ble_eq_true rfl)) dX12_greatest_3 ⟨by decide +kernel, by decide +kernel⟩) hS (fun q _ h => hFc q h) hFc (fun r3 u t H1 locs ht hvm hw hB hz1 hk1 hS => ?_)
  obtain ⟨w3, hwit3⟩ : ∃ w9, w9 = u := ⟨u, rfl⟩
  subst hwit3
  obtain ⟨hP1, hK1, hD1⟩ := hB
  rw [ht] at hP1
  have hK1 := va_K.moved hvm.symm hK1
  obtain ⟨hP, hD⟩ := va_join (wr := [(b_price, .inl (k_price, 12, .inl r_price))]) (w1 := [(h0, .inr (12, fM w3))]) hP hD [0] [1] rfl rfl (by decide) (by decide) hk1 hFc hP1 hD1
  generalize H1 = H at hP hS ⊢
  have hP : va_P (dC, dI) vwCl [(b_price, .inl (k_price, 12, .inl r_price)), (h0, .inr (12, fM w3))] H := hP
  have hD : va_D A [(b_price, .inl (k_price, 12, .inl r_price)), (h0, .inr (12, fM w3))] := hD
  rcases hw with ⟨rfl, f3_0, rfl⟩ | ⟨rfl, f3_0, rfl⟩ | ⟨rfl, f3_0, rfl⟩
  · refine lv_if_eq (tgt := 21) hx hb dX12_greatest_6 (by decide) (fun c9 => absurd c9 (by decide)) (fun _ => ?_)
    obtain ⟨si, h_si, rfl⟩ := of_toInt (x := ns) (k := 12) (by omega) (by omega)
    have e_si : (nI si).toInt = (si : Int) := nI_toInt (by omega)
    obtain ⟨tj, h_tj, rfl⟩ := of_toInt (x := nt) (k := 12) (by omega) (by omega)
    have e_tj : (nI tj).toInt = (tj : Int) := nI_toInt (by omega)
    refine lv_aload_n hx hb dX12_greatest_9 rfl (lv_at hl 0 rfl) ?_
    refine lv_iload_n hx hb dX12_greatest_10 rfl (lv_at hl 1 rfl) ?_
    refine lv_iload_n hx hb dX12_greatest_11 rfl (lv_at hl 2 rfl) ?_
    refine lv_ldcw (v := 100000) hx hb hown (hts (.constant RX12 1082 100000) (by decide +kernel)) dX12_greatest_12 ?_
    have hPc := hP.sub (ws' := [(h0, .inr (12, fM (mUp v 0 (.int 0)))), (b_price, .inl (k_price, 12, .inl r_price))]) [1, 0] rfl
    have hDc := hD.sub (ws' := [(h0, .inr (12, fM (mUp v 0 (.int 0)))), (b_price, .inl (k_price, 12, .inl r_price))]) [1, 0] (by decide) rfl
    have hKc := hK.sub (tys' := [(k_price, .int)]) [0] rfl
    have hFc := va_free (wc := [(h0, .inr (12, fM (mUp v 0 (.int 0)))), (b_price, .inl (k_price, 12, .inl r_price))]) hD hS hA [1, 0] rfl
    refine va_calli (va_runV (As := [.int (nI si), .int (nI tj), .int 100000]) (rest := []) ⟨hx, hb, hml, hown, hts⟩ (p_X12_send l dC dI h0 (mUp v 0 (.int 0)) (h_arcs) b_price (h_price) k_price r_price si tj 100000 (by first | omega | decide | assumption | rfl) (by first | omega | decide | assumption | rfl) (by first | omega | decide | assumption | rfl) H.size) (cwV 3 hts gwsPX12_greatest_1 rfl rfl rfl (by decide +kernel) ⟨by decide +kernel, by decide +kernel⟩) ⟨fun a U g mk q => by obtain ⟨q0, q1, qP, qK, qD⟩ := q; exact ⟨q0, q1, qP, va_K.moved (u := U) (U := U.calling g mk a) (Vm.Alike.refl U.vm) qK, qD⟩, va_recv hKc hPc (ci := 12) (q0 := 0) rfl rfl, fun U hU9 hW => ⟨rfl, by rw [hU9], by rw [hU9]; exact hPc, va_K.moved hW.alike hKc, hDc.weaken (fun _ _ _ _ => trivial)⟩⟩ rfl rfl hl.1 rfl (lv_room (Nat.le_of_ble_eq_true rfl)) dX12_greatest_15 ⟨by decide +kernel, by decide +kernel⟩) hS (fun q _ h => hFc q h) hFc (fun r15 u t H1 locs ht hvm hw hB hz1 hk1 hS => ?_)
    obtain ⟨hP1, hK1, hD1⟩ := hB
    rw [ht] at hP1
    have hK1 := va_K.moved hvm.symm hK1
    obtain ⟨hP, hD⟩ := va_join (wr := []) (w1 := [(h0, .inr (12, fM ((mUp v 0 (.int 0)))))]) hP hD [1, 0] [] rfl rfl (by decide) (by decide) hk1 hFc hP1 hD1
    generalize H1 = H at hP hS ⊢
    have hP : va_P (dC, dI) vwCl [(h0, .inr (12, fM ((mUp v 0 (.int 0)))))] H := hP
    have hD : va_D A [(h0, .inr (12, fM ((mUp v 0 (.int 0)))))] := hD
    obtain rfl := hw
    refine lv_goto (tgt := 22) hx hb dX12_greatest_18 (by decide) ?_
    refine W.widen (k := 0) (n := 0) (by decide +kernel) (by decide +kernel) ?_
    exact W.iret (v := 0) hx hb hr (fun t ht hW => ⟨⟨0, (mUp v 0 (.int 0)), rfl, by first | (left; (refine ⟨?_, ?_, ?_⟩ <;> (first | rfl | assumption | trivial | omega | (simp []; done) | (simp; omega)))) | (right; left; (refine ⟨?_, ?_, ?_⟩ <;> (first | rfl | assumption | trivial | omega | (simp []; done) | (simp; omega)))) | (right; right; (refine ⟨?_, ?_, ?_⟩ <;> (first | rfl | assumption | trivial | omega | (simp []; done) | (simp; omega)))), by rw [ht]; exact hP.sub [0] rfl, va_K.moved hW.alike (hK.sub [] rfl), hD.sub [0] (by decide) rfl⟩, hS.F ht⟩) hS.2.2 dX12_greatest_22
  · refine lv_if_eq (tgt := 21) hx hb dX12_greatest_6 (by decide) (fun _ => ?_) (fun c9 => absurd (by decide) c9)
    refine lv_iconst (v := 0) hx hb dX12_greatest_21 (by decide) ?_
    refine W.widen (k := 0) (n := 0) (by decide +kernel) (by decide +kernel) ?_
    exact W.iret (v := 0) hx hb hr (fun t ht hW => ⟨⟨0, (mUp v 0 (.int 1)), rfl, by first | (left; (refine ⟨?_, ?_, ?_⟩ <;> (first | rfl | assumption | trivial | omega | (simp []; done) | (simp; omega)))) | (right; left; (refine ⟨?_, ?_, ?_⟩ <;> (first | rfl | assumption | trivial | omega | (simp []; done) | (simp; omega)))) | (right; right; (refine ⟨?_, ?_, ?_⟩ <;> (first | rfl | assumption | trivial | omega | (simp []; done) | (simp; omega)))), by rw [ht]; exact hP.sub [1] rfl, va_K.moved hW.alike (hK.sub [] rfl), hD.sub [1] (by decide) rfl⟩, hS.F ht⟩) hS.2.2 dX12_greatest_22
  · refine lv_if_eq (tgt := 21) hx hb dX12_greatest_6 (by decide) (fun _ => ?_) (fun c9 => absurd (by decide) c9)
    refine lv_iconst (v := 0) hx hb dX12_greatest_21 (by decide) ?_
    refine W.widen (k := 0) (n := 0) (by decide +kernel) (by decide +kernel) ?_
    exact W.iret (v := 0) hx hb hr (fun t ht hW => ⟨⟨0, (mUp v 0 (.int 2)), rfl, by first | (left; (refine ⟨?_, ?_, ?_⟩ <;> (first | rfl | assumption | trivial | omega | (simp []; done) | (simp; omega)))) | (right; left; (refine ⟨?_, ?_, ?_⟩ <;> (first | rfl | assumption | trivial | omega | (simp []; done) | (simp; omega)))) | (right; right; (refine ⟨?_, ?_, ?_⟩ <;> (first | rfl | assumption | trivial | omega | (simp []; done) | (simp; omega)))), by rw [ht]; exact hP.sub [1] rfl, va_K.moved hW.alike (hK.sub [] rfl), hD.sub [1] (by decide) rfl⟩, hS.F ht⟩) hS.2.2 dX12_greatest_22
theorem dX12_cut_0 : decode cX12_cut 0 = .ok (.aload_n 0, 1) := by decide +kernel
theorem dX12_cut_1 : decode cX12_cut 1 = .ok (.iload_n 1, 1) := by decide +kernel
theorem dX12_cut_2 : decode cX12_cut 2 = .ok (.iload_n 2, 1) := by decide +kernel
theorem dX12_cut_3 : decode cX12_cut 3 = .ok (.invokevirtual 1079, 3) := by decide +kernel
theorem dX12_cut_6 : decode cX12_cut 6 = .ok (.ifCond .ne 5, 3) := by decide +kernel
theorem dX12_cut_9 : decode cX12_cut 9 = .ok (.iconst 0, 1) := by decide +kernel
theorem dX12_cut_10 : decode cX12_cut 10 = .ok (.ireturn, 1) := by decide +kernel
theorem dX12_cut_11 : decode cX12_cut 11 = .ok (.aload_n 0, 1) := by decide +kernel
theorem dX12_cut_12 : decode cX12_cut 12 = .ok (.iload_n 1, 1) := by decide +kernel
theorem dX12_cut_13 : decode cX12_cut 13 = .ok (.iload_n 2, 1) := by decide +kernel
theorem dX12_cut_14 : decode cX12_cut 14 = .ok (.ldc_w 1082, 3) := by decide +kernel
theorem dX12_cut_17 : decode cX12_cut 17 = .ok (.invokevirtual 1083, 3) := by decide +kernel
theorem dX12_cut_20 : decode cX12_cut 20 = .ok (.pop, 1) := by decide +kernel
theorem dX12_cut_21 : decode cX12_cut 21 = .ok (.iconst 1, 1) := by decide +kernel
theorem dX12_cut_22 : decode cX12_cut 22 = .ok (.iload_n 1, 1) := by decide +kernel
theorem dX12_cut_23 : decode cX12_cut 23 = .ok (.ishl, 1) := by decide +kernel
theorem dX12_cut_24 : decode cX12_cut 24 = .ok (.istore_n 3, 1) := by decide +kernel
theorem dX12_cut_25 : decode cX12_cut 25 = .ok (.iconst 1, 1) := by decide +kernel
theorem dX12_cut_26 : decode cX12_cut 26 = .ok (.istore 4, 2) := by decide +kernel
theorem dX12_cut_28 : decode cX12_cut 28 = .ok (.iload 4, 2) := by decide +kernel
theorem dX12_cut_30 : decode cX12_cut 30 = .ok (.ifCond .eq 169, 3) := by decide +kernel
theorem dX12_cut_33 : decode cX12_cut 33 = .ok (.iconst 0, 1) := by decide +kernel
theorem dX12_cut_34 : decode cX12_cut 34 = .ok (.istore 4, 2) := by decide +kernel
theorem dX12_cut_36 : decode cX12_cut 36 = .ok (.iconst 0, 1) := by decide +kernel
theorem dX12_cut_37 : decode cX12_cut 37 = .ok (.istore 5, 2) := by decide +kernel
theorem dX12_cut_39 : decode cX12_cut 39 = .ok (.iload 5, 2) := by decide +kernel
theorem dX12_cut_41 : decode cX12_cut 41 = .ok (.aload_n 0, 1) := by decide +kernel
theorem dX12_cut_42 : decode cX12_cut 42 = .ok (.getfield 1069, 3) := by decide +kernel
theorem dX12_cut_45 : decode cX12_cut 45 = .ok (.if_icmp .ge 151, 3) := by decide +kernel
theorem dX12_cut_196 : decode cX12_cut 196 = .ok (.goto (-168), 3) := by decide +kernel
theorem dX12_cut_199 : decode cX12_cut 199 = .ok (.iload_n 3, 1) := by decide +kernel
theorem dX12_cut_200 : decode cX12_cut 200 = .ok (.ireturn, 1) := by decide +kernel
def wsPX12_cut : List Cond := .code yX12_cut cX12_cut 8 (some .int) :: ([.constant RX12 1082 100000, .fieldLink RX12 1069 "OptimaWorksModel" "arcs" "I"] ++ wsX120 ++ (wsV RX12 1079 RX12 yX12_areEnds wsPX12_areEnds) ++ (wsV RX12 1083 RX12 yX12_send wsPX12_send))
theorem iwsPX12_cut_in12 : ∀ w ∈ wsX120, w ∈ wsPX12_cut := fun _ h => List.mem_cons_of_mem _ (List.mem_append_left _ (List.mem_append_left _ (List.mem_append_right _ h)))
theorem gwsPX12_cut_0 : GoodIn wsPX12_cut (wsV RX12 1079 RX12 yX12_areEnds wsPX12_areEnds) := goodIn_sub (fun _ h => List.mem_cons_of_mem _ (List.mem_append_left _ (List.mem_append_right _ h))) (by decide +kernel)
theorem gwsPX12_cut_1 : GoodIn wsPX12_cut (wsV RX12 1083 RX12 yX12_send wsPX12_send) := goodIn_sub (fun _ h => List.mem_cons_of_mem _ (List.mem_append_right _ h)) (by decide +kernel)
set_option maxHeartbeats 4000000 in
set_option maxRecDepth 100000 in
/-- cut(s, t) without arcs -/
theorem p_X12_cut (l : Launch) (dC : Nat → ClassId) (dI : Nat → Nat → Nat) (h0 : Nat) (v : Nat → Value) (h_arcs : v 150 = .int 0) (b_price : Nat) (h_price : v 156 = .ref b_price) (k_price : ClassId) (r_price : Nat → Int32) (ns : Int32) (nt : Int32) (sz : Nat) : Met l yX12_cut wsPX12_cut ({ frames := 2, cells := 0, slots := 0, locals := 42 }) (va_Pc [.ref h0, .int ns, .int nt] (fun U => U.heap.size = sz ∧ va_P (dC, dI) vwCl [(h0, .inr (12, fM v)), (b_price, .inl (k_price, 12, .inl r_price))] U.heap ∧ va_K (dC, dI) vwCl [(k_price, .int)] U ∧ va_D (fun _ => True) [(h0, .inr (12, fM v)), (b_price, .inl (k_price, 12, .inl r_price))])) (va_Qi (fun (r : Int32) (u : Nat → Value) => (r = ((1 : Int32) <<< (ns &&& 31)) ∧ (0 ≤ (ns).toInt ∧ (ns).toInt < 12 ∧ 0 ≤ (nt).toInt ∧ (nt).toInt < 12 ∧ ¬ (ns).toInt = (nt).toInt) ∧ (u 0 = .int 0)) ∨ (r = 0 ∧ ((ns).toInt < 0 ∨ 12 ≤ (ns).toInt ∨ (nt).toInt < 0 ∨ 12 ≤ (nt).toInt) ∧ (u 0 = .int 1)) ∨ (r = 0 ∧ (0 ≤ (ns).toInt ∧ (ns).toInt < 12 ∧ 0 ≤ (nt).toInt ∧ (nt).toInt < 12 ∧ (ns).toInt = (nt).toInt) ∧ (u 0 = .int 2))) (fun (u : Nat → Value) t => va_P (dC, dI) vwCl [(h0, .inr (12, fM u))] t.heap ∧ va_K (dC, dI) vwCl [] t ∧ va_D (va_A [(h0, .inr (12, fM v)), (b_price, .inl (k_price, 12, .inl r_price))] sz) [(h0, .inr (12, fM u))]) (va_A [(h0, .inr (12, fM v)), (b_price, .inl (k_price, 12, .inl r_price))] sz)) 0 0 (va_A [(h0, .inr (12, fM v)), (b_price, .inl (k_price, 12, .inl r_price))] sz) := by
  refine Met.ofW (cc := cX12_cut) (maxL := 8) (ret := (some .int)) (by decide) rfl ?_
  intro p e s m args below meth c s₁ B hml hv
  obtain ⟨rfl, hsz, hP, hK, hD0⟩ := hv
  have hx := B.exec
  have hb := B.bytes
  have hr := B.returns
  have hts := atoms_spec (ws := wsPX12_cut) B.pre
  have hown : s.vm.findClass RX12 = some m.cls := findClass_of_methodNamed B.named
  have hlocks := B.notSynchronized
  subst hsz
  have hD := hD0.self (sz := s.heap.size)
  generalize hAe : va_A [(h0, .inr (12, fM v)), (b_price, .inl (k_price, 12, .inl r_price))] s.heap.size = A at hD ⊢
  have hA : ∀ q : Nat, s.heap.size ≤ q → A q := fun q h => by rw [← hAe]; exact Or.inr h
  have hS : va_S A s.heap s.heap [] := va_S.rf
  have hP : va_P (dC, dI) vwCl [(h0, .inr (12, fM v)), (b_price, .inl (k_price, 12, .inl r_price))] s.heap := hP
  have hl := lv_entry ([.ref h0, .int ns, .int nt]) (n := 8) (Nat.le_of_ble_eq_true rfl)
  rw [lg_entry_eq]
  generalize (lg_sl ([.ref h0, .int ns, .int nt]) ++ List.replicate (8 - (lg_sl ([.ref h0, .int ns, .int nt])).length) Slot.unset).toArray = ls at hl ⊢
  have hl : lv_has ls 8 [(0, .ref h0), (1, .int ns), (2, .int nt)] := hl
  refine lv_aload_n hx hb dX12_cut_0 rfl (lv_at hl 0 rfl) ?_
  refine lv_iload_n hx hb dX12_cut_1 rfl (lv_at hl 1 rfl) ?_
  refine lv_iload_n hx hb dX12_cut_2 rfl (lv_at hl 2 rfl) ?_
  have hPc := hP.sub (ws' := [(h0, .inr (12, fM v))]) [0] rfl
  have hDc := hD.sub (ws' := [(h0, .inr (12, fM v))]) [0] (by decide) rfl
  have hKc := hK.sub (tys' := []) [] rfl
  have hFc := va_free (wc := [(h0, .inr (12, fM v))]) hD hS hA [0] rfl
  refine va_calli (va_runV (As := [.int ns, .int nt]) (rest := []) ⟨hx, hb, hml, hown, hts⟩ (p_X12_areEnds l dC dI h0 v ns nt s.heap.size) (cwV 2 hts gwsPX12_cut_0 rfl rfl rfl (by decide +kernel) ⟨by decide +kernel, by decide +kernel⟩) ⟨fun a U g mk q => by obtain ⟨q0, q1, qP, qK, qD⟩ := q; exact ⟨q0, q1, qP, va_K.moved (u := U) (U := U.calling g mk a) (Vm.Alike.refl U.vm) qK, qD⟩, va_recv hKc hPc (ci := 12) (q0 := 0) rfl rfl, fun U hU9 hW => ⟨rfl, by rw [hU9], by rw [hU9]; exact hPc, va_K.moved hW.alike hKc, hDc.weaken (fun _ _ _ _ => trivial)⟩⟩ rfl rfl hl.1 rfl (lv_room (Nat.le_of_ble_eq_true rfl)) dX12_cut_3 ⟨by decide +kernel, by decide +kernel⟩) hS (fun q _ h => hFc q h) hFc (fun r3 u t H1 locs ht hvm hw hB hz1 hk1 hS => ?_)
  obtain ⟨w3, hwit3⟩ : ∃ w9, w9 = u := ⟨u, rfl⟩
  subst hwit3
  obtain ⟨hP1, hK1, hD1⟩ := hB
  rw [ht] at hP1
  have hK1 := va_K.moved hvm.symm hK1
  obtain ⟨hP, hD⟩ := va_join (wr := [(b_price, .inl (k_price, 12, .inl r_price))]) (w1 := [(h0, .inr (12, fM w3))]) hP hD [0] [1] rfl rfl (by decide) (by decide) hk1 hFc hP1 hD1
  generalize H1 = H at hP hS ⊢
  have hP : va_P (dC, dI) vwCl [(b_price, .inl (k_price, 12, .inl r_price)), (h0, .inr (12, fM w3))] H := hP
  have hD : va_D A [(b_price, .inl (k_price, 12, .inl r_price)), (h0, .inr (12, fM w3))] := hD
  rcases hw with ⟨rfl, f3_0, rfl⟩ | ⟨rfl, f3_0, rfl⟩ | ⟨rfl, f3_0, rfl⟩
  · refine lv_if_ne (tgt := 11) hx hb dX12_cut_6 (by decide) (fun _ => ?_) (fun c9 => absurd c9 (by decide))
    obtain ⟨si, h_si, rfl⟩ := of_toInt (x := ns) (k := 12) (by omega) (by omega)
    have e_si : (nI si).toInt = (si : Int) := nI_toInt (by omega)
    obtain ⟨tj, h_tj, rfl⟩ := of_toInt (x := nt) (k := 12) (by omega) (by omega)
    have e_tj : (nI tj).toInt = (tj : Int) := nI_toInt (by omega)
    refine lv_aload_n hx hb dX12_cut_11 rfl (lv_at hl 0 rfl) ?_
    refine lv_iload_n hx hb dX12_cut_12 rfl (lv_at hl 1 rfl) ?_
    refine lv_iload_n hx hb dX12_cut_13 rfl (lv_at hl 2 rfl) ?_
    refine lv_ldcw (v := 100000) hx hb hown (hts (.constant RX12 1082 100000) (by decide +kernel)) dX12_cut_14 ?_
    have hPc := hP.sub (ws' := [(h0, .inr (12, fM (mUp v 0 (.int 0)))), (b_price, .inl (k_price, 12, .inl r_price))]) [1, 0] rfl
    have hDc := hD.sub (ws' := [(h0, .inr (12, fM (mUp v 0 (.int 0)))), (b_price, .inl (k_price, 12, .inl r_price))]) [1, 0] (by decide) rfl
    have hKc := hK.sub (tys' := [(k_price, .int)]) [0] rfl
    have hFc := va_free (wc := [(h0, .inr (12, fM (mUp v 0 (.int 0)))), (b_price, .inl (k_price, 12, .inl r_price))]) hD hS hA [1, 0] rfl
    refine va_calli (va_runV (As := [.int (nI si), .int (nI tj), .int 100000]) (rest := []) ⟨hx, hb, hml, hown, hts⟩ (p_X12_send l dC dI h0 (mUp v 0 (.int 0)) (h_arcs) b_price (h_price) k_price r_price si tj 100000 (by first | omega | decide | assumption | rfl) (by first | omega | decide | assumption | rfl) (by first | omega | decide | assumption | rfl) H.size) (cwV 3 hts gwsPX12_cut_1 rfl rfl rfl (by decide +kernel) ⟨by decide +kernel, by decide +kernel⟩) ⟨fun a U g mk q => by obtain ⟨q0, q1, qP, qK, qD⟩ := q; exact ⟨q0, q1, qP, va_K.moved (u := U) (U := U.calling g mk a) (Vm.Alike.refl U.vm) qK, qD⟩, va_recv hKc hPc (ci := 12) (q0 := 0) rfl rfl, fun U hU9 hW => ⟨rfl, by rw [hU9], by rw [hU9]; exact hPc, va_K.moved hW.alike hKc, hDc.weaken (fun _ _ _ _ => trivial)⟩⟩ rfl rfl hl.1 rfl (lv_room (Nat.le_of_ble_eq_true rfl)) dX12_cut_17 ⟨by decide +kernel, by decide +kernel⟩) hS (fun q _ h => hFc q h) hFc (fun r17 u t H1 locs ht hvm hw hB hz1 hk1 hS => ?_)
    obtain ⟨hP1, hK1, hD1⟩ := hB
    rw [ht] at hP1
    have hK1 := va_K.moved hvm.symm hK1
    obtain ⟨hP, hD⟩ := va_join (wr := []) (w1 := [(h0, .inr (12, fM ((mUp v 0 (.int 0)))))]) hP hD [1, 0] [] rfl rfl (by decide) (by decide) hk1 hFc hP1 hD1
    generalize H1 = H at hP hS ⊢
    have hP : va_P (dC, dI) vwCl [(h0, .inr (12, fM ((mUp v 0 (.int 0)))))] H := hP
    have hD : va_D A [(h0, .inr (12, fM ((mUp v 0 (.int 0)))))] := hD
    obtain rfl := hw
    refine lv_pop hx hb dX12_cut_20 rfl ?_
    refine lv_iconst (v := 1) hx hb dX12_cut_21 (by decide) ?_
    refine lv_iload_n hx hb dX12_cut_22 rfl (lv_at hl 1 rfl) ?_
    refine lv_ishl hx hb dX12_cut_23 ?_
    refine lv_istore_n (lv' := [(3, .int (1 <<< ((nI si) &&& 31))), (0, .ref h0), (1, .int (nI si)), (2, .int (nI tj))]) hx hb dX12_cut_24 rfl hl (by decide) rfl (fun ls hl => ?_)
    refine lv_iconst (v := 1) hx hb dX12_cut_25 (by decide) ?_
    refine lv_istore (lv' := [(4, .int 1), (3, .int (1 <<< ((nI si) &&& 31))), (0, .ref h0), (1, .int (nI si)), (2, .int (nI tj))]) hx hb dX12_cut_26 hl (by decide) rfl (fun ls hl => ?_)
    refine lv_iload hx hb dX12_cut_28 (lv_at hl 0 rfl) ?_
    refine lv_if_eq (tgt := 199) hx hb dX12_cut_30 (by decide) (fun c9 => absurd c9 (by decide)) (fun _ => ?_)
    refine lv_iconst (v := 0) hx hb dX12_cut_33 (by decide) ?_
    refine lv_istore (lv' := [(4, .int 0), (3, .int (1 <<< ((nI si) &&& 31))), (0, .ref h0), (1, .int (nI si)), (2, .int (nI tj))]) hx hb dX12_cut_34 hl (by decide) rfl (fun ls hl => ?_)
    refine lv_iconst (v := 0) hx hb dX12_cut_36 (by decide) ?_
    refine lv_istore (lv' := [(5, .int 0), (4, .int 0), (3, .int (1 <<< ((nI si) &&& 31))), (0, .ref h0), (1, .int (nI si)), (2, .int (nI tj))]) hx hb dX12_cut_37 hl (by decide) rfl (fun ls hl => ?_)
    refine lv_iload hx hb dX12_cut_39 (lv_at hl 0 rfl) ?_
    refine lv_aload_n hx hb dX12_cut_41 rfl (lv_at hl 3 rfl) ?_
    refine va_get (D := (dC, dI)) (ci := 12) (v := .int 0) (C := RX12) (T := TX12) (N := 163) hx hb hts iwsPX12_cut_in12 hown hK hP 0 rfl rfl 150 (by decide) (hts (.fieldLink RX12 1069 "OptimaWorksModel" "arcs" "I") (by decide +kernel)) (fun _ h9 => h9) (congrArg some h_arcs) dX12_cut_42 ?_
    refine lv_icmp_ge (tgt := 196) hx hb dX12_cut_45 (by decide) (fun _ => ?_) (fun c9 => absurd (by decide) c9)
    refine lv_goto (tgt := 28) hx hb dX12_cut_196 (by decide) ?_
    refine lv_iload hx hb dX12_cut_28 (lv_at hl 1 rfl) ?_
    refine lv_if_eq (tgt := 199) hx hb dX12_cut_30 (by decide) (fun _ => ?_) (fun c9 => absurd (by decide) c9)
    refine lv_iload_n hx hb dX12_cut_199 rfl (lv_at hl 2 rfl) ?_
    refine W.widen (k := 0) (n := 0) (by decide +kernel) (by decide +kernel) ?_
    exact W.iret (v := (1 <<< ((nI si) &&& 31))) hx hb hr (fun t ht hW => ⟨⟨(1 <<< ((nI si) &&& 31)), (mUp v 0 (.int 0)), rfl, by first | (left; (refine ⟨?_, ?_, ?_⟩ <;> (first | rfl | assumption | trivial | omega | (simp []; done) | (simp; omega)))) | (right; left; (refine ⟨?_, ?_, ?_⟩ <;> (first | rfl | assumption | trivial | omega | (simp []; done) | (simp; omega)))) | (right; right; (refine ⟨?_, ?_, ?_⟩ <;> (first | rfl | assumption | trivial | omega | (simp []; done) | (simp; omega)))), by rw [ht]; exact hP.sub [0] rfl, va_K.moved hW.alike (hK.sub [] rfl), hD.sub [0] (by decide) rfl⟩, hS.F ht⟩) hS.2.2 dX12_cut_200
  · refine lv_if_ne (tgt := 11) hx hb dX12_cut_6 (by decide) (fun c9 => absurd c9 (by decide)) (fun _ => ?_)
    refine lv_iconst (v := 0) hx hb dX12_cut_9 (by decide) ?_
    refine W.widen (k := 0) (n := 0) (by decide +kernel) (by decide +kernel) ?_
    exact W.iret (v := 0) hx hb hr (fun t ht hW => ⟨⟨0, (mUp v 0 (.int 1)), rfl, by first | (left; (refine ⟨?_, ?_, ?_⟩ <;> (first | rfl | assumption | trivial | omega | (simp []; done) | (simp; omega)))) | (right; left; (refine ⟨?_, ?_, ?_⟩ <;> (first | rfl | assumption | trivial | omega | (simp []; done) | (simp; omega)))) | (right; right; (refine ⟨?_, ?_, ?_⟩ <;> (first | rfl | assumption | trivial | omega | (simp []; done) | (simp; omega)))), by rw [ht]; exact hP.sub [1] rfl, va_K.moved hW.alike (hK.sub [] rfl), hD.sub [1] (by decide) rfl⟩, hS.F ht⟩) hS.2.2 dX12_cut_10
  · refine lv_if_ne (tgt := 11) hx hb dX12_cut_6 (by decide) (fun c9 => absurd c9 (by decide)) (fun _ => ?_)
    refine lv_iconst (v := 0) hx hb dX12_cut_9 (by decide) ?_
    refine W.widen (k := 0) (n := 0) (by decide +kernel) (by decide +kernel) ?_
    exact W.iret (v := 0) hx hb hr (fun t ht hW => ⟨⟨0, (mUp v 0 (.int 2)), rfl, by first | (left; (refine ⟨?_, ?_, ?_⟩ <;> (first | rfl | assumption | trivial | omega | (simp []; done) | (simp; omega)))) | (right; left; (refine ⟨?_, ?_, ?_⟩ <;> (first | rfl | assumption | trivial | omega | (simp []; done) | (simp; omega)))) | (right; right; (refine ⟨?_, ?_, ?_⟩ <;> (first | rfl | assumption | trivial | omega | (simp []; done) | (simp; omega)))), by rw [ht]; exact hP.sub [1] rfl, va_K.moved hW.alike (hK.sub [] rfl), hD.sub [1] (by decide) rfl⟩, hS.F ht⟩) hS.2.2 dX12_cut_10
theorem dX12_cheapest_0 : decode cX12_cheapest 0 = .ok (.aload_n 0, 1) := by decide +kernel
theorem dX12_cheapest_1 : decode cX12_cheapest 1 = .ok (.iload_n 1, 1) := by decide +kernel
theorem dX12_cheapest_2 : decode cX12_cheapest 2 = .ok (.iload_n 2, 1) := by decide +kernel
theorem dX12_cheapest_3 : decode cX12_cheapest 3 = .ok (.invokevirtual 1079, 3) := by decide +kernel
theorem dX12_cheapest_6 : decode cX12_cheapest 6 = .ok (.ifCond .ne 5, 3) := by decide +kernel
theorem dX12_cheapest_9 : decode cX12_cheapest 9 = .ok (.iconst 0, 1) := by decide +kernel
theorem dX12_cheapest_10 : decode cX12_cheapest 10 = .ok (.ireturn, 1) := by decide +kernel
theorem dX12_cheapest_11 : decode cX12_cheapest 11 = .ok (.iload_n 3, 1) := by decide +kernel
theorem dX12_cheapest_12 : decode cX12_cheapest 12 = .ok (.ifCond .lt 14, 3) := by decide +kernel
theorem dX12_cheapest_15 : decode cX12_cheapest 15 = .ok (.aload_n 0, 1) := by decide +kernel
theorem dX12_cheapest_16 : decode cX12_cheapest 16 = .ok (.iload_n 1, 1) := by decide +kernel
theorem dX12_cheapest_17 : decode cX12_cheapest 17 = .ok (.iload_n 2, 1) := by decide +kernel
theorem dX12_cheapest_18 : decode cX12_cheapest 18 = .ok (.iload_n 3, 1) := by decide +kernel
theorem dX12_cheapest_19 : decode cX12_cheapest 19 = .ok (.invokevirtual 1083, 3) := by decide +kernel
theorem dX12_cheapest_22 : decode cX12_cheapest 22 = .ok (.iload_n 3, 1) := by decide +kernel
theorem dX12_cheapest_23 : decode cX12_cheapest 23 = .ok (.if_icmp .ge 5, 3) := by decide +kernel
theorem dX12_cheapest_26 : decode cX12_cheapest 26 = .ok (.iconst (-1), 1) := by decide +kernel
theorem dX12_cheapest_27 : decode cX12_cheapest 27 = .ok (.ireturn, 1) := by decide +kernel
theorem dX12_cheapest_28 : decode cX12_cheapest 28 = .ok (.iconst 0, 1) := by decide +kernel
theorem dX12_cheapest_29 : decode cX12_cheapest 29 = .ok (.istore 4, 2) := by decide +kernel
theorem dX12_cheapest_31 : decode cX12_cheapest 31 = .ok (.iconst 0, 1) := by decide +kernel
theorem dX12_cheapest_32 : decode cX12_cheapest 32 = .ok (.istore 5, 2) := by decide +kernel
theorem dX12_cheapest_34 : decode cX12_cheapest 34 = .ok (.iload 5, 2) := by decide +kernel
theorem dX12_cheapest_36 : decode cX12_cheapest 36 = .ok (.aload_n 0, 1) := by decide +kernel
theorem dX12_cheapest_37 : decode cX12_cheapest 37 = .ok (.getfield 1069, 3) := by decide +kernel
theorem dX12_cheapest_40 : decode cX12_cheapest 40 = .ok (.if_icmp .ge 29, 3) := by decide +kernel
theorem dX12_cheapest_69 : decode cX12_cheapest 69 = .ok (.iload 4, 2) := by decide +kernel
theorem dX12_cheapest_71 : decode cX12_cheapest 71 = .ok (.ireturn, 1) := by decide +kernel
def wsPX12_cheapest : List Cond := .code yX12_cheapest cX12_cheapest 6 (some .int) :: ([.fieldLink RX12 1069 "OptimaWorksModel" "arcs" "I"] ++ wsX120 ++ (wsV RX12 1079 RX12 yX12_areEnds wsPX12_areEnds) ++ (wsV RX12 1083 RX12 yX12_send wsPX12_send))
theorem iwsPX12_cheapest_in12 : ∀ w ∈ wsX120, w ∈ wsPX12_cheapest := fun _ h => List.mem_cons_of_mem _ (List.mem_append_left _ (List.mem_append_left _ (List.mem_append_right _ h)))
theorem gwsPX12_cheapest_0 : GoodIn wsPX12_cheapest (wsV RX12 1079 RX12 yX12_areEnds wsPX12_areEnds) := goodIn_sub (fun _ h => List.mem_cons_of_mem _ (List.mem_append_left _ (List.mem_append_right _ h))) (by decide +kernel)
theorem gwsPX12_cheapest_1 : GoodIn wsPX12_cheapest (wsV RX12 1083 RX12 yX12_send wsPX12_send) := goodIn_sub (fun _ h => List.mem_cons_of_mem _ (List.mem_append_right _ h)) (by decide +kernel)
set_option maxHeartbeats 4000000 in
set_option maxRecDepth 100000 in
/-- cheapest(s, t, amount) without arcs -/
theorem p_X12_cheapest (l : Launch) (dC : Nat → ClassId) (dI : Nat → Nat → Nat) (h0 : Nat) (v : Nat → Value) (h_arcs : v 150 = .int 0) (b_price : Nat) (h_price : v 156 = .ref b_price) (k_price : ClassId) (r_price : Nat → Int32) (ns : Int32) (nt : Int32) (am : Int32) (sz : Nat) : Met l yX12_cheapest wsPX12_cheapest ({ frames := 2, cells := 0, slots := 0, locals := 42 }) (va_Pc [.ref h0, .int ns, .int nt, .int am] (fun U => U.heap.size = sz ∧ va_P (dC, dI) vwCl [(h0, .inr (12, fM v)), (b_price, .inl (k_price, 12, .inl r_price))] U.heap ∧ va_K (dC, dI) vwCl [(k_price, .int)] U ∧ va_D (fun _ => True) [(h0, .inr (12, fM v)), (b_price, .inl (k_price, 12, .inl r_price))])) (va_Qi (fun (r : Int32) (u : Nat → Value) => (r = 0 ∧ (0 ≤ (ns).toInt ∧ (ns).toInt < 12 ∧ 0 ≤ (nt).toInt ∧ (nt).toInt < 12 ∧ ¬ (ns).toInt = (nt).toInt) ∧ ((am).toInt = 0) ∧ (u 0 = .int 0)) ∨ (r = (-1) ∧ (0 ≤ (ns).toInt ∧ (ns).toInt < 12 ∧ 0 ≤ (nt).toInt ∧ (nt).toInt < 12 ∧ ¬ (ns).toInt = (nt).toInt) ∧ (¬ (am).toInt = 0) ∧ (u 0 = .int 0)) ∨ (r = 0 ∧ ((ns).toInt < 0 ∨ 12 ≤ (ns).toInt ∨ (nt).toInt < 0 ∨ 12 ≤ (nt).toInt) ∧ (u 0 = .int 1)) ∨ (r = 0 ∧ (0 ≤ (ns).toInt ∧ (ns).toInt < 12 ∧ 0 ≤ (nt).toInt ∧ (nt).toInt < 12 ∧ (ns).toInt = (nt).toInt) ∧ (u 0 = .int 2))) (fun (u : Nat → Value) t => va_P (dC, dI) vwCl [(h0, .inr (12, fM u))] t.heap ∧ va_K (dC, dI) vwCl [] t ∧ va_D (va_A [(h0, .inr (12, fM v)), (b_price, .inl (k_price, 12, .inl r_price))] sz) [(h0, .inr (12, fM u))]) (va_A [(h0, .inr (12, fM v)), (b_price, .inl (k_price, 12, .inl r_price))] sz)) 0 0 (va_A [(h0, .inr (12, fM v)), (b_price, .inl (k_price, 12, .inl r_price))] sz) := by
  refine Met.ofW (cc := cX12_cheapest) (maxL := 6) (ret := (some .int)) (by decide) rfl ?_
  intro p e s m args below meth c s₁ B hml hv
  obtain ⟨rfl, hsz, hP, hK, hD0⟩ := hv
  have hx := B.exec
  have hb := B.bytes
  have hr := B.returns
  have hts := atoms_spec (ws := wsPX12_cheapest) B.pre
  have hown : s.vm.findClass RX12 = some m.cls := findClass_of_methodNamed B.named
  have hlocks := B.notSynchronized
  subst hsz
  have hD := hD0.self (sz := s.heap.size)
  generalize hAe : va_A [(h0, .inr (12, fM v)), (b_price, .inl (k_price, 12, .inl r_price))] s.heap.size = A at hD ⊢
  have hA : ∀ q : Nat, s.heap.size ≤ q → A q := fun q h => by rw [← hAe]; exact Or.inr h
  have hS : va_S A s.heap s.heap [] := va_S.rf
  have hP : va_P (dC, dI) vwCl [(h0, .inr (12, fM v)), (b_price, .inl (k_price, 12, .inl r_price))] s.heap := hP
  have hl := lv_entry ([.ref h0, .int ns, .int nt, .int am]) (n := 6) (Nat.le_of_ble_eq_true rfl)
  rw [lg_entry_eq]
  generalize (lg_sl ([.ref h0, .int ns, .int nt, .int am]) ++ List.replicate (6 - (lg_sl ([.ref h0, .int ns, .int nt, .int am])).length) Slot.unset).toArray = ls at hl ⊢
  have hl : lv_has ls 6 [(0, .ref h0), (1, .int ns), (2, .int nt), (3, .int am)] := hl
  refine lv_aload_n hx hb dX12_cheapest_0 rfl (lv_at hl 0 rfl) ?_
  refine lv_iload_n hx hb dX12_cheapest_1 rfl (lv_at hl 1 rfl) ?_
  refine lv_iload_n hx hb dX12_cheapest_2 rfl (lv_at hl 2 rfl) ?_
  have hPc := hP.sub (ws' := [(h0, .inr (12, fM v))]) [0] rfl
  have hDc := hD.sub (ws' := [(h0, .inr (12, fM v))]) [0] (by decide) rfl
  have hKc := hK.sub (tys' := []) [] rfl
  have hFc := va_free (wc := [(h0, .inr (12, fM v))]) hD hS hA [0] rfl
  refine va_calli (va_runV (As := [.int ns, .int nt]) (rest := []) ⟨hx, hb, hml, hown, hts⟩ (p_X12_areEnds l dC dI h0 v ns nt s.heap.size) (cwV 2 hts gwsPX12_cheapest_0 rfl rfl rfl (by decide +kernel) ⟨by decide +kernel, by decide +kernel⟩) ⟨fun a U g mk q => by obtain ⟨q0, q1, qP, qK, qD⟩ := q; exact ⟨q0, q1, qP, va_K.moved (u := U) (U := U.calling g mk a) (Vm.Alike.refl U.vm) qK, qD⟩, va_recv hKc hPc (ci := 12) (q0 := 0) rfl rfl, fun U hU9 hW => ⟨rfl, by rw [hU9], by rw [hU9]; exact hPc, va_K.moved hW.alike hKc, hDc.weaken (fun _ _ _ _ => trivial)⟩⟩ rfl rfl hl.1 rfl (lv_room (Nat.le_of_ble_eq_true rfl)) dX12_cheapest_3 ⟨by decide +kernel, by decide +kernel⟩) hS (fun q _ h => hFc q h) hFc (fun r3 u t H1 locs ht hvm hw hB hz1 hk1 hS => ?_)
  obtain ⟨w3, hwit3⟩ : ∃ w9, w9 = u := ⟨u, rfl⟩
  subst hwit3
  obtain ⟨hP1, hK1, hD1⟩ := hB
  rw [ht] at hP1
  have hK1 := va_K.moved hvm.symm hK1
  obtain ⟨hP, hD⟩ := va_join (wr := [(b_price, .inl (k_price, 12, .inl r_price))]) (w1 := [(h0, .inr (12, fM w3))]) hP hD [0] [1] rfl rfl (by decide) (by decide) hk1 hFc hP1 hD1
  generalize H1 = H at hP hS ⊢
  have hP : va_P (dC, dI) vwCl [(b_price, .inl (k_price, 12, .inl r_price)), (h0, .inr (12, fM w3))] H := hP
  have hD : va_D A [(b_price, .inl (k_price, 12, .inl r_price)), (h0, .inr (12, fM w3))] := hD
  rcases hw with ⟨rfl, f3_0, rfl⟩ | ⟨rfl, f3_0, rfl⟩ | ⟨rfl, f3_0, rfl⟩
  · refine lv_if_ne (tgt := 11) hx hb dX12_cheapest_6 (by decide) (fun _ => ?_) (fun c9 => absurd c9 (by decide))
    obtain ⟨si, h_si, rfl⟩ := of_toInt (x := ns) (k := 12) (by omega) (by omega)
    have e_si : (nI si).toInt = (si : Int) := nI_toInt (by omega)
    obtain ⟨tj, h_tj, rfl⟩ := of_toInt (x := nt) (k := 12) (by omega) (by omega)
    have e_tj : (nI tj).toInt = (tj : Int) := nI_toInt (by omega)
    refine lv_iload_n hx hb dX12_cheapest_11 rfl (lv_at hl 3 rfl) ?_
    refine lv_if_lt (tgt := 26) hx hb dX12_cheapest_12 (by decide) (fun c_12 => ?_) (fun c_12 => ?_)
    · have t_12 : (am).toInt < 0 := toI_lt c_12 rfl (by decide)
      refine lv_iconst (v := (-1)) hx hb dX12_cheapest_26 (by decide) ?_
      refine W.widen (k := 0) (n := 0) (by decide +kernel) (by decide +kernel) ?_
      exact W.iret (v := (-1)) hx hb hr (fun t ht hW => ⟨⟨(-1), (mUp v 0 (.int 0)), rfl, by first | (left; (refine ⟨?_, ?_, ?_, ?_⟩ <;> (first | rfl | assumption | trivial | omega | (simp [c_12]; done) | (simp; omega)))) | (right; left; (refine ⟨?_, ?_, ?_, ?_⟩ <;> (first | rfl | assumption | trivial | omega | (simp [c_12]; done) | (simp; omega)))) | (right; right; left; (refine ⟨?_, ?_, ?_⟩ <;> (first | rfl | assumption | trivial | omega | (simp [c_12]; done) | (simp; omega)))) | (right; right; right; (refine ⟨?_, ?_, ?_⟩ <;> (first | rfl | assumption | trivial | omega | (simp [c_12]; done) | (simp; omega)))), by rw [ht]; exact hP.sub [1] rfl, va_K.moved hW.alike (hK.sub [] rfl), hD.sub [1] (by decide) rfl⟩, hS.F ht⟩) hS.2.2 dX12_cheapest_27
    · have t_12 : ¬ (am).toInt < 0 := toI_nlt c_12 rfl (by decide)
      refine lv_aload_n hx hb dX12_cheapest_15 rfl (lv_at hl 0 rfl) ?_
      refine lv_iload_n hx hb dX12_cheapest_16 rfl (lv_at hl 1 rfl) ?_
      refine lv_iload_n hx hb dX12_cheapest_17 rfl (lv_at hl 2 rfl) ?_
      refine lv_iload_n hx hb dX12_cheapest_18 rfl (lv_at hl 3 rfl) ?_
      have hPc := hP.sub (ws' := [(h0, .inr (12, fM (mUp v 0 (.int 0)))), (b_price, .inl (k_price, 12, .inl r_price))]) [1, 0] rfl
      have hDc := hD.sub (ws' := [(h0, .inr (12, fM (mUp v 0 (.int 0)))), (b_price, .inl (k_price, 12, .inl r_price))]) [1, 0] (by decide) rfl
      have hKc := hK.sub (tys' := [(k_price, .int)]) [0] rfl
      have hFc := va_free (wc := [(h0, .inr (12, fM (mUp v 0 (.int 0)))), (b_price, .inl (k_price, 12, .inl r_price))]) hD hS hA [1, 0] rfl
      refine va_calli (va_runV (As := [.int (nI si), .int (nI tj), .int am]) (rest := []) ⟨hx, hb, hml, hown, hts⟩ (p_X12_send l dC dI h0 (mUp v 0 (.int 0)) (h_arcs) b_price (h_price) k_price r_price si tj am (by first | omega | decide | assumption | rfl) (by first | omega | decide | assumption | rfl) (by first | omega | decide | assumption | rfl) H.size) (cwV 3 hts gwsPX12_cheapest_1 rfl rfl rfl (by decide +kernel) ⟨by decide +kernel, by decide +kernel⟩) ⟨fun a U g mk q => by obtain ⟨q0, q1, qP, qK, qD⟩ := q; exact ⟨q0, q1, qP, va_K.moved (u := U) (U := U.calling g mk a) (Vm.Alike.refl U.vm) qK, qD⟩, va_recv hKc hPc (ci := 12) (q0 := 0) rfl rfl, fun U hU9 hW => ⟨rfl, by rw [hU9], by rw [hU9]; exact hPc, va_K.moved hW.alike hKc, hDc.weaken (fun _ _ _ _ => trivial)⟩⟩ rfl rfl hl.1 rfl (lv_room (Nat.le_of_ble_eq_true rfl)) dX12_cheapest_19 ⟨by decide +kernel, by decide +kernel⟩) hS (fun q _ h => hFc q h) hFc (fun r19 u t H1 locs ht hvm hw hB hz1 hk1 hS => ?_)
      obtain ⟨hP1, hK1, hD1⟩ := hB
      rw [ht] at hP1
      have hK1 := va_K.moved hvm.symm hK1
      obtain ⟨hP, hD⟩ := va_join (wr := []) (w1 := [(h0, .inr (12, fM ((mUp v 0 (.int 0)))))]) hP hD [1, 0] [] rfl rfl (by decide) (by decide) hk1 hFc hP1 hD1
      generalize H1 = H at hP hS ⊢
      have hP : va_P (dC, dI) vwCl [(h0, .inr (12, fM ((mUp v 0 (.int 0)))))] H := hP
      have hD : va_D A [(h0, .inr (12, fM ((mUp v 0 (.int 0)))))] := hD
      obtain rfl := hw
      refine lv_iload_n hx hb dX12_cheapest_22 rfl (lv_at hl 3 rfl) ?_
      refine lv_icmp_ge (tgt := 28) hx hb dX12_cheapest_23 (by decide) (fun c_23 => ?_) (fun c_23 => ?_)
      · have t_23 : 0 ≥ (am).toInt := toI_ge c_23 (by decide) rfl
        refine lv_iconst (v := 0) hx hb dX12_cheapest_28 (by decide) ?_
        refine lv_istore (lv' := [(4, .int 0), (0, .ref h0), (1, .int (nI si)), (2, .int (nI tj)), (3, .int am)]) hx hb dX12_cheapest_29 hl (by decide) rfl (fun ls hl => ?_)
        refine lv_iconst (v := 0) hx hb dX12_cheapest_31 (by decide) ?_
        refine lv_istore (lv' := [(5, .int 0), (4, .int 0), (0, .ref h0), (1, .int (nI si)), (2, .int (nI tj)), (3, .int am)]) hx hb dX12_cheapest_32 hl (by decide) rfl (fun ls hl => ?_)
        refine lv_iload hx hb dX12_cheapest_34 (lv_at hl 0 rfl) ?_
        refine lv_aload_n hx hb dX12_cheapest_36 rfl (lv_at hl 2 rfl) ?_
        refine va_get (D := (dC, dI)) (ci := 12) (v := .int 0) (C := RX12) (T := TX12) (N := 163) hx hb hts iwsPX12_cheapest_in12 hown hK hP 0 rfl rfl 150 (by decide) (hts (.fieldLink RX12 1069 "OptimaWorksModel" "arcs" "I") (by decide +kernel)) (fun _ h9 => h9) (congrArg some h_arcs) dX12_cheapest_37 ?_
        refine lv_icmp_ge (tgt := 69) hx hb dX12_cheapest_40 (by decide) (fun _ => ?_) (fun c9 => absurd (by decide) c9)
        refine lv_iload hx hb dX12_cheapest_69 (lv_at hl 1 rfl) ?_
        refine W.widen (k := 0) (n := 0) (by decide +kernel) (by decide +kernel) ?_
        exact W.iret (v := 0) hx hb hr (fun t ht hW => ⟨⟨0, (mUp v 0 (.int 0)), rfl, by first | (left; (refine ⟨?_, ?_, ?_, ?_⟩ <;> (first | rfl | assumption | trivial | omega | (simp [c_12, c_23]; done) | (simp; omega)))) | (right; left; (refine ⟨?_, ?_, ?_, ?_⟩ <;> (first | rfl | assumption | trivial | omega | (simp [c_12, c_23]; done) | (simp; omega)))) | (right; right; left; (refine ⟨?_, ?_, ?_⟩ <;> (first | rfl | assumption | trivial | omega | (simp [c_12, c_23]; done) | (simp; omega)))) | (right; right; right; (refine ⟨?_, ?_, ?_⟩ <;> (first | rfl | assumption | trivial | omega | (simp [c_12, c_23]; done) | (simp; omega)))), by rw [ht]; exact hP.sub [0] rfl, va_K.moved hW.alike (hK.sub [] rfl), hD.sub [0] (by decide) rfl⟩, hS.F ht⟩) hS.2.2 dX12_cheapest_71
      · have t_23 : ¬ 0 ≥ (am).toInt := toI_nge c_23 (by decide) rfl
        refine lv_iconst (v := (-1)) hx hb dX12_cheapest_26 (by decide) ?_
        refine W.widen (k := 0) (n := 0) (by decide +kernel) (by decide +kernel) ?_
        exact W.iret (v := (-1)) hx hb hr (fun t ht hW => ⟨⟨(-1), (mUp v 0 (.int 0)), rfl, by first | (left; (refine ⟨?_, ?_, ?_, ?_⟩ <;> (first | rfl | assumption | trivial | omega | (simp [c_12, c_23]; done) | (simp; omega)))) | (right; left; (refine ⟨?_, ?_, ?_, ?_⟩ <;> (first | rfl | assumption | trivial | omega | (simp [c_12, c_23]; done) | (simp; omega)))) | (right; right; left; (refine ⟨?_, ?_, ?_⟩ <;> (first | rfl | assumption | trivial | omega | (simp [c_12, c_23]; done) | (simp; omega)))) | (right; right; right; (refine ⟨?_, ?_, ?_⟩ <;> (first | rfl | assumption | trivial | omega | (simp [c_12, c_23]; done) | (simp; omega)))), by rw [ht]; exact hP.sub [0] rfl, va_K.moved hW.alike (hK.sub [] rfl), hD.sub [0] (by decide) rfl⟩, hS.F ht⟩) hS.2.2 dX12_cheapest_27
  · refine lv_if_ne (tgt := 11) hx hb dX12_cheapest_6 (by decide) (fun c9 => absurd c9 (by decide)) (fun _ => ?_)
    refine lv_iconst (v := 0) hx hb dX12_cheapest_9 (by decide) ?_
    refine W.widen (k := 0) (n := 0) (by decide +kernel) (by decide +kernel) ?_
    exact W.iret (v := 0) hx hb hr (fun t ht hW => ⟨⟨0, (mUp v 0 (.int 1)), rfl, by first | (left; (refine ⟨?_, ?_, ?_, ?_⟩ <;> (first | rfl | assumption | trivial | omega | (simp []; done) | (simp; omega)))) | (right; left; (refine ⟨?_, ?_, ?_, ?_⟩ <;> (first | rfl | assumption | trivial | omega | (simp []; done) | (simp; omega)))) | (right; right; left; (refine ⟨?_, ?_, ?_⟩ <;> (first | rfl | assumption | trivial | omega | (simp []; done) | (simp; omega)))) | (right; right; right; (refine ⟨?_, ?_, ?_⟩ <;> (first | rfl | assumption | trivial | omega | (simp []; done) | (simp; omega)))), by rw [ht]; exact hP.sub [1] rfl, va_K.moved hW.alike (hK.sub [] rfl), hD.sub [1] (by decide) rfl⟩, hS.F ht⟩) hS.2.2 dX12_cheapest_10
  · refine lv_if_ne (tgt := 11) hx hb dX12_cheapest_6 (by decide) (fun c9 => absurd c9 (by decide)) (fun _ => ?_)
    refine lv_iconst (v := 0) hx hb dX12_cheapest_9 (by decide) ?_
    refine W.widen (k := 0) (n := 0) (by decide +kernel) (by decide +kernel) ?_
    exact W.iret (v := 0) hx hb hr (fun t ht hW => ⟨⟨0, (mUp v 0 (.int 2)), rfl, by first | (left; (refine ⟨?_, ?_, ?_, ?_⟩ <;> (first | rfl | assumption | trivial | omega | (simp []; done) | (simp; omega)))) | (right; left; (refine ⟨?_, ?_, ?_, ?_⟩ <;> (first | rfl | assumption | trivial | omega | (simp []; done) | (simp; omega)))) | (right; right; left; (refine ⟨?_, ?_, ?_⟩ <;> (first | rfl | assumption | trivial | omega | (simp []; done) | (simp; omega)))) | (right; right; right; (refine ⟨?_, ?_, ?_⟩ <;> (first | rfl | assumption | trivial | omega | (simp []; done) | (simp; omega)))), by rw [ht]; exact hP.sub [1] rfl, va_K.moved hW.alike (hK.sub [] rfl), hD.sub [1] (by decide) rfl⟩, hS.F ht⟩) hS.2.2 dX12_cheapest_10
theorem dX12_path_0 : decode cX12_path 0 = .ok (.aload_n 0, 1) := by decide +kernel
theorem dX12_path_1 : decode cX12_path 1 = .ok (.iload_n 1, 1) := by decide +kernel
theorem dX12_path_2 : decode cX12_path 2 = .ok (.iload_n 2, 1) := by decide +kernel
theorem dX12_path_3 : decode cX12_path 3 = .ok (.invokevirtual 1079, 3) := by decide +kernel
theorem dX12_path_6 : decode cX12_path 6 = .ok (.ifCond .ne 5, 3) := by decide +kernel
theorem dX12_path_9 : decode cX12_path 9 = .ok (.iconst 0, 1) := by decide +kernel
theorem dX12_path_10 : decode cX12_path 10 = .ok (.ireturn, 1) := by decide +kernel
theorem dX12_path_11 : decode cX12_path 11 = .ok (.iconst 0, 1) := by decide +kernel
theorem dX12_path_12 : decode cX12_path 12 = .ok (.istore 4, 2) := by decide +kernel
theorem dX12_path_14 : decode cX12_path 14 = .ok (.iload 4, 2) := by decide +kernel
theorem dX12_path_16 : decode cX12_path 16 = .ok (.bipush 12, 2) := by decide +kernel
theorem dX12_path_18 : decode cX12_path 18 = .ok (.if_icmp .ge 29, 3) := by decide +kernel
theorem dX12_path_21 : decode cX12_path 21 = .ok (.aload_n 0, 1) := by decide +kernel
theorem dX12_path_22 : decode cX12_path 22 = .ok (.getfield 333, 3) := by decide +kernel
theorem dX12_path_25 : decode cX12_path 25 = .ok (.iload 4, 2) := by decide +kernel
theorem dX12_path_27 : decode cX12_path 27 = .ok (.iload 4, 2) := by decide +kernel
theorem dX12_path_29 : decode cX12_path 29 = .ok (.iload_n 2, 1) := by decide +kernel
theorem dX12_path_30 : decode cX12_path 30 = .ok (.if_icmp .ne 7, 3) := by decide +kernel
theorem dX12_path_33 : decode cX12_path 33 = .ok (.iconst 0, 1) := by decide +kernel
theorem dX12_path_34 : decode cX12_path 34 = .ok (.goto 6, 3) := by decide +kernel
theorem dX12_path_37 : decode cX12_path 37 = .ok (.ldc_w 1072, 3) := by decide +kernel
theorem dX12_path_40 : decode cX12_path 40 = .ok (.iastore, 1) := by decide +kernel
theorem dX12_path_41 : decode cX12_path 41 = .ok (.iinc 4 1, 3) := by decide +kernel
theorem dX12_path_44 : decode cX12_path 44 = .ok (.goto (-30), 3) := by decide +kernel
theorem dX12_path_47 : decode cX12_path 47 = .ok (.iconst 1, 1) := by decide +kernel
theorem dX12_path_48 : decode cX12_path 48 = .ok (.istore 4, 2) := by decide +kernel
theorem dX12_path_50 : decode cX12_path 50 = .ok (.iload 4, 2) := by decide +kernel
theorem dX12_path_52 : decode cX12_path 52 = .ok (.ifCond .eq 109, 3) := by decide +kernel
theorem dX12_path_55 : decode cX12_path 55 = .ok (.iconst 0, 1) := by decide +kernel
theorem dX12_path_56 : decode cX12_path 56 = .ok (.istore 4, 2) := by decide +kernel
theorem dX12_path_58 : decode cX12_path 58 = .ok (.iconst 0, 1) := by decide +kernel
theorem dX12_path_59 : decode cX12_path 59 = .ok (.istore 5, 2) := by decide +kernel
theorem dX12_path_61 : decode cX12_path 61 = .ok (.iload 5, 2) := by decide +kernel
theorem dX12_path_63 : decode cX12_path 63 = .ok (.aload_n 0, 1) := by decide +kernel
theorem dX12_path_64 : decode cX12_path 64 = .ok (.getfield 1069, 3) := by decide +kernel
theorem dX12_path_67 : decode cX12_path 67 = .ok (.if_icmp .ge 91, 3) := by decide +kernel
theorem dX12_path_158 : decode cX12_path 158 = .ok (.goto (-108), 3) := by decide +kernel
theorem dX12_path_161 : decode cX12_path 161 = .ok (.aload_n 0, 1) := by decide +kernel
theorem dX12_path_162 : decode cX12_path 162 = .ok (.getfield 333, 3) := by decide +kernel
theorem dX12_path_165 : decode cX12_path 165 = .ok (.iload_n 1, 1) := by decide +kernel
theorem dX12_path_166 : decode cX12_path 166 = .ok (.iaload, 1) := by decide +kernel
theorem dX12_path_167 : decode cX12_path 167 = .ok (.ldc_w 1072, 3) := by decide +kernel
theorem dX12_path_170 : decode cX12_path 170 = .ok (.if_icmp .ne 15, 3) := by decide +kernel
theorem dX12_path_173 : decode cX12_path 173 = .ok (.iload_n 3, 1) := by decide +kernel
theorem dX12_path_174 : decode cX12_path 174 = .ok (.bipush (-3), 2) := by decide +kernel
theorem dX12_path_176 : decode cX12_path 176 = .ok (.if_icmp .ne 7, 3) := by decide +kernel
theorem dX12_path_179 : decode cX12_path 179 = .ok (.iconst 0, 1) := by decide +kernel
theorem dX12_path_180 : decode cX12_path 180 = .ok (.goto 4, 3) := by decide +kernel
theorem dX12_path_183 : decode cX12_path 183 = .ok (.iconst (-1), 1) := by decide +kernel
theorem dX12_path_184 : decode cX12_path 184 = .ok (.ireturn, 1) := by decide +kernel
def wsPX12_path : List Cond := .code yX12_path cX12_path 7 (some .int) :: ([.fieldLink RX12 1069 "OptimaWorksModel" "arcs" "I", .fieldLink RX12 333 "OptimaWorksModel" "far" "[I", .constant RX12 1072 536870912] ++ wsX120 ++ (wsV RX12 1079 RX12 yX12_areEnds wsPX12_areEnds))
theorem iwsPX12_path_in12 : ∀ w ∈ wsX120, w ∈ wsPX12_path := fun _ h => List.mem_cons_of_mem _ (List.mem_append_left _ (List.mem_append_right _ h))
theorem gwsPX12_path_0 : GoodIn wsPX12_path (wsV RX12 1079 RX12 yX12_areEnds wsPX12_areEnds) := goodIn_sub (fun _ h => List.mem_cons_of_mem _ (List.mem_append_right _ h)) (by decide +kernel)
set_option maxHeartbeats 4000000 in
set_option maxRecDepth 100000 in
/-- path(s, t, i) without arcs -/
theorem p_X12_path (l : Launch) (dC : Nat → ClassId) (dI : Nat → Nat → Nat) (h0 : Nat) (v : Nat → Value) (h_arcs : v 150 = .int 0) (b_far : Nat) (h_far : v 158 = .ref b_far) (k_far : ClassId) (r_far : Nat → Int32) (ns : Int32) (nt : Int32) (ii : Int32) (sz : Nat) : Met l yX12_path wsPX12_path ({ frames := 2, cells := 0, slots := 0, locals := 42 }) (va_Pc [.ref h0, .int ns, .int nt, .int ii] (fun U => U.heap.size = sz ∧ va_P (dC, dI) vwCl [(h0, .inr (12, fM v)), (b_far, .inl (k_far, 12, .inl r_far))] U.heap ∧ va_K (dC, dI) vwCl [(k_far, .int)] U ∧ va_D (fun _ => True) [(h0, .inr (12, fM v)), (b_far, .inl (k_far, 12, .inl r_far))])) (va_Qi (fun (r : Int32) (u : Nat → Value) => (r = 0 ∧ (0 ≤ (ns).toInt ∧ (ns).toInt < 12 ∧ 0 ≤ (nt).toInt ∧ (nt).toInt < 12 ∧ ¬ (ns).toInt = (nt).toInt) ∧ ((ii).toInt = -3) ∧ (u 0 = .int 0)) ∨ (r = (-1) ∧ (0 ≤ (ns).toInt ∧ (ns).toInt < 12 ∧ 0 ≤ (nt).toInt ∧ (nt).toInt < 12 ∧ ¬ (ns).toInt = (nt).toInt) ∧ (¬ (ii).toInt = -3) ∧ (u 0 = .int 0)) ∨ (r = 0 ∧ ((ns).toInt < 0 ∨ 12 ≤ (ns).toInt ∨ (nt).toInt < 0 ∨ 12 ≤ (nt).toInt) ∧ (u 0 = .int 1)) ∨ (r = 0 ∧ (0 ≤ (ns).toInt ∧ (ns).toInt < 12 ∧ 0 ≤ (nt).toInt ∧ (nt).toInt < 12 ∧ (ns).toInt = (nt).toInt) ∧ (u 0 = .int 2))) (fun (u : Nat → Value) t => va_P (dC, dI) vwCl [(h0, .inr (12, fM u))] t.heap ∧ va_K (dC, dI) vwCl [] t ∧ va_D (va_A [(h0, .inr (12, fM v)), (b_far, .inl (k_far, 12, .inl r_far))] sz) [(h0, .inr (12, fM u))]) (va_A [(h0, .inr (12, fM v)), (b_far, .inl (k_far, 12, .inl r_far))] sz)) 0 0 (va_A [(h0, .inr (12, fM v)), (b_far, .inl (k_far, 12, .inl r_far))] sz) := by
  refine Met.ofW (cc := cX12_path) (maxL := 7) (ret := (some .int)) (by decide) rfl ?_
  intro p e s m args below meth c s₁ B hml hv
  obtain ⟨rfl, hsz, hP, hK, hD0⟩ := hv
  have hx := B.exec
  have hb := B.bytes
  have hr := B.returns
  have hts := atoms_spec (ws := wsPX12_path) B.pre
  have hown : s.vm.findClass RX12 = some m.cls := findClass_of_methodNamed B.named
  have hlocks := B.notSynchronized
  subst hsz
  have hD := hD0.self (sz := s.heap.size)
  generalize hAe : va_A [(h0, .inr (12, fM v)), (b_far, .inl (k_far, 12, .inl r_far))] s.heap.size = A at hD ⊢
  have hA : ∀ q : Nat, s.heap.size ≤ q → A q := fun q h => by rw [← hAe]; exact Or.inr h
  have hS : va_S A s.heap s.heap [] := va_S.rf
  have hP : va_P (dC, dI) vwCl [(h0, .inr (12, fM v)), (b_far, .inl (k_far, 12, .inl r_far))] s.heap := hP
  have hl := lv_entry ([.ref h0, .int ns, .int nt, .int ii]) (n := 7) (Nat.le_of_ble_eq_true rfl)
  rw [lg_entry_eq]
  generalize (lg_sl ([.ref h0, .int ns, .int nt, .int ii]) ++ List.replicate (7 - (lg_sl ([.ref h0, .int ns, .int nt, .int ii])).length) Slot.unset).toArray = ls at hl ⊢
  have hl : lv_has ls 7 [(0, .ref h0), (1, .int ns), (2, .int nt), (3, .int ii)] := hl
  refine lv_aload_n hx hb dX12_path_0 rfl (lv_at hl 0 rfl) ?_
  refine lv_iload_n hx hb dX12_path_1 rfl (lv_at hl 1 rfl) ?_
  refine lv_iload_n hx hb dX12_path_2 rfl (lv_at hl 2 rfl) ?_
  have hPc := hP.sub (ws' := [(h0, .inr (12, fM v))]) [0] rfl
  have hDc := hD.sub (ws' := [(h0, .inr (12, fM v))]) [0] (by decide) rfl
  have hKc := hK.sub (tys' := []) [] rfl
  have hFc := va_free (wc := [(h0, .inr (12, fM v))]) hD hS hA [0] rfl
  refine va_calli (va_runV (As := [.int ns, .int nt]) (rest := []) ⟨hx, hb, hml, hown, hts⟩ (p_X12_areEnds l dC dI h0 v ns nt s.heap.size) (cwV 2 hts gwsPX12_path_0 rfl rfl rfl (by decide +kernel) ⟨by decide +kernel, by decide +kernel⟩) ⟨fun a U g mk q => by obtain ⟨q0, q1, qP, qK, qD⟩ := q; exact ⟨q0, q1, qP, va_K.moved (u := U) (U := U.calling g mk a) (Vm.Alike.refl U.vm) qK, qD⟩, va_recv hKc hPc (ci := 12) (q0 := 0) rfl rfl, fun U hU9 hW => ⟨rfl, by rw [hU9], by rw [hU9]; exact hPc, va_K.moved hW.alike hKc, hDc.weaken (fun _ _ _ _ => trivial)⟩⟩ rfl rfl hl.1 rfl (lv_room (Nat.le_of_ble_eq_true rfl)) dX12_path_3 ⟨by decide +kernel, by decide +kernel⟩) hS (fun q _ h => hFc q h) hFc (fun r3 u t H1 locs ht hvm hw hB hz1 hk1 hS => ?_)
  obtain ⟨w3, hwit3⟩ : ∃ w9, w9 = u := ⟨u, rfl⟩
  subst hwit3
  obtain ⟨hP1, hK1, hD1⟩ := hB
  rw [ht] at hP1
  have hK1 := va_K.moved hvm.symm hK1
  obtain ⟨hP, hD⟩ := va_join (wr := [(b_far, .inl (k_far, 12, .inl r_far))]) (w1 := [(h0, .inr (12, fM w3))]) hP hD [0] [1] rfl rfl (by decide) (by decide) hk1 hFc hP1 hD1
  generalize H1 = H at hP hS ⊢
  have hP : va_P (dC, dI) vwCl [(b_far, .inl (k_far, 12, .inl r_far)), (h0, .inr (12, fM w3))] H := hP
  have hD : va_D A [(b_far, .inl (k_far, 12, .inl r_far)), (h0, .inr (12, fM w3))] := hD
  rcases hw with ⟨rfl, f3_0, rfl⟩ | ⟨rfl, f3_0, rfl⟩ | ⟨rfl, f3_0, rfl⟩
  · refine lv_if_ne (tgt := 11) hx hb dX12_path_6 (by decide) (fun _ => ?_) (fun c9 => absurd c9 (by decide))
    obtain ⟨si, h_si, rfl⟩ := of_toInt (x := ns) (k := 12) (by omega) (by omega)
    have e_si : (nI si).toInt = (si : Int) := nI_toInt (by omega)
    obtain ⟨tj, h_tj, rfl⟩ := of_toInt (x := nt) (k := 12) (by omega) (by omega)
    have e_tj : (nI tj).toInt = (tj : Int) := nI_toInt (by omega)
    refine lv_iconst (v := 0) hx hb dX12_path_11 (by decide) ?_
    refine lv_istore (lv' := [(4, .int 0), (0, .ref h0), (1, .int (nI si)), (2, .int (nI tj)), (3, .int ii)]) hx hb dX12_path_12 hl (by decide) rfl (fun ls hl => ?_)
    have hl := lv_sub hl [0, 1, 2, 3, 4] (l' := [(4, .int (nI 0)), (0, .ref h0), (1, .int (nI si)), (2, .int (nI tj)), (3, .int ii)]) rfl
    refine (fun (loop : ∀ (n9 : Nat) (i : Nat) (g : Nat → Int32) (H : Heap) (locs : List Loc) (ls : Array Slot), (i ≤ 12) → (∀ j, j < i → g j = if j = tj then 0 else 536870912) →  (12 < i + n9) → va_P (dC, dI) vwCl [(b_far, .inl (k_far, 12, .inl g)), (h0, .inr (12, fM (mUp v 0 (.int 0))))] H → va_D A [(b_far, .inl (k_far, 12, .inl g)), (h0, .inr (12, fM (mUp v 0 (.int 0))))] → va_S A s.heap H locs → lv_has ls 7 [(4, .int (nI i)), (0, .ref h0), (1, .int (nI si)), (2, .int (nI tj)), (3, .int ii)] → W p l e _ s m _ below meth c H locs 0 0 _ (F0 m 14 ls [])) => loop (13) 0 r_far _ _ _ (by omega) (fun j h => absurd h (by omega)) (by omega) hP hD hS hl) ?_
    intro n9
    induction n9 with
    | zero => intro i g H locs ls hi hg hf9; exact False.elim (by omega)
    | succ n9 ih14 =>
      intro i g H locs ls hi hg hf14 hP hD hS hl
      refine lv_iload hx hb dX12_path_14 (lv_at hl 0 rfl) ?_
      refine lv_bipush (v := 12) hx hb dX12_path_16 (by decide) ?_
      refine lv_icmp_ge (tgt := 47) hx hb dX12_path_18 (by decide) (fun c_18 => ?_) (fun c_18 => ?_)
      · have t_18 : ((i : Nat) : Int) ≥ 12 := toI_ge c_18 (nI_toInt (by omega)) (by decide)
        refine lv_iconst (v := 1) hx hb dX12_path_47 (by decide) ?_
        refine lv_istore (lv' := [(4, .int 1), (0, .ref h0), (1, .int (nI si)), (2, .int (nI tj)), (3, .int ii)]) hx hb dX12_path_48 hl (by decide) rfl (fun ls hl => ?_)
        refine lv_iload hx hb dX12_path_50 (lv_at hl 0 rfl) ?_
        refine lv_if_eq (tgt := 161) hx hb dX12_path_52 (by decide) (fun c9 => absurd c9 (by decide)) (fun _ => ?_)
        refine lv_iconst (v := 0) hx hb dX12_path_55 (by decide) ?_
        refine lv_istore (lv' := [(4, .int 0), (0, .ref h0), (1, .int (nI si)), (2, .int (nI tj)), (3, .int ii)]) hx hb dX12_path_56 hl (by decide) rfl (fun ls hl => ?_)
        refine lv_iconst (v := 0) hx hb dX12_path_58 (by decide) ?_
        refine lv_istore (lv' := [(5, .int 0), (4, .int 0), (0, .ref h0), (1, .int (nI si)), (2, .int (nI tj)), (3, .int ii)]) hx hb dX12_path_59 hl (by decide) rfl (fun ls hl => ?_)
        refine lv_iload hx hb dX12_path_61 (lv_at hl 0 rfl) ?_
        refine lv_aload_n hx hb dX12_path_63 rfl (lv_at hl 2 rfl) ?_
        refine va_get (D := (dC, dI)) (ci := 12) (v := .int 0) (C := RX12) (T := TX12) (N := 163) hx hb hts iwsPX12_path_in12 hown hK hP 1 rfl rfl 150 (by decide) (hts (.fieldLink RX12 1069 "OptimaWorksModel" "arcs" "I") (by decide +kernel)) (fun _ h9 => h9) (congrArg some h_arcs) dX12_path_64 ?_
        refine lv_icmp_ge (tgt := 158) hx hb dX12_path_67 (by decide) (fun _ => ?_) (fun c9 => absurd (by decide) c9)
        refine lv_goto (tgt := 50) hx hb dX12_path_158 (by decide) ?_
        refine lv_iload hx hb dX12_path_50 (lv_at hl 1 rfl) ?_
        refine lv_if_eq (tgt := 161) hx hb dX12_path_52 (by decide) (fun _ => ?_) (fun c9 => absurd (by decide) c9)
        refine lv_aload_n hx hb dX12_path_161 rfl (lv_at hl 2 rfl) ?_
        refine va_get (D := (dC, dI)) (ci := 12) (v := .ref b_far) (C := RX12) (T := TX12) (N := 163) hx hb hts iwsPX12_path_in12 hown hK hP 1 rfl rfl 158 (by decide) (hts (.fieldLink RX12 333 "OptimaWorksModel" "far" "[I") (by decide +kernel)) (fun _ h9 => h9) (congrArg some h_far) dX12_path_162 ?_
        refine lv_iload_n hx hb dX12_path_165 rfl (lv_at hl 3 rfl) ?_
        refine va_iald hx hb hK hP 0 0 rfl rfl (vp_in_nI (show si < 12 by omega) (by omega)) dX12_path_166 ?_
        refine lv_topi (fun y1 hy1 => ?_)
        obtain rfl : 536870912 = y1 := (hy1.trans (by rw [nI_clamp (by omega), hg si (by omega), if_neg (by omega)])).symm
        refine lv_ldcw (v := 536870912) hx hb hown (hts (.constant RX12 1072 536870912) (by decide +kernel)) dX12_path_167 ?_
        refine lv_icmp_ne (tgt := 185) hx hb dX12_path_170 (by decide) (fun c9 => absurd c9 (by decide)) (fun _ => ?_)
        refine lv_iload_n hx hb dX12_path_173 rfl (lv_at hl 5 rfl) ?_
        refine lv_bipush (v := (-3)) hx hb dX12_path_174 (by decide) ?_
        refine lv_icmp_ne (tgt := 183) hx hb dX12_path_176 (by decide) (fun c_176 => ?_) (fun c_176 => ?_)
        · have t_176 : (ii).toInt ≠ -3 := toI_ne c_176 rfl (by decide)
          refine lv_iconst (v := (-1)) hx hb dX12_path_183 (by decide) ?_
          refine W.widen (k := 0) (n := 0) (by decide +kernel) (by decide +kernel) ?_
          exact W.iret (v := (-1)) hx hb hr (fun t ht hW => ⟨⟨(-1), (mUp v 0 (.int 0)), rfl, by first | (left; (refine ⟨?_, ?_, ?_, ?_⟩ <;> (first | rfl | assumption | trivial | omega | (simp [c_18, c_176]; done) | (simp; omega)))) | (right; left; (refine ⟨?_, ?_, ?_, ?_⟩ <;> (first | rfl | assumption | trivial | omega | (simp [c_18, c_176]; done) | (simp; omega)))) | (right; right; left; (refine ⟨?_, ?_, ?_⟩ <;> (first | rfl | assumption | trivial | omega | (simp [c_18, c_176]; done) | (simp; omega)))) | (right; right; right; (refine ⟨?_, ?_, ?_⟩ <;> (first | rfl | assumption | trivial | omega | (simp [c_18, c_176]; done) | (simp; omega)))), by rw [ht]; exact hP.sub [1] rfl, va_K.moved hW.alike (hK.sub [] rfl), hD.sub [1] (by decide) rfl⟩, hS.F ht⟩) hS.2.2 dX12_path_184
        · have t_176 : (ii).toInt = -3 := toI_nne c_176 rfl (by decide)
          refine lv_iconst (v := 0) hx hb dX12_path_179 (by decide) ?_
          refine lv_goto (tgt := 184) hx hb dX12_path_180 (by decide) ?_
          refine W.widen (k := 0) (n := 0) (by decide +kernel) (by decide +kernel) ?_
          exact W.iret (v := 0) hx hb hr (fun t ht hW => ⟨⟨0, (mUp v 0 (.int 0)), rfl, by first | (left; (refine ⟨?_, ?_, ?_, ?_⟩ <;> (first | rfl | assumption | trivial | omega | (simp [c_18, c_176]; done) | (simp; omega)))) | (right; left; (refine ⟨?_, ?_, ?_, ?_⟩ <;> (first | rfl | assumption | trivial | omega | (simp [c_18, c_176]; done) | (simp; omega)))) | (right; right; left; (refine ⟨?_, ?_, ?_⟩ <;> (first | rfl | assumption | trivial | omega | (simp [c_18, c_176]; done) | (simp; omega)))) | (right; right; right; (refine ⟨?_, ?_, ?_⟩ <;> (first | rfl | assumption | trivial | omega | (simp [c_18, c_176]; done) | (simp; omega)))), by rw [ht]; exact hP.sub [1] rfl, va_K.moved hW.alike (hK.sub [] rfl), hD.sub [1] (by decide) rfl⟩, hS.F ht⟩) hS.2.2 dX12_path_184
      · have t_18 : ¬ ((i : Nat) : Int) ≥ 12 := toI_nge c_18 (nI_toInt (by omega)) (by decide)
        refine lv_aload_n hx hb dX12_path_21 rfl (lv_at hl 1 rfl) ?_
        refine va_get (D := (dC, dI)) (ci := 12) (v := .ref b_far) (C := RX12) (T := TX12) (N := 163) hx hb hts iwsPX12_path_in12 hown hK hP 1 rfl rfl 158 (by decide) (hts (.fieldLink RX12 333 "OptimaWorksModel" "far" "[I") (by decide +kernel)) (fun _ h9 => h9) (congrArg some h_far) dX12_path_22 ?_
        refine lv_iload hx hb dX12_path_25 (lv_at hl 0 rfl) ?_
        refine lv_iload hx hb dX12_path_27 (lv_at hl 0 rfl) ?_
        refine lv_iload_n hx hb dX12_path_29 rfl (lv_at hl 3 rfl) ?_
        refine lv_icmp_ne (tgt := 37) hx hb dX12_path_30 (by decide) (fun c_30 => ?_) (fun c_30 => ?_)
        · have t_30 : ((i : Nat) : Int) ≠ ((tj : Nat) : Int) := toI_ne c_30 (nI_toInt (by omega)) (nI_toInt (by omega))
          refine lv_ldcw (v := 536870912) hx hb hown (hts (.constant RX12 1072 536870912) (by decide +kernel)) dX12_path_37 ?_
          refine va_iast hx hb hK hP hD hS 0 0 rfl rfl (vp_in_nI (show i < 12 by omega) (by omega)) dX12_path_40 (fun H locs hP hD hS => ?_)
          have hP : va_P (dC, dI) vwCl [(b_far, .inl (k_far, 12, .inl (upd g ((nI i)).toNatClampNeg 536870912))), (h0, .inr (12, fM (mUp v 0 (.int 0))))] H := hP
          have hD : va_D A [(b_far, .inl (k_far, 12, .inl (upd g ((nI i)).toNatClampNeg 536870912))), (h0, .inr (12, fM (mUp v 0 (.int 0))))] := hD
          refine lv_iinc (v := (nI (i + 1))) (lv' := [(4, .int (nI (i + 1))), (0, .ref h0), (1, .int (nI si)), (2, .int (nI tj)), (3, .int ii)]) hx hb dX12_path_41 hl (k := 0) rfl (nI_add i 1) (by decide) rfl (fun ls hl => ?_)
          refine lv_goto (tgt := 14) hx hb dX12_path_44 (by decide) ?_
          have hl := lv_sub hl [0, 1, 2, 3, 4] (l' := [(4, .int (nI (i + 1))), (0, .ref h0), (1, .int (nI si)), (2, .int (nI tj)), (3, .int ii)]) rfl
          exact ih14 (i + 1) (upd g ((nI i)).toNatClampNeg 536870912) _ _ _ (by omega) (pick_far _ (by omega) (by first | (rw [if_pos (by omega)]; done) | (rw [if_neg (by omega)]; done)) hg) (by omega) hP hD hS hl
        · have t_30 : ((i : Nat) : Int) = ((tj : Nat) : Int) := toI_nne c_30 (nI_toInt (by omega)) (nI_toInt (by omega))
          refine lv_iconst (v := 0) hx hb dX12_path_33 (by decide) ?_
          refine lv_goto (tgt := 40) hx hb dX12_path_34 (by decide) ?_
          refine va_iast hx hb hK hP hD hS 0 0 rfl rfl (vp_in_nI (show i < 12 by omega) (by omega)) dX12_path_40 (fun H locs hP hD hS => ?_)
          have hP : va_P (dC, dI) vwCl [(b_far, .inl (k_far, 12, .inl (upd g ((nI i)).toNatClampNeg 0))), (h0, .inr (12, fM (mUp v 0 (.int 0))))] H := hP
          have hD : va_D A [(b_far, .inl (k_far, 12, .inl (upd g ((nI i)).toNatClampNeg 0))), (h0, .inr (12, fM (mUp v 0 (.int 0))))] := hD
          refine lv_iinc (v := (nI (i + 1))) (lv' := [(4, .int (nI (i + 1))), (0, .ref h0), (1, .int (nI si)), (2, .int (nI tj)), (3, .int ii)]) hx hb dX12_path_41 hl (k := 0) rfl (nI_add i 1) (by decide) rfl (fun ls hl => ?_)
          refine lv_goto (tgt := 14) hx hb dX12_path_44 (by decide) ?_
          have hl := lv_sub hl [0, 1, 2, 3, 4] (l' := [(4, .int (nI (i + 1))), (0, .ref h0), (1, .int (nI si)), (2, .int (nI tj)), (3, .int ii)]) rfl
          exact ih14 (i + 1) (upd g ((nI i)).toNatClampNeg 0) _ _ _ (by omega) (pick_far _ (by omega) (by first | (rw [if_pos (by omega)]; done) | (rw [if_neg (by omega)]; done)) hg) (by omega) hP hD hS hl
  · refine lv_if_ne (tgt := 11) hx hb dX12_path_6 (by decide) (fun c9 => absurd c9 (by decide)) (fun _ => ?_)
    refine lv_iconst (v := 0) hx hb dX12_path_9 (by decide) ?_
    refine W.widen (k := 0) (n := 0) (by decide +kernel) (by decide +kernel) ?_
    exact W.iret (v := 0) hx hb hr (fun t ht hW => ⟨⟨0, (mUp v 0 (.int 1)), rfl, by first | (left; (refine ⟨?_, ?_, ?_, ?_⟩ <;> (first | rfl | assumption | trivial | omega | (simp []; done) | (simp; omega)))) | (right; left; (refine ⟨?_, ?_, ?_, ?_⟩ <;> (first | rfl | assumption | trivial | omega | (simp []; done) | (simp; omega)))) | (right; right; left; (refine ⟨?_, ?_, ?_⟩ <;> (first | rfl | assumption | trivial | omega | (simp []; done) | (simp; omega)))) | (right; right; right; (refine ⟨?_, ?_, ?_⟩ <;> (first | rfl | assumption | trivial | omega | (simp []; done) | (simp; omega)))), by rw [ht]; exact hP.sub [1] rfl, va_K.moved hW.alike (hK.sub [] rfl), hD.sub [1] (by decide) rfl⟩, hS.F ht⟩) hS.2.2 dX12_path_10
  · refine lv_if_ne (tgt := 11) hx hb dX12_path_6 (by decide) (fun c9 => absurd c9 (by decide)) (fun _ => ?_)
    refine lv_iconst (v := 0) hx hb dX12_path_9 (by decide) ?_
    refine W.widen (k := 0) (n := 0) (by decide +kernel) (by decide +kernel) ?_
    exact W.iret (v := 0) hx hb hr (fun t ht hW => ⟨⟨0, (mUp v 0 (.int 2)), rfl, by first | (left; (refine ⟨?_, ?_, ?_, ?_⟩ <;> (first | rfl | assumption | trivial | omega | (simp []; done) | (simp; omega)))) | (right; left; (refine ⟨?_, ?_, ?_, ?_⟩ <;> (first | rfl | assumption | trivial | omega | (simp []; done) | (simp; omega)))) | (right; right; left; (refine ⟨?_, ?_, ?_⟩ <;> (first | rfl | assumption | trivial | omega | (simp []; done) | (simp; omega)))) | (right; right; right; (refine ⟨?_, ?_, ?_⟩ <;> (first | rfl | assumption | trivial | omega | (simp []; done) | (simp; omega)))), by rw [ht]; exact hP.sub [1] rfl, va_K.moved hW.alike (hK.sub [] rfl), hD.sub [1] (by decide) rfl⟩, hS.F ht⟩) hS.2.2 dX12_path_10
theorem dX12_tree_0 : decode cX12_tree 0 = .ok (.aload_n 0, 1) := by decide +kernel
theorem dX12_tree_1 : decode cX12_tree 1 = .ok (.iconst 0, 1) := by decide +kernel
theorem dX12_tree_2 : decode cX12_tree 2 = .ok (.putfield 348, 3) := by decide +kernel
theorem dX12_tree_5 : decode cX12_tree 5 = .ok (.iconst 0, 1) := by decide +kernel
theorem dX12_tree_6 : decode cX12_tree 6 = .ok (.istore_n 1, 1) := by decide +kernel
theorem dX12_tree_7 : decode cX12_tree 7 = .ok (.iload_n 1, 1) := by decide +kernel
theorem dX12_tree_8 : decode cX12_tree 8 = .ok (.bipush 12, 2) := by decide +kernel
theorem dX12_tree_10 : decode cX12_tree 10 = .ok (.if_icmp .ge 16, 3) := by decide +kernel
theorem dX12_tree_13 : decode cX12_tree 13 = .ok (.aload_n 0, 1) := by decide +kernel
theorem dX12_tree_14 : decode cX12_tree 14 = .ok (.getfield 336, 3) := by decide +kernel
theorem dX12_tree_17 : decode cX12_tree 17 = .ok (.iload_n 1, 1) := by decide +kernel
theorem dX12_tree_18 : decode cX12_tree 18 = .ok (.iload_n 1, 1) := by decide +kernel
theorem dX12_tree_19 : decode cX12_tree 19 = .ok (.iastore, 1) := by decide +kernel
theorem dX12_tree_20 : decode cX12_tree 20 = .ok (.iinc 1 1, 3) := by decide +kernel
theorem dX12_tree_23 : decode cX12_tree 23 = .ok (.goto (-16), 3) := by decide +kernel
theorem dX12_tree_26 : decode cX12_tree 26 = .ok (.lconst 0, 1) := by decide +kernel
theorem dX12_tree_27 : decode cX12_tree 27 = .ok (.lstore_n 1, 1) := by decide +kernel
theorem dX12_tree_28 : decode cX12_tree 28 = .ok (.iconst 0, 1) := by decide +kernel
theorem dX12_tree_29 : decode cX12_tree 29 = .ok (.istore_n 3, 1) := by decide +kernel
theorem dX12_tree_30 : decode cX12_tree 30 = .ok (.iload_n 3, 1) := by decide +kernel
theorem dX12_tree_31 : decode cX12_tree 31 = .ok (.sipush 1000, 3) := by decide +kernel
theorem dX12_tree_34 : decode cX12_tree 34 = .ok (.if_icmp .gt 130, 3) := by decide +kernel
theorem dX12_tree_37 : decode cX12_tree 37 = .ok (.iconst 0, 1) := by decide +kernel
theorem dX12_tree_38 : decode cX12_tree 38 = .ok (.istore 4, 2) := by decide +kernel
theorem dX12_tree_40 : decode cX12_tree 40 = .ok (.iload 4, 2) := by decide +kernel
theorem dX12_tree_42 : decode cX12_tree 42 = .ok (.aload_n 0, 1) := by decide +kernel
theorem dX12_tree_43 : decode cX12_tree 43 = .ok (.getfield 1069, 3) := by decide +kernel
theorem dX12_tree_46 : decode cX12_tree 46 = .ok (.if_icmp .ge 112, 3) := by decide +kernel
theorem dX12_tree_158 : decode cX12_tree 158 = .ok (.iinc 3 1, 3) := by decide +kernel
theorem dX12_tree_161 : decode cX12_tree 161 = .ok (.goto (-131), 3) := by decide +kernel
theorem dX12_tree_164 : decode cX12_tree 164 = .ok (.lload_n 1, 1) := by decide +kernel
theorem dX12_tree_165 : decode cX12_tree 165 = .ok (.lreturn, 1) := by decide +kernel
def wsPX12_tree : List Cond := .code yX12_tree cX12_tree 8 (some .long) :: ([.fieldLink RX12 348 "OptimaWorksModel" "thrown" "I", .fieldLink RX12 1069 "OptimaWorksModel" "arcs" "I", .fieldLink RX12 336 "OptimaWorksModel" "joined" "[I"] ++ wsX120)
theorem iwsPX12_tree_in12 : ∀ w ∈ wsX120, w ∈ wsPX12_tree := fun _ h => List.mem_cons_of_mem _ (List.mem_append_right _ h)
set_option maxHeartbeats 4000000 in
set_option maxRecDepth 100000 in
/-- tree() without arcs -/
theorem p_X12_tree (l : Launch) (dC : Nat → ClassId) (dI : Nat → Nat → Nat) (h0 : Nat) (v : Nat → Value) (h_arcs : v 150 = .int 0) (b_joined : Nat) (h_joined : v 159 = .ref b_joined) (k_joined : ClassId) (r_joined : Nat → Int32) (sz : Nat) : Met l yX12_tree wsPX12_tree ({ frames := 0, cells := 0, slots := 0, locals := 0 }) (va_Pc [.ref h0] (fun U => U.heap.size = sz ∧ va_P (dC, dI) vwCl [(h0, .inr (12, fM v)), (b_joined, .inl (k_joined, 12, .inl r_joined))] U.heap ∧ va_K (dC, dI) vwCl [(k_joined, .int)] U ∧ va_D (fun _ => True) [(h0, .inr (12, fM v)), (b_joined, .inl (k_joined, 12, .inl r_joined))])) (va_Ql (fun (r : Int64) (u : Nat → Value) => r = 0 ∧ (u 0 = .int 0)) (fun (u : Nat → Value) t => va_P (dC, dI) vwCl [(h0, .inr (12, fM u))] t.heap ∧ va_K (dC, dI) vwCl [] t ∧ va_D (va_A [(h0, .inr (12, fM v)), (b_joined, .inl (k_joined, 12, .inl r_joined))] sz) [(h0, .inr (12, fM u))]) (va_A [(h0, .inr (12, fM v)), (b_joined, .inl (k_joined, 12, .inl r_joined))] sz)) 0 0 (va_A [(h0, .inr (12, fM v)), (b_joined, .inl (k_joined, 12, .inl r_joined))] sz) := by
  refine Met.ofW (cc := cX12_tree) (maxL := 8) (ret := (some .long)) (by decide) rfl ?_
  intro p e s m args below meth c s₁ B hml hv
  obtain ⟨rfl, hsz, hP, hK, hD0⟩ := hv
  have hx := B.exec
  have hb := B.bytes
  have hr := B.returns
  have hts := atoms_spec (ws := wsPX12_tree) B.pre
  have hown : s.vm.findClass RX12 = some m.cls := findClass_of_methodNamed B.named
  have hlocks := B.notSynchronized
  subst hsz
  have hD := hD0.self (sz := s.heap.size)
  generalize hAe : va_A [(h0, .inr (12, fM v)), (b_joined, .inl (k_joined, 12, .inl r_joined))] s.heap.size = A at hD ⊢
  have hA : ∀ q : Nat, s.heap.size ≤ q → A q := fun q h => by rw [← hAe]; exact Or.inr h
  have hS : va_S A s.heap s.heap [] := va_S.rf
  have hP : va_P (dC, dI) vwCl [(h0, .inr (12, fM v)), (b_joined, .inl (k_joined, 12, .inl r_joined))] s.heap := hP
  have hl := lv_entry ([.ref h0]) (n := 8) (Nat.le_of_ble_eq_true rfl)
  rw [lg_entry_eq]
  generalize (lg_sl ([.ref h0]) ++ List.replicate (8 - (lg_sl ([.ref h0])).length) Slot.unset).toArray = ls at hl ⊢
  have hl : lv_has ls 8 [(0, .ref h0)] := hl
  refine lv_aload_n hx hb dX12_tree_0 rfl (lv_at hl 0 rfl) ?_
  refine lv_iconst (v := 0) hx hb dX12_tree_1 (by decide) ?_
  refine va_put (D := (dC, dI)) (ci := 12) (v := .int 0) (ty := .int) (C := RX12) (T := TX12) (N := 163) hx hb hts iwsPX12_tree_in12 tyX12 tyX12_ok nmX12 hown hK hP hD hS 0 rfl rfl 0 (by decide) (hts (.fieldLink RX12 348 "OptimaWorksModel" "thrown" "I") (by decide +kernel)) (fun _ h9 => h9) rfl (by decide +kernel) rfl rfl (Nat.le_of_ble_eq_true rfl) dX12_tree_2 (fun H locs hP hD hS => ?_)
  have hP : va_P (dC, dI) vwCl [(h0, .inr (12, fM (mUp v 0 (.int 0)))), (b_joined, .inl (k_joined, 12, .inl r_joined))] H := hP
  have hD : va_D A [(h0, .inr (12, fM (mUp v 0 (.int 0)))), (b_joined, .inl (k_joined, 12, .inl r_joined))] := hD
  refine lv_iconst (v := 0) hx hb dX12_tree_5 (by decide) ?_
  refine lv_istore_n (lv' := [(1, .int 0), (0, .ref h0)]) hx hb dX12_tree_6 rfl hl (by decide) rfl (fun ls hl => ?_)
  have hl := lv_sub hl [0, 1] (l' := [(1, .int (nI 0)), (0, .ref h0)]) rfl
  refine (fun (loop : ∀ (n9 : Nat) (i : Nat) (g : Nat → Int32) (H : Heap) (locs : List Loc) (ls : Array Slot), (i ≤ 12) →  (12 < i + n9) → va_P (dC, dI) vwCl [(h0, .inr (12, fM (mUp v 0 (.int 0)))), (b_joined, .inl (k_joined, 12, .inl g))] H → va_D A [(h0, .inr (12, fM (mUp v 0 (.int 0)))), (b_joined, .inl (k_joined, 12, .inl g))] → va_S A s.heap H locs → lv_has ls 8 [(1, .int (nI i)), (0, .ref h0)] → W p l e _ s m _ below meth c H locs 0 0 _ (F0 m 7 ls [])) => loop (13) 0 r_joined _ _ _ (by omega) (by omega) hP hD hS hl) ?_
  intro n9
  induction n9 with
  | zero => intro i g H locs ls hi hf9; exact False.elim (by omega)
  | succ n9 ih7 =>
    intro i g H locs ls hi hf7 hP hD hS hl
    refine lv_iload_n hx hb dX12_tree_7 rfl (lv_at hl 0 rfl) ?_
    refine lv_bipush (v := 12) hx hb dX12_tree_8 (by decide) ?_
    refine lv_icmp_ge (tgt := 26) hx hb dX12_tree_10 (by decide) (fun c_10 => ?_) (fun c_10 => ?_)
    · have t_10 : ((i : Nat) : Int) ≥ 12 := toI_ge c_10 (nI_toInt (by omega)) (by decide)
      refine lv_lconst (v := 0) hx hb dX12_tree_26 (by decide) ?_
      refine lv_lstore_n (lv' := [(1, .long 0), (0, .ref h0)]) hx hb dX12_tree_27 rfl hl (by decide) rfl (fun ls hl => ?_)
      refine lv_iconst (v := 0) hx hb dX12_tree_28 (by decide) ?_
      refine lv_istore_n (lv' := [(3, .int 0), (1, .long 0), (0, .ref h0)]) hx hb dX12_tree_29 rfl hl (by decide) rfl (fun ls hl => ?_)
      have hl := lv_sub hl [0, 1, 2] (l' := [(3, .int (nI 0)), (1, .long 0), (0, .ref h0)]) rfl
      refine (fun (loop : ∀ (n9 : Nat) (i2 : Nat) (H : Heap) (locs : List Loc) (ls : Array Slot), (i2 ≤ 1001) →  (1001 < i2 + n9) → va_P (dC, dI) vwCl [(h0, .inr (12, fM (mUp v 0 (.int 0)))), (b_joined, .inl (k_joined, 12, .inl g))] H → va_D A [(h0, .inr (12, fM (mUp v 0 (.int 0)))), (b_joined, .inl (k_joined, 12, .inl g))] → va_S A s.heap H locs → lv_has ls 8 [(3, .int (nI i2)), (1, .long 0), (0, .ref h0)] → W p l e _ s m _ below meth c H locs 0 0 _ (F0 m 30 ls [])) => loop (1002) 0 _ _ _ (by omega) (by omega) hP hD hS hl) ?_
      intro n9
      induction n9 with
      | zero => intro i2 H locs ls hi2 hf9; exact False.elim (by omega)
      | succ n9 ih30_1 =>
        intro i2 H locs ls hi2 hf30_1 hP hD hS hl
        refine lv_iload_n hx hb dX12_tree_30 rfl (lv_at hl 0 rfl) ?_
        refine lv_sipush (v := 1000) hx hb dX12_tree_31 (by decide) ?_
        refine lv_icmp_gt (tgt := 164) hx hb dX12_tree_34 (by decide) (fun c_34 => ?_) (fun c_34 => ?_)
        · have t_34 : ((i2 : Nat) : Int) > 1000 := toI_gt c_34 (nI_toInt (by omega)) (by decide)
          refine lv_lload_n hx hb dX12_tree_164 rfl (lv_at hl 1 rfl) ?_
          refine W.widen (k := 0) (n := 0) (by decide +kernel) (by decide +kernel) ?_
          exact W.lret (v := 0) hx hb hr (fun t ht hW => ⟨⟨0, (mUp v 0 (.int 0)), rfl, by (refine ⟨?_, ?_⟩ <;> (first | rfl | assumption | trivial | omega | (simp [c_10, c_34]; done) | (simp; omega))), by rw [ht]; exact hP.sub [0] rfl, va_K.moved hW.alike (hK.sub [] rfl), hD.sub [0] (by decide) rfl⟩, hS.F ht⟩) hS.2.2 dX12_tree_165
        · have t_34 : ¬ ((i2 : Nat) : Int) > 1000 := toI_ngt c_34 (nI_toInt (by omega)) (by decide)
          refine lv_iconst (v := 0) hx hb dX12_tree_37 (by decide) ?_
          refine lv_istore (lv' := [(4, .int 0), (3, .int (nI i2)), (1, .long 0), (0, .ref h0)]) hx hb dX12_tree_38 hl (by decide) rfl (fun ls hl => ?_)
          refine lv_iload hx hb dX12_tree_40 (lv_at hl 0 rfl) ?_
          refine lv_aload_n hx hb dX12_tree_42 rfl (lv_at hl 3 rfl) ?_
          refine va_get (D := (dC, dI)) (ci := 12) (v := .int 0) (C := RX12) (T := TX12) (N := 163) hx hb hts iwsPX12_tree_in12 hown hK hP 0 rfl rfl 150 (by decide) (hts (.fieldLink RX12 1069 "OptimaWorksModel" "arcs" "I") (by decide +kernel)) (fun _ h9 => h9) (congrArg some h_arcs) dX12_tree_43 ?_
          refine lv_icmp_ge (tgt := 158) hx hb dX12_tree_46 (by decide) (fun _ => ?_) (fun c9 => absurd (by decide) c9)
          refine lv_iinc (v := (nI (i2 + 1))) (lv' := [(3, .int (nI (i2 + 1))), (4, .int 0), (1, .long 0), (0, .ref h0)]) hx hb dX12_tree_158 hl (k := 1) rfl (nI_add i2 1) (by decide) rfl (fun ls hl => ?_)
          refine lv_goto (tgt := 30) hx hb dX12_tree_161 (by decide) ?_
          have hl := lv_sub hl [0, 2, 3] (l' := [(3, .int (nI (i2 + 1))), (1, .long 0), (0, .ref h0)]) rfl
          exact ih30_1 (i2 + 1) _ _ _ (by omega) (by omega) hP hD hS hl
    · have t_10 : ¬ ((i : Nat) : Int) ≥ 12 := toI_nge c_10 (nI_toInt (by omega)) (by decide)
      refine lv_aload_n hx hb dX12_tree_13 rfl (lv_at hl 1 rfl) ?_
      refine va_get (D := (dC, dI)) (ci := 12) (v := .ref b_joined) (C := RX12) (T := TX12) (N := 163) hx hb hts iwsPX12_tree_in12 hown hK hP 0 rfl rfl 159 (by decide) (hts (.fieldLink RX12 336 "OptimaWorksModel" "joined" "[I") (by decide +kernel)) (fun _ h9 => h9) (congrArg some h_joined) dX12_tree_14 ?_
      refine lv_iload_n hx hb dX12_tree_17 rfl (lv_at hl 0 rfl) ?_
      refine lv_iload_n hx hb dX12_tree_18 rfl (lv_at hl 0 rfl) ?_
      refine va_iast hx hb hK hP hD hS 1 0 rfl rfl (vp_in_nI (show i < 12 by omega) (by omega)) dX12_tree_19 (fun H locs hP hD hS => ?_)
      have hP : va_P (dC, dI) vwCl [(h0, .inr (12, fM (mUp v 0 (.int 0)))), (b_joined, .inl (k_joined, 12, .inl (upd g ((nI i)).toNatClampNeg (nI i))))] H := hP
      have hD : va_D A [(h0, .inr (12, fM (mUp v 0 (.int 0)))), (b_joined, .inl (k_joined, 12, .inl (upd g ((nI i)).toNatClampNeg (nI i))))] := hD
      refine lv_iinc (v := (nI (i + 1))) (lv' := [(1, .int (nI (i + 1))), (0, .ref h0)]) hx hb dX12_tree_20 hl (k := 0) rfl (nI_add i 1) (by decide) rfl (fun ls hl => ?_)
      refine lv_goto (tgt := 7) hx hb dX12_tree_23 (by decide) ?_
      have hl := lv_sub hl [0, 1] (l' := [(1, .int (nI (i + 1))), (0, .ref h0)]) rfl
      exact ih7 (i + 1) (upd g ((nI i)).toNatClampNeg (nI i)) _ _ _ (by omega) (by omega) hP hD hS hl

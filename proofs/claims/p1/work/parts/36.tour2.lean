theorem dX12_ones_0 : decode cX12_ones 0 = .ok (.iconst 0, 1) := by decide +kernel
theorem dX12_ones_1 : decode cX12_ones 1 = .ok (.istore_n 1, 1) := by decide +kernel
theorem dX12_ones_2 : decode cX12_ones 2 = .ok (.iload_n 0, 1) := by decide +kernel
theorem dX12_ones_3 : decode cX12_ones 3 = .ok (.istore_n 2, 1) := by decide +kernel
theorem dX12_ones_4 : decode cX12_ones 4 = .ok (.iload_n 2, 1) := by decide +kernel
theorem dX12_ones_5 : decode cX12_ones 5 = .ok (.ifCond .le 15, 3) := by decide +kernel
theorem dX12_ones_8 : decode cX12_ones 8 = .ok (.iinc 1 1, 3) := by decide +kernel
theorem dX12_ones_11 : decode cX12_ones 11 = .ok (.iload_n 2, 1) := by decide +kernel
theorem dX12_ones_12 : decode cX12_ones 12 = .ok (.iload_n 2, 1) := by decide +kernel
theorem dX12_ones_13 : decode cX12_ones 13 = .ok (.iconst 1, 1) := by decide +kernel
theorem dX12_ones_14 : decode cX12_ones 14 = .ok (.isub, 1) := by decide +kernel
theorem dX12_ones_15 : decode cX12_ones 15 = .ok (.iand, 1) := by decide +kernel
theorem dX12_ones_16 : decode cX12_ones 16 = .ok (.istore_n 2, 1) := by decide +kernel
theorem dX12_ones_17 : decode cX12_ones 17 = .ok (.goto (-13), 3) := by decide +kernel
theorem dX12_ones_20 : decode cX12_ones 20 = .ok (.iload_n 1, 1) := by decide +kernel
theorem dX12_ones_21 : decode cX12_ones 21 = .ok (.ireturn, 1) := by decide +kernel
def wsPX12_ones : List Cond := .code yX12_ones cX12_ones 3 (some .int) :: ([])
set_option maxHeartbeats 4000000 in
set_option maxRecDepth 100000 in
/-- ones(bits) -/
theorem p_X12_ones (l : Launch) (dC : Nat → ClassId) (dI : Nat → Nat → Nat) (nn : Nat) (hn : nn < 4096) (sz : Nat) : Met l yX12_ones wsPX12_ones ({ frames := 0, cells := 0, slots := 0, locals := 0 }) (va_Pc [.int (nI nn)] (fun U => U.heap.size = sz ∧ va_P (dC, dI) vwCl [] U.heap ∧ va_K (dC, dI) vwCl [] U ∧ va_D (fun _ => True) [])) (va_Qi (fun (r : Int32) (u : Unit) => r = (nI (cnt nn 12))) (fun (u : Unit) t => va_P (dC, dI) vwCl [] t.heap ∧ va_K (dC, dI) vwCl [] t ∧ va_D (va_A [] sz) []) (va_A [] sz)) 0 0 (va_A [] sz) := by
  refine Met.ofW (cc := cX12_ones) (maxL := 3) (ret := (some .int)) (by decide) rfl ?_
  intro p e s m args below meth c s₁ B hml hv
  obtain ⟨rfl, hsz, hP, hK, hD0⟩ := hv
  have hx := B.exec
  have hb := B.bytes
  have hr := B.returns
  have hts := atoms_spec (ws := wsPX12_ones) B.pre
  have hown : s.vm.findClass RX12 = some m.cls := findClass_of_methodNamed B.named
  have hlocks := B.notSynchronized
  subst hsz
  have hD := hD0.self (sz := s.heap.size)
  generalize hAe : va_A [] s.heap.size = A at hD ⊢
  have hA : ∀ q : Nat, s.heap.size ≤ q → A q := fun q h => by rw [← hAe]; exact Or.inr h
  have hS : va_S A s.heap s.heap [] := va_S.rf
  have hP : va_P (dC, dI) vwCl [] s.heap := hP
  have hl := lv_entry ([.int (nI nn)]) (n := 3) (Nat.le_of_ble_eq_true rfl)
  rw [lg_entry_eq]
  generalize (lg_sl ([.int (nI nn)]) ++ List.replicate (3 - (lg_sl ([.int (nI nn)])).length) Slot.unset).toArray = ls at hl ⊢
  have hl : lv_has ls 3 [(0, .int (nI nn))] := hl
  refine lv_iconst (v := 0) hx hb dX12_ones_0 (by decide) ?_
  refine lv_istore_n (lv' := [(1, .int 0), (0, .int (nI nn))]) hx hb dX12_ones_1 rfl hl (by decide) rfl (fun ls hl => ?_)
  refine lv_iload_n hx hb dX12_ones_2 rfl (lv_at hl 1 rfl) ?_
  refine lv_istore_n (lv' := [(2, .int (nI nn)), (1, .int 0), (0, .int (nI nn))]) hx hb dX12_ones_3 rfl hl (by decide) rfl (fun ls hl => ?_)
  have hl := lv_sub hl [0, 1, 2] (l' := [(2, .int (nI nn)), (1, .int (nI 0)), (0, .int (nI nn))]) rfl
  refine (fun (loop : ∀ (n9 : Nat) (bb : Nat) (cc9 : Nat) (H : Heap) (locs : List Loc) (ls : Array Slot), (bb < 4096) → (cc9 + cnt bb 12 = cnt nn 12) →  (bb < n9) → va_P (dC, dI) vwCl [] H → va_D A [] → va_S A s.heap H locs → lv_has ls 3 [(2, .int (nI bb)), (1, .int (nI cc9)), (0, .int (nI nn))] → W p l e _ s m _ below meth c H locs 0 0 _ (F0 m 4 ls [])) => loop (4096) nn 0 _ _ _ (by omega) (by omega) (by omega) hP hD hS hl) ?_
  intro n9
  induction n9 with
  | zero => intro bb cc9 H locs ls hbb hcc hf9; exact False.elim (by omega)
  | succ n9 ih4 =>
    intro bb cc9 H locs ls hbb hcc hf4 hP hD hS hl
    refine lv_iload_n hx hb dX12_ones_4 rfl (lv_at hl 0 rfl) ?_
    refine lv_if_le (tgt := 20) hx hb dX12_ones_5 (by decide) (fun c_5 => ?_) (fun c_5 => ?_)
    · have t_5 : ((bb : Nat) : Int) ≤ 0 := toI_le c_5 (nI_toInt (by omega)) (by decide)
      refine lv_iload_n hx hb dX12_ones_20 rfl (lv_at hl 1 rfl) ?_
      refine W.widen (k := 0) (n := 0) (by decide +kernel) (by decide +kernel) ?_
      exact W.iret (v := (nI cc9)) hx hb hr (fun t ht hW => ⟨⟨(nI cc9), (), rfl, by (try dsimp only); have e9 : bb = 0 := (by omega); subst e9; have e8 := cnt_0 12; rw [show cc9 = cnt nn 12 by omega], by rw [ht]; exact hP.sub [] rfl, va_K.moved hW.alike (hK.sub [] rfl), hD.sub [] (by decide) rfl⟩, hS.F ht⟩) hS.2.2 dX12_ones_21
    · have t_5 : ¬ ((bb : Nat) : Int) ≤ 0 := toI_nle c_5 (nI_toInt (by omega)) (by decide)
      refine lv_iinc (v := (nI (cc9 + 1))) (lv' := [(1, .int (nI (cc9 + 1))), (2, .int (nI bb)), (0, .int (nI nn))]) hx hb dX12_ones_8 hl (k := 1) rfl (nI_add cc9 1) (by decide) rfl (fun ls hl => ?_)
      refine lv_iload_n hx hb dX12_ones_11 rfl (lv_at hl 1 rfl) ?_
      refine lv_iload_n hx hb dX12_ones_12 rfl (lv_at hl 1 rfl) ?_
      refine lv_iconst (v := 1) hx hb dX12_ones_13 (by decide) ?_
      refine lv_isub hx hb dX12_ones_14 ?_
      refine lv_topi (fun y1 hy1 => ?_)
      obtain rfl : (nI (bb - 1)) = y1 := (hy1.trans (pk_sub (a := bb) (b := 1) (by omega))).symm
      refine lv_iand hx hb dX12_ones_15 ?_
      refine lv_topi (fun y2 hy2 => ?_)
      obtain rfl : (nI (bb &&& (bb - 1))) = y2 := (hy2.trans (and_nI _ _)).symm
      refine lv_istore_n (lv' := [(2, .int (nI (bb &&& (bb - 1)))), (1, .int (nI (cc9 + 1))), (0, .int (nI nn))]) hx hb dX12_ones_16 rfl hl (by decide) rfl (fun ls hl => ?_)
      have h1 := low_lt bb (by omega)
      have h2 := low_cnt bb (by omega) (by omega)
      refine lv_goto (tgt := 4) hx hb dX12_ones_17 (by decide) ?_
      have hl := lv_sub hl [0, 1, 2] (l' := [(2, .int (nI (bb &&& (bb - 1)))), (1, .int (nI (cc9 + 1))), (0, .int (nI nn))]) rfl
      exact ih4 (bb &&& (bb - 1)) (cc9 + 1) _ _ _ (by omega) (by omega) (by omega) hP hD hS hl
theorem dX12_link_0 : decode cX12_link 0 = .ok (.iconst (-1), 1) := by decide +kernel
theorem dX12_link_1 : decode cX12_link 1 = .ok (.istore_n 3, 1) := by decide +kernel
theorem dX12_link_2 : decode cX12_link 2 = .ok (.iconst 0, 1) := by decide +kernel
theorem dX12_link_3 : decode cX12_link 3 = .ok (.istore 4, 2) := by decide +kernel
theorem dX12_link_5 : decode cX12_link 5 = .ok (.iload 4, 2) := by decide +kernel
theorem dX12_link_7 : decode cX12_link 7 = .ok (.aload_n 0, 1) := by decide +kernel
theorem dX12_link_8 : decode cX12_link 8 = .ok (.getfield 1069, 3) := by decide +kernel
theorem dX12_link_11 : decode cX12_link 11 = .ok (.if_icmp .ge 55, 3) := by decide +kernel
theorem dX12_link_66 : decode cX12_link 66 = .ok (.iload_n 3, 1) := by decide +kernel
theorem dX12_link_67 : decode cX12_link 67 = .ok (.ireturn, 1) := by decide +kernel
def wsPX12_link : List Cond := .code yX12_link cX12_link 5 (some .int) :: ([.fieldLink RX12 1069 "OptimaWorksModel" "arcs" "I"] ++ wsX120)
theorem iwsPX12_link_in12 : ∀ w ∈ wsX120, w ∈ wsPX12_link := fun _ h => List.mem_cons_of_mem _ (List.mem_append_right _ h)
set_option maxHeartbeats 4000000 in
set_option maxRecDepth 100000 in
/-- link(a, b) without arcs -/
theorem p_X12_link (l : Launch) (dC : Nat → ClassId) (dI : Nat → Nat → Nat) (h0 : Nat) (v : Nat → Value) (h_arcs : v 150 = .int 0) (qa : Int32) (qb : Int32) (sz : Nat) : Met l yX12_link wsPX12_link ({ frames := 0, cells := 0, slots := 0, locals := 0 }) (va_Pc [.ref h0, .int qa, .int qb] (fun U => U.heap.size = sz ∧ va_P (dC, dI) vwCl [(h0, .inr (12, fM v))] U.heap ∧ va_K (dC, dI) vwCl [] U ∧ va_D (fun _ => True) [(h0, .inr (12, fM v))])) (va_Qi (fun (r : Int32) (u : Unit) => r = (-1)) (fun (u : Unit) t => va_P (dC, dI) vwCl [(h0, .inr (12, fM v))] t.heap ∧ va_K (dC, dI) vwCl [] t ∧ va_D (va_A [(h0, .inr (12, fM v))] sz) [(h0, .inr (12, fM v))]) (va_A [(h0, .inr (12, fM v))] sz)) 0 0 (va_A [(h0, .inr (12, fM v))] sz) := by
  refine Met.ofW (cc := cX12_link) (maxL := 5) (ret := (some .int)) (by decide) rfl ?_
  intro p e s m args below meth c s₁ B hml hv
  obtain ⟨rfl, hsz, hP, hK, hD0⟩ := hv
  have hx := B.exec
  have hb := B.bytes
  have hr := B.returns
  have hts := atoms_spec (ws := wsPX12_link) B.pre
  have hown : s.vm.findClass RX12 = some m.cls := findClass_of_methodNamed B.named
  have hlocks := B.notSynchronized
  subst hsz
  have hD := hD0.self (sz := s.heap.size)
  generalize hAe : va_A [(h0, .inr (12, fM v))] s.heap.size = A at hD ⊢
  have hA : ∀ q : Nat, s.heap.size ≤ q → A q := fun q h => by rw [← hAe]; exact Or.inr h
  have hS : va_S A s.heap s.heap [] := va_S.rf
  have hP : va_P (dC, dI) vwCl [(h0, .inr (12, fM v))] s.heap := hP
  have hl := lv_entry ([.ref h0, .int qa, .int qb]) (n := 5) (Nat.le_of_ble_eq_true rfl)
  rw [lg_entry_eq]
  generalize (lg_sl ([.ref h0, .int qa, .int qb]) ++ List.replicate (5 - (lg_sl ([.ref h0, .int qa, .int qb])).length) Slot.unset).toArray = ls at hl ⊢
  have hl : lv_has ls 5 [(0, .ref h0), (1, .int qa), (2, .int qb)] := hl
  refine lv_iconst (v := (-1)) hx hb dX12_link_0 (by decide) ?_
  refine lv_istore_n (lv' := [(3, .int (-1)), (0, .ref h0), (1, .int qa), (2, .int qb)]) hx hb dX12_link_1 rfl hl (by decide) rfl (fun ls hl => ?_)
  refine lv_iconst (v := 0) hx hb dX12_link_2 (by decide) ?_
  refine lv_istore (lv' := [(4, .int 0), (3, .int (-1)), (0, .ref h0), (1, .int qa), (2, .int qb)]) hx hb dX12_link_3 hl (by decide) rfl (fun ls hl => ?_)
  refine lv_iload hx hb dX12_link_5 (lv_at hl 0 rfl) ?_
  refine lv_aload_n hx hb dX12_link_7 rfl (lv_at hl 2 rfl) ?_
  refine va_get (D := (dC, dI)) (ci := 12) (v := .int 0) (C := RX12) (T := TX12) (N := 163) hx hb hts iwsPX12_link_in12 hown hK hP 0 rfl rfl 150 (by decide) (hts (.fieldLink RX12 1069 "OptimaWorksModel" "arcs" "I") (by decide +kernel)) (fun _ h9 => h9) (congrArg some h_arcs) dX12_link_8 ?_
  refine lv_icmp_ge (tgt := 66) hx hb dX12_link_11 (by decide) (fun _ => ?_) (fun c9 => absurd (by decide) c9)
  refine lv_iload_n hx hb dX12_link_66 rfl (lv_at hl 1 rfl) ?_
  refine W.widen (k := 0) (n := 0) (by decide +kernel) (by decide +kernel) ?_
  exact W.iret (v := (-1)) hx hb hr (fun t ht hW => ⟨⟨(-1), (), rfl, by (first | rfl | assumption | trivial | omega | (simp []; done) | (simp; omega)), by rw [ht]; exact hP.sub [0] rfl, va_K.moved hW.alike (hK.sub [] rfl), hD.sub [0] (by decide) rfl⟩, hS.F ht⟩) hS.2.2 dX12_link_67
theorem dX12_tourCost_0 : decode cX12_tourCost 0 = .ok (.iconst 0, 1) := by decide +kernel
theorem dX12_tourCost_1 : decode cX12_tourCost 1 = .ok (.istore_n 2, 1) := by decide +kernel
theorem dX12_tourCost_2 : decode cX12_tourCost 2 = .ok (.iconst 0, 1) := by decide +kernel
theorem dX12_tourCost_3 : decode cX12_tourCost 3 = .ok (.istore_n 3, 1) := by decide +kernel
theorem dX12_tourCost_4 : decode cX12_tourCost 4 = .ok (.iload_n 3, 1) := by decide +kernel
theorem dX12_tourCost_5 : decode cX12_tourCost 5 = .ok (.iload_n 1, 1) := by decide +kernel
theorem dX12_tourCost_6 : decode cX12_tourCost 6 = .ok (.if_icmp .ge 54, 3) := by decide +kernel
theorem dX12_tourCost_9 : decode cX12_tourCost 9 = .ok (.aload_n 0, 1) := by decide +kernel
theorem dX12_tourCost_10 : decode cX12_tourCost 10 = .ok (.aload_n 0, 1) := by decide +kernel
theorem dX12_tourCost_11 : decode cX12_tourCost 11 = .ok (.getfield 339, 3) := by decide +kernel
theorem dX12_tourCost_14 : decode cX12_tourCost 14 = .ok (.aload_n 0, 1) := by decide +kernel
theorem dX12_tourCost_15 : decode cX12_tourCost 15 = .ok (.getfield 342, 3) := by decide +kernel
theorem dX12_tourCost_18 : decode cX12_tourCost 18 = .ok (.iload_n 3, 1) := by decide +kernel
theorem dX12_tourCost_19 : decode cX12_tourCost 19 = .ok (.iaload, 1) := by decide +kernel
theorem dX12_tourCost_20 : decode cX12_tourCost 20 = .ok (.iaload, 1) := by decide +kernel
theorem dX12_tourCost_21 : decode cX12_tourCost 21 = .ok (.aload_n 0, 1) := by decide +kernel
theorem dX12_tourCost_22 : decode cX12_tourCost 22 = .ok (.getfield 339, 3) := by decide +kernel
theorem dX12_tourCost_25 : decode cX12_tourCost 25 = .ok (.aload_n 0, 1) := by decide +kernel
theorem dX12_tourCost_26 : decode cX12_tourCost 26 = .ok (.getfield 342, 3) := by decide +kernel
theorem dX12_tourCost_29 : decode cX12_tourCost 29 = .ok (.iload_n 3, 1) := by decide +kernel
theorem dX12_tourCost_30 : decode cX12_tourCost 30 = .ok (.iconst 1, 1) := by decide +kernel
theorem dX12_tourCost_31 : decode cX12_tourCost 31 = .ok (.iadd, 1) := by decide +kernel
theorem dX12_tourCost_32 : decode cX12_tourCost 32 = .ok (.iload_n 1, 1) := by decide +kernel
theorem dX12_tourCost_33 : decode cX12_tourCost 33 = .ok (.irem, 1) := by decide +kernel
theorem dX12_tourCost_34 : decode cX12_tourCost 34 = .ok (.iaload, 1) := by decide +kernel
theorem dX12_tourCost_35 : decode cX12_tourCost 35 = .ok (.iaload, 1) := by decide +kernel
theorem dX12_tourCost_36 : decode cX12_tourCost 36 = .ok (.invokevirtual 1089, 3) := by decide +kernel
theorem dX12_tourCost_39 : decode cX12_tourCost 39 = .ok (.istore 4, 2) := by decide +kernel
theorem dX12_tourCost_41 : decode cX12_tourCost 41 = .ok (.iload 4, 2) := by decide +kernel
theorem dX12_tourCost_43 : decode cX12_tourCost 43 = .ok (.iconst (-1), 1) := by decide +kernel
theorem dX12_tourCost_44 : decode cX12_tourCost 44 = .ok (.if_icmp .ne 5, 3) := by decide +kernel
theorem dX12_tourCost_47 : decode cX12_tourCost 47 = .ok (.iconst (-1), 1) := by decide +kernel
theorem dX12_tourCost_48 : decode cX12_tourCost 48 = .ok (.ireturn, 1) := by decide +kernel
def wsPX12_tourCost : List Cond := .code yX12_tourCost cX12_tourCost 5 (some .int) :: ([.fieldLink RX12 339 "OptimaWorksModel" "member1" "[I", .fieldLink RX12 342 "OptimaWorksModel" "order" "[I"] ++ wsX120 ++ (wsV RX12 1089 RX12 yX12_link wsPX12_link))
theorem iwsPX12_tourCost_in12 : ∀ w ∈ wsX120, w ∈ wsPX12_tourCost := fun _ h => List.mem_cons_of_mem _ (List.mem_append_left _ (List.mem_append_right _ h))
theorem gwsPX12_tourCost_0 : GoodIn wsPX12_tourCost (wsV RX12 1089 RX12 yX12_link wsPX12_link) := goodIn_sub (fun _ h => List.mem_cons_of_mem _ (List.mem_append_right _ h)) (by decide +kernel)
set_option maxHeartbeats 4000000 in
set_option maxRecDepth 100000 in
/-- tourCost(n) without arcs -/
theorem p_X12_tourCost (l : Launch) (dC : Nat → ClassId) (dI : Nat → Nat → Nat) (h0 : Nat) (v : Nat → Value) (h_arcs : v 150 = .int 0) (b_member1 : Nat) (h_member1 : v 160 = .ref b_member1) (k_member1 : ClassId) (r_member1 : Nat → Int32) (b_order : Nat) (h_order : v 161 = .ref b_order) (k_order : ClassId) (Kn : Nat) (fo : Nat → Int32) (hK2 : 2 ≤ Kn) (hK8 : Kn ≤ 8) (hBo : Bo fo) (sz : Nat) : Met l yX12_tourCost wsPX12_tourCost ({ frames := 1, cells := 0, slots := 0, locals := 24 }) (va_Pc [.ref h0, .int (nI Kn)] (fun U => U.heap.size = sz ∧ va_P (dC, dI) vwCl [(h0, .inr (12, fM v)), (b_member1, .inl (k_member1, 8, .inl r_member1)), (b_order, .inl (k_order, 8, .inl fo))] U.heap ∧ va_K (dC, dI) vwCl [(k_member1, .int), (k_order, .int)] U ∧ va_D (fun _ => True) [(h0, .inr (12, fM v)), (b_member1, .inl (k_member1, 8, .inl r_member1)), (b_order, .inl (k_order, 8, .inl fo))])) (va_Qi (fun (r : Int32) (u : Unit) => r = (-1)) (fun (u : Unit) t => va_P (dC, dI) vwCl [(h0, .inr (12, fM v)), (b_member1, .inl (k_member1, 8, .inl r_member1)), (b_order, .inl (k_order, 8, .inl fo))] t.heap ∧ va_K (dC, dI) vwCl [] t ∧ va_D (va_A [(h0, .inr (12, fM v)), (b_member1, .inl (k_member1, 8, .inl r_member1)), (b_order, .inl (k_order, 8, .inl fo))] sz) [(h0, .inr (12, fM v)), (b_member1, .inl (k_member1, 8, .inl r_member1)), (b_order, .inl (k_order, 8, .inl fo))]) (va_A [(h0, .inr (12, fM v)), (b_member1, .inl (k_member1, 8, .inl r_member1)), (b_order, .inl (k_order, 8, .inl fo))] sz)) 0 0 (va_A [(h0, .inr (12, fM v)), (b_member1, .inl (k_member1, 8, .inl r_member1)), (b_order, .inl (k_order, 8, .inl fo))] sz) := by
  refine Met.ofW (cc := cX12_tourCost) (maxL := 5) (ret := (some .int)) (by decide) rfl ?_
  intro p e s m args below meth c s₁ B hml hv
  obtain ⟨rfl, hsz, hP, hK, hD0⟩ := hv
  have hx := B.exec
  have hb := B.bytes
  have hr := B.returns
  have hts := atoms_spec (ws := wsPX12_tourCost) B.pre
  have hown : s.vm.findClass RX12 = some m.cls := findClass_of_methodNamed B.named
  have hlocks := B.notSynchronized
  subst hsz
  have hD := hD0.self (sz := s.heap.size)
  generalize hAe : va_A [(h0, .inr (12, fM v)), (b_member1, .inl (k_member1, 8, .inl r_member1)), (b_order, .inl (k_order, 8, .inl fo))] s.heap.size = A at hD ⊢
  have hA : ∀ q : Nat, s.heap.size ≤ q → A q := fun q h => by rw [← hAe]; exact Or.inr h
  have hS : va_S A s.heap s.heap [] := va_S.rf
  have hP : va_P (dC, dI) vwCl [(h0, .inr (12, fM v)), (b_member1, .inl (k_member1, 8, .inl r_member1)), (b_order, .inl (k_order, 8, .inl fo))] s.heap := hP
  have hl := lv_entry ([.ref h0, .int (nI Kn)]) (n := 5) (Nat.le_of_ble_eq_true rfl)
  rw [lg_entry_eq]
  generalize (lg_sl ([.ref h0, .int (nI Kn)]) ++ List.replicate (5 - (lg_sl ([.ref h0, .int (nI Kn)])).length) Slot.unset).toArray = ls at hl ⊢
  have hl : lv_has ls 5 [(0, .ref h0), (1, .int (nI Kn))] := hl
  refine lv_iconst (v := 0) hx hb dX12_tourCost_0 (by decide) ?_
  refine lv_istore_n (lv' := [(2, .int 0), (0, .ref h0), (1, .int (nI Kn))]) hx hb dX12_tourCost_1 rfl hl (by decide) rfl (fun ls hl => ?_)
  refine lv_iconst (v := 0) hx hb dX12_tourCost_2 (by decide) ?_
  refine lv_istore_n (lv' := [(3, .int 0), (2, .int 0), (0, .ref h0), (1, .int (nI Kn))]) hx hb dX12_tourCost_3 rfl hl (by decide) rfl (fun ls hl => ?_)
  refine lv_iload_n hx hb dX12_tourCost_4 rfl (lv_at hl 0 rfl) ?_
  refine lv_iload_n hx hb dX12_tourCost_5 rfl (lv_at hl 3 rfl) ?_
  refine lv_icmp_ge (tgt := 60) hx hb dX12_tourCost_6 (by decide) (fun c9 => False.elim (by have t9 : 0 ≥ ((Kn : Nat) : Int) := toI_ge c9 (by decide) (nI_toInt (by omega)); omega)) (fun c_6 => ?_)
  have t_6 : ¬ 0 ≥ ((Kn : Nat) : Int) := toI_nge c_6 (by decide) (nI_toInt (by omega))
  refine lv_aload_n hx hb dX12_tourCost_9 rfl (lv_at hl 2 rfl) ?_
  refine lv_aload_n hx hb dX12_tourCost_10 rfl (lv_at hl 2 rfl) ?_
  refine va_get (D := (dC, dI)) (ci := 12) (v := .ref b_member1) (C := RX12) (T := TX12) (N := 163) hx hb hts iwsPX12_tourCost_in12 hown hK hP 0 rfl rfl 160 (by decide) (hts (.fieldLink RX12 339 "OptimaWorksModel" "member1" "[I") (by decide +kernel)) (fun _ h9 => h9) (congrArg some h_member1) dX12_tourCost_11 ?_
  refine lv_aload_n hx hb dX12_tourCost_14 rfl (lv_at hl 2 rfl) ?_
  refine va_get (D := (dC, dI)) (ci := 12) (v := .ref b_order) (C := RX12) (T := TX12) (N := 163) hx hb hts iwsPX12_tourCost_in12 hown hK hP 0 rfl rfl 161 (by decide) (hts (.fieldLink RX12 342 "OptimaWorksModel" "order" "[I") (by decide +kernel)) (fun _ h9 => h9) (congrArg some h_order) dX12_tourCost_15 ?_
  refine lv_iload_n hx hb dX12_tourCost_18 rfl (lv_at hl 0 rfl) ?_
  refine va_iald hx hb hK hP 2 1 rfl rfl (show ¬ ((0 : Int32) < 0 ∨ 8 ≤ (0 : Int32).toNatClampNeg) by decide) dX12_tourCost_19 ?_
  refine lv_topi (fun y1 hy1 => ?_)
  obtain rfl : (fo 0) = y1 := (hy1.trans (rfl)).symm
  refine va_iald hx hb hK hP 1 0 rfl rfl (vp_in_iff.mpr (by have h9 := hBo 0 (by omega); omega)) dX12_tourCost_20 ?_
  refine lv_aload_n hx hb dX12_tourCost_21 rfl (lv_at hl 2 rfl) ?_
  refine va_get (D := (dC, dI)) (ci := 12) (v := .ref b_member1) (C := RX12) (T := TX12) (N := 163) hx hb hts iwsPX12_tourCost_in12 hown hK hP 0 rfl rfl 160 (by decide) (hts (.fieldLink RX12 339 "OptimaWorksModel" "member1" "[I") (by decide +kernel)) (fun _ h9 => h9) (congrArg some h_member1) dX12_tourCost_22 ?_
  refine lv_aload_n hx hb dX12_tourCost_25 rfl (lv_at hl 2 rfl) ?_
  refine va_get (D := (dC, dI)) (ci := 12) (v := .ref b_order) (C := RX12) (T := TX12) (N := 163) hx hb hts iwsPX12_tourCost_in12 hown hK hP 0 rfl rfl 161 (by decide) (hts (.fieldLink RX12 342 "OptimaWorksModel" "order" "[I") (by decide +kernel)) (fun _ h9 => h9) (congrArg some h_order) dX12_tourCost_26 ?_
  refine lv_iload_n hx hb dX12_tourCost_29 rfl (lv_at hl 0 rfl) ?_
  refine lv_iconst (v := 1) hx hb dX12_tourCost_30 (by decide) ?_
  refine lv_iadd hx hb dX12_tourCost_31 ?_
  refine lv_topi (fun y2 hy2 => ?_)
  obtain rfl : 1 = y2 := (hy2.trans (by decide)).symm
  refine lv_iload_n hx hb dX12_tourCost_32 rfl (lv_at hl 3 rfl) ?_
  refine lv_irem hx hb dX12_tourCost_33 (by exact nI_ne0 (by omega) (by omega)) ?_
  refine lv_topi (fun y3 hy3 => ?_)
  obtain rfl : (nI (1 % Kn)) = y3 := (hy3.trans (pk_rem (a := 1) (d := Kn) (by omega) (by omega) (by omega))).symm
  refine lv_topi (fun y4 hy4 => ?_)
  obtain rfl : 1 = y4 := (hy4.trans (by rw [Nat.mod_eq_of_lt (by omega)]; rfl)).symm
  refine va_iald hx hb hK hP 2 1 rfl rfl (show ¬ ((1 : Int32) < 0 ∨ 8 ≤ (1 : Int32).toNatClampNeg) by decide) dX12_tourCost_34 ?_
  refine lv_topi (fun y5 hy5 => ?_)
  obtain rfl : (fo 1) = y5 := (hy5.trans (rfl)).symm
  refine va_iald hx hb hK hP 1 0 rfl rfl (vp_in_iff.mpr (by have h9 := hBo 1 (by omega); omega)) dX12_tourCost_35 ?_
  have hPc := hP.sub (ws' := [(h0, .inr (12, fM v))]) [0] rfl
  have hDc := hD.sub (ws' := [(h0, .inr (12, fM v))]) [0] (by decide) rfl
  have hKc := hK.sub (tys' := []) [] rfl
  have hFc := va_free (wc := [(h0, .inr (12, fM v))]) hD hS hA [0] rfl
  refine va_calli (va_runV (As := [.int (r_member1 ((fo 0)).toNatClampNeg), .int (r_member1 ((fo 1)).toNatClampNeg)]) (rest := []) ⟨hx, hb, hml, hown, hts⟩ (p_X12_link l dC dI h0 v (h_arcs) (r_member1 ((fo 0)).toNatClampNeg) (r_member1 ((fo 1)).toNatClampNeg) s.heap.size) (cwV 2 hts gwsPX12_tourCost_0 rfl rfl rfl (by decide +kernel) ⟨by decide +kernel, by decide +kernel⟩) ⟨fun a U g mk q => by obtain ⟨q0, q1, qP, qK, qD⟩ := q; exact ⟨q0, q1, qP, va_K.moved (u := U) (U := U.calling g mk a) (Vm.Alike.refl U.vm) qK, qD⟩, va_recv hKc hPc (ci := 12) (q0 := 0) rfl rfl, fun U hU9 hW => ⟨rfl, by rw [hU9], by rw [hU9]; exact hPc, va_K.moved hW.alike hKc, hDc.weaken (fun _ _ _ _ => trivial)⟩⟩ rfl rfl hl.1 rfl (lv_room (Nat.le_of_ble_eq_true rfl)) dX12_tourCost_36 ⟨by decide +kernel, by decide +kernel⟩) hS (fun q _ h => hFc q h) hFc (fun r36 u t H1 locs ht hvm hw hB hz1 hk1 hS => ?_)
  obtain ⟨hP1, hK1, hD1⟩ := hB
  rw [ht] at hP1
  have hK1 := va_K.moved hvm.symm hK1
  obtain ⟨hP, hD⟩ := va_join (wr := [(b_member1, .inl (k_member1, 8, .inl r_member1)), (b_order, .inl (k_order, 8, .inl fo))]) (w1 := [(h0, .inr (12, fM v))]) hP hD [0] [1, 2] rfl rfl (by decide) (by decide) hk1 hFc hP1 hD1
  generalize H1 = H at hP hS ⊢
  have hP : va_P (dC, dI) vwCl [(b_member1, .inl (k_member1, 8, .inl r_member1)), (b_order, .inl (k_order, 8, .inl fo)), (h0, .inr (12, fM v))] H := hP
  have hD : va_D A [(b_member1, .inl (k_member1, 8, .inl r_member1)), (b_order, .inl (k_order, 8, .inl fo)), (h0, .inr (12, fM v))] := hD
  obtain rfl := hw
  refine lv_istore (lv' := [(4, .int (-1)), (3, .int 0), (2, .int 0), (0, .ref h0), (1, .int (nI Kn))]) hx hb dX12_tourCost_39 hl (by decide) rfl (fun ls hl => ?_)
  refine lv_iload hx hb dX12_tourCost_41 (lv_at hl 0 rfl) ?_
  refine lv_iconst (v := (-1)) hx hb dX12_tourCost_43 (by decide) ?_
  refine lv_icmp_ne (tgt := 49) hx hb dX12_tourCost_44 (by decide) (fun c9 => absurd c9 (by decide)) (fun _ => ?_)
  refine lv_iconst (v := (-1)) hx hb dX12_tourCost_47 (by decide) ?_
  refine W.widen (k := 0) (n := 0) (by decide +kernel) (by decide +kernel) ?_
  exact W.iret (v := (-1)) hx hb hr (fun t ht hW => ⟨⟨(-1), (), rfl, by (first | rfl | assumption | trivial | omega | (simp []; done) | (simp; omega)), by rw [ht]; exact hP.sub [2, 0, 1] rfl, va_K.moved hW.alike (hK.sub [] rfl), hD.sub [2, 0, 1] (by decide) rfl⟩, hS.F ht⟩) hS.2.2 dX12_tourCost_48
theorem dX12_nextOrder_0 : decode cX12_nextOrder 0 = .ok (.iload_n 1, 1) := by decide +kernel
theorem dX12_nextOrder_1 : decode cX12_nextOrder 1 = .ok (.iconst 2, 1) := by decide +kernel
theorem dX12_nextOrder_2 : decode cX12_nextOrder 2 = .ok (.isub, 1) := by decide +kernel
theorem dX12_nextOrder_3 : decode cX12_nextOrder 3 = .ok (.istore_n 2, 1) := by decide +kernel
theorem dX12_nextOrder_4 : decode cX12_nextOrder 4 = .ok (.iload_n 2, 1) := by decide +kernel
theorem dX12_nextOrder_5 : decode cX12_nextOrder 5 = .ok (.ifCond .le 26, 3) := by decide +kernel
theorem dX12_nextOrder_8 : decode cX12_nextOrder 8 = .ok (.aload_n 0, 1) := by decide +kernel
theorem dX12_nextOrder_9 : decode cX12_nextOrder 9 = .ok (.getfield 342, 3) := by decide +kernel
theorem dX12_nextOrder_12 : decode cX12_nextOrder 12 = .ok (.iload_n 2, 1) := by decide +kernel
theorem dX12_nextOrder_13 : decode cX12_nextOrder 13 = .ok (.iaload, 1) := by decide +kernel
theorem dX12_nextOrder_14 : decode cX12_nextOrder 14 = .ok (.aload_n 0, 1) := by decide +kernel
theorem dX12_nextOrder_15 : decode cX12_nextOrder 15 = .ok (.getfield 342, 3) := by decide +kernel
theorem dX12_nextOrder_18 : decode cX12_nextOrder 18 = .ok (.iload_n 2, 1) := by decide +kernel
theorem dX12_nextOrder_19 : decode cX12_nextOrder 19 = .ok (.iconst 1, 1) := by decide +kernel
theorem dX12_nextOrder_20 : decode cX12_nextOrder 20 = .ok (.iadd, 1) := by decide +kernel
theorem dX12_nextOrder_21 : decode cX12_nextOrder 21 = .ok (.iaload, 1) := by decide +kernel
theorem dX12_nextOrder_22 : decode cX12_nextOrder 22 = .ok (.if_icmp .le 9, 3) := by decide +kernel
theorem dX12_nextOrder_25 : decode cX12_nextOrder 25 = .ok (.iinc 2 (-1), 3) := by decide +kernel
theorem dX12_nextOrder_28 : decode cX12_nextOrder 28 = .ok (.goto (-24), 3) := by decide +kernel
theorem dX12_nextOrder_31 : decode cX12_nextOrder 31 = .ok (.iload_n 2, 1) := by decide +kernel
theorem dX12_nextOrder_32 : decode cX12_nextOrder 32 = .ok (.ifCond .gt 5, 3) := by decide +kernel
theorem dX12_nextOrder_35 : decode cX12_nextOrder 35 = .ok (.iconst 0, 1) := by decide +kernel
theorem dX12_nextOrder_36 : decode cX12_nextOrder 36 = .ok (.ireturn, 1) := by decide +kernel
theorem dX12_nextOrder_37 : decode cX12_nextOrder 37 = .ok (.iload_n 1, 1) := by decide +kernel
theorem dX12_nextOrder_38 : decode cX12_nextOrder 38 = .ok (.iconst 1, 1) := by decide +kernel
theorem dX12_nextOrder_39 : decode cX12_nextOrder 39 = .ok (.isub, 1) := by decide +kernel
theorem dX12_nextOrder_40 : decode cX12_nextOrder 40 = .ok (.istore_n 3, 1) := by decide +kernel
theorem dX12_nextOrder_41 : decode cX12_nextOrder 41 = .ok (.aload_n 0, 1) := by decide +kernel
theorem dX12_nextOrder_42 : decode cX12_nextOrder 42 = .ok (.getfield 342, 3) := by decide +kernel
theorem dX12_nextOrder_45 : decode cX12_nextOrder 45 = .ok (.iload_n 3, 1) := by decide +kernel
theorem dX12_nextOrder_46 : decode cX12_nextOrder 46 = .ok (.iaload, 1) := by decide +kernel
theorem dX12_nextOrder_47 : decode cX12_nextOrder 47 = .ok (.aload_n 0, 1) := by decide +kernel
theorem dX12_nextOrder_48 : decode cX12_nextOrder 48 = .ok (.getfield 342, 3) := by decide +kernel
theorem dX12_nextOrder_51 : decode cX12_nextOrder 51 = .ok (.iload_n 2, 1) := by decide +kernel
theorem dX12_nextOrder_52 : decode cX12_nextOrder 52 = .ok (.iaload, 1) := by decide +kernel
theorem dX12_nextOrder_53 : decode cX12_nextOrder 53 = .ok (.if_icmp .ge 9, 3) := by decide +kernel
theorem dX12_nextOrder_56 : decode cX12_nextOrder 56 = .ok (.iinc 3 (-1), 3) := by decide +kernel
theorem dX12_nextOrder_59 : decode cX12_nextOrder 59 = .ok (.goto (-18), 3) := by decide +kernel
theorem dX12_nextOrder_62 : decode cX12_nextOrder 62 = .ok (.aload_n 0, 1) := by decide +kernel
theorem dX12_nextOrder_63 : decode cX12_nextOrder 63 = .ok (.getfield 342, 3) := by decide +kernel
theorem dX12_nextOrder_66 : decode cX12_nextOrder 66 = .ok (.iload_n 2, 1) := by decide +kernel
theorem dX12_nextOrder_67 : decode cX12_nextOrder 67 = .ok (.iaload, 1) := by decide +kernel
theorem dX12_nextOrder_68 : decode cX12_nextOrder 68 = .ok (.istore 4, 2) := by decide +kernel
theorem dX12_nextOrder_70 : decode cX12_nextOrder 70 = .ok (.aload_n 0, 1) := by decide +kernel
theorem dX12_nextOrder_71 : decode cX12_nextOrder 71 = .ok (.getfield 342, 3) := by decide +kernel
theorem dX12_nextOrder_74 : decode cX12_nextOrder 74 = .ok (.iload_n 2, 1) := by decide +kernel
theorem dX12_nextOrder_75 : decode cX12_nextOrder 75 = .ok (.aload_n 0, 1) := by decide +kernel
theorem dX12_nextOrder_76 : decode cX12_nextOrder 76 = .ok (.getfield 342, 3) := by decide +kernel
theorem dX12_nextOrder_79 : decode cX12_nextOrder 79 = .ok (.iload_n 3, 1) := by decide +kernel
theorem dX12_nextOrder_80 : decode cX12_nextOrder 80 = .ok (.iaload, 1) := by decide +kernel
theorem dX12_nextOrder_81 : decode cX12_nextOrder 81 = .ok (.iastore, 1) := by decide +kernel
theorem dX12_nextOrder_82 : decode cX12_nextOrder 82 = .ok (.aload_n 0, 1) := by decide +kernel
theorem dX12_nextOrder_83 : decode cX12_nextOrder 83 = .ok (.getfield 342, 3) := by decide +kernel
theorem dX12_nextOrder_86 : decode cX12_nextOrder 86 = .ok (.iload_n 3, 1) := by decide +kernel
theorem dX12_nextOrder_87 : decode cX12_nextOrder 87 = .ok (.iload 4, 2) := by decide +kernel
theorem dX12_nextOrder_89 : decode cX12_nextOrder 89 = .ok (.iastore, 1) := by decide +kernel
theorem dX12_nextOrder_90 : decode cX12_nextOrder 90 = .ok (.iload_n 2, 1) := by decide +kernel
theorem dX12_nextOrder_91 : decode cX12_nextOrder 91 = .ok (.iconst 1, 1) := by decide +kernel
theorem dX12_nextOrder_92 : decode cX12_nextOrder 92 = .ok (.iadd, 1) := by decide +kernel
theorem dX12_nextOrder_93 : decode cX12_nextOrder 93 = .ok (.istore 5, 2) := by decide +kernel
theorem dX12_nextOrder_95 : decode cX12_nextOrder 95 = .ok (.iload_n 1, 1) := by decide +kernel
theorem dX12_nextOrder_96 : decode cX12_nextOrder 96 = .ok (.iconst 1, 1) := by decide +kernel
theorem dX12_nextOrder_97 : decode cX12_nextOrder 97 = .ok (.isub, 1) := by decide +kernel
theorem dX12_nextOrder_98 : decode cX12_nextOrder 98 = .ok (.istore 6, 2) := by decide +kernel
theorem dX12_nextOrder_100 : decode cX12_nextOrder 100 = .ok (.iload 5, 2) := by decide +kernel
theorem dX12_nextOrder_102 : decode cX12_nextOrder 102 = .ok (.iload 6, 2) := by decide +kernel
theorem dX12_nextOrder_104 : decode cX12_nextOrder 104 = .ok (.if_icmp .ge 44, 3) := by decide +kernel
theorem dX12_nextOrder_107 : decode cX12_nextOrder 107 = .ok (.aload_n 0, 1) := by decide +kernel
theorem dX12_nextOrder_108 : decode cX12_nextOrder 108 = .ok (.getfield 342, 3) := by decide +kernel
theorem dX12_nextOrder_111 : decode cX12_nextOrder 111 = .ok (.iload 5, 2) := by decide +kernel
theorem dX12_nextOrder_113 : decode cX12_nextOrder 113 = .ok (.iaload, 1) := by decide +kernel
theorem dX12_nextOrder_114 : decode cX12_nextOrder 114 = .ok (.istore 4, 2) := by decide +kernel
theorem dX12_nextOrder_116 : decode cX12_nextOrder 116 = .ok (.aload_n 0, 1) := by decide +kernel
theorem dX12_nextOrder_117 : decode cX12_nextOrder 117 = .ok (.getfield 342, 3) := by decide +kernel
theorem dX12_nextOrder_120 : decode cX12_nextOrder 120 = .ok (.iload 5, 2) := by decide +kernel
theorem dX12_nextOrder_122 : decode cX12_nextOrder 122 = .ok (.aload_n 0, 1) := by decide +kernel
theorem dX12_nextOrder_123 : decode cX12_nextOrder 123 = .ok (.getfield 342, 3) := by decide +kernel
theorem dX12_nextOrder_126 : decode cX12_nextOrder 126 = .ok (.iload 6, 2) := by decide +kernel
theorem dX12_nextOrder_128 : decode cX12_nextOrder 128 = .ok (.iaload, 1) := by decide +kernel
theorem dX12_nextOrder_129 : decode cX12_nextOrder 129 = .ok (.iastore, 1) := by decide +kernel
theorem dX12_nextOrder_130 : decode cX12_nextOrder 130 = .ok (.aload_n 0, 1) := by decide +kernel
theorem dX12_nextOrder_131 : decode cX12_nextOrder 131 = .ok (.getfield 342, 3) := by decide +kernel
theorem dX12_nextOrder_134 : decode cX12_nextOrder 134 = .ok (.iload 6, 2) := by decide +kernel
theorem dX12_nextOrder_136 : decode cX12_nextOrder 136 = .ok (.iload 4, 2) := by decide +kernel
theorem dX12_nextOrder_138 : decode cX12_nextOrder 138 = .ok (.iastore, 1) := by decide +kernel
theorem dX12_nextOrder_139 : decode cX12_nextOrder 139 = .ok (.iinc 5 1, 3) := by decide +kernel
theorem dX12_nextOrder_142 : decode cX12_nextOrder 142 = .ok (.iinc 6 (-1), 3) := by decide +kernel
theorem dX12_nextOrder_145 : decode cX12_nextOrder 145 = .ok (.goto (-45), 3) := by decide +kernel
theorem dX12_nextOrder_148 : decode cX12_nextOrder 148 = .ok (.iconst 1, 1) := by decide +kernel
theorem dX12_nextOrder_149 : decode cX12_nextOrder 149 = .ok (.ireturn, 1) := by decide +kernel
def wsPX12_nextOrder : List Cond := .code yX12_nextOrder cX12_nextOrder 7 (some .boolean) :: ([.fieldLink RX12 342 "OptimaWorksModel" "order" "[I"] ++ wsX120)
theorem iwsPX12_nextOrder_in12 : ∀ w ∈ wsX120, w ∈ wsPX12_nextOrder := fun _ h => List.mem_cons_of_mem _ (List.mem_append_right _ h)
set_option maxHeartbeats 4000000 in
set_option maxRecDepth 100000 in
/-- nextOrder(n) -/
theorem p_X12_nextOrder (l : Launch) (dC : Nat → ClassId) (dI : Nat → Nat → Nat) (h0 : Nat) (v : Nat → Value) (b_order : Nat) (h_order : v 161 = .ref b_order) (k_order : ClassId) (Kn : Nat) (fo : Nat → Int32) (hK2 : 2 ≤ Kn) (hK8 : Kn ≤ 8) (hBo : Bo fo) (hIo : Io Kn fo) (sz : Nat) : Met l yX12_nextOrder wsPX12_nextOrder ({ frames := 0, cells := 0, slots := 0, locals := 0 }) (va_Pc [.ref h0, .int (nI Kn)] (fun U => U.heap.size = sz ∧ va_P (dC, dI) vwCl [(h0, .inr (12, fM v)), (b_order, .inl (k_order, 8, .inl fo))] U.heap ∧ va_K (dC, dI) vwCl [(k_order, .int)] U ∧ va_D (fun _ => True) [(h0, .inr (12, fM v)), (b_order, .inl (k_order, 8, .inl fo))])) (va_Qi (fun (r : Int32) (u : Nat → Int32) => (r = 0) ∨ (r = 1 ∧ (Bo u) ∧ (Io Kn u) ∧ (∃ k0, k0 < 8 ∧ (∀ i, i < k0 → u i = fo i) ∧ (fo k0).toInt < (u k0).toInt))) (fun (u : Nat → Int32) t => va_P (dC, dI) vwCl [(h0, .inr (12, fM v)), (b_order, .inl (k_order, 8, .inl u))] t.heap ∧ va_K (dC, dI) vwCl [] t ∧ va_D (va_A [(h0, .inr (12, fM v)), (b_order, .inl (k_order, 8, .inl fo))] sz) [(h0, .inr (12, fM v)), (b_order, .inl (k_order, 8, .inl u))]) (va_A [(h0, .inr (12, fM v)), (b_order, .inl (k_order, 8, .inl fo))] sz)) 0 0 (va_A [(h0, .inr (12, fM v)), (b_order, .inl (k_order, 8, .inl fo))] sz) := by
  refine Met.ofW (cc := cX12_nextOrder) (maxL := 7) (ret := (some .boolean)) (by decide) rfl ?_
  intro p e s m args below meth c s₁ B hml hv
  obtain ⟨rfl, hsz, hP, hK, hD0⟩ := hv
  have hx := B.exec
  have hb := B.bytes
  have hr := B.returns
  have hts := atoms_spec (ws := wsPX12_nextOrder) B.pre
  have hown : s.vm.findClass RX12 = some m.cls := findClass_of_methodNamed B.named
  have hlocks := B.notSynchronized
  subst hsz
  have hD := hD0.self (sz := s.heap.size)
  generalize hAe : va_A [(h0, .inr (12, fM v)), (b_order, .inl (k_order, 8, .inl fo))] s.heap.size = A at hD ⊢
  have hA : ∀ q : Nat, s.heap.size ≤ q → A q := fun q h => by rw [← hAe]; exact Or.inr h
  have hS : va_S A s.heap s.heap [] := va_S.rf
  have hP : va_P (dC, dI) vwCl [(h0, .inr (12, fM v)), (b_order, .inl (k_order, 8, .inl fo))] s.heap := hP
  have hl := lv_entry ([.ref h0, .int (nI Kn)]) (n := 7) (Nat.le_of_ble_eq_true rfl)
  rw [lg_entry_eq]
  generalize (lg_sl ([.ref h0, .int (nI Kn)]) ++ List.replicate (7 - (lg_sl ([.ref h0, .int (nI Kn)])).length) Slot.unset).toArray = ls at hl ⊢
  have hl : lv_has ls 7 [(0, .ref h0), (1, .int (nI Kn))] := hl
  refine lv_iload_n hx hb dX12_nextOrder_0 rfl (lv_at hl 1 rfl) ?_
  refine lv_iconst (v := 2) hx hb dX12_nextOrder_1 (by decide) ?_
  refine lv_isub hx hb dX12_nextOrder_2 ?_
  refine lv_topi (fun y1 hy1 => ?_)
  obtain rfl : (nI (Kn - 2)) = y1 := (hy1.trans (pk_sub (a := Kn) (b := 2) (by omega))).symm
  refine lv_istore_n (lv' := [(2, .int (nI (Kn - 2))), (0, .ref h0), (1, .int (nI Kn))]) hx hb dX12_nextOrder_3 rfl hl (by decide) rfl (fun ls hl => ?_)
  have hl := lv_sub hl [0, 1, 2] (l' := [(2, .int (nI (Kn - 2))), (0, .ref h0), (1, .int (nI Kn))]) rfl
  refine (fun (loop : ∀ (n9 : Nat) (k1 : Nat) (H : Heap) (locs : List Loc) (ls : Array Slot), (k1 + 2 ≤ Kn) →  (k1 < n9) → va_P (dC, dI) vwCl [(h0, .inr (12, fM v)), (b_order, .inl (k_order, 8, .inl fo))] H → va_D A [(h0, .inr (12, fM v)), (b_order, .inl (k_order, 8, .inl fo))] → va_S A s.heap H locs → lv_has ls 7 [(2, .int (nI k1)), (0, .ref h0), (1, .int (nI Kn))] → W p l e _ s m _ below meth c H locs 0 0 _ (F0 m 4 ls [])) => loop (9) (Kn - 2) _ _ _ (by omega) (by omega) hP hD hS hl) ?_
  intro n9
  induction n9 with
  | zero => intro k1 H locs ls hk1 hf9; exact False.elim (by omega)
  | succ n9 ih4 =>
    intro k1 H locs ls hk1 hf4 hP hD hS hl
    refine lv_iload_n hx hb dX12_nextOrder_4 rfl (lv_at hl 0 rfl) ?_
    refine lv_if_le (tgt := 31) hx hb dX12_nextOrder_5 (by decide) (fun c_5 => ?_) (fun c_5 => ?_)
    · have t_5 : ((k1 : Nat) : Int) ≤ 0 := toI_le c_5 (nI_toInt (by omega)) (by decide)
      refine lv_iload_n hx hb dX12_nextOrder_31 rfl (lv_at hl 0 rfl) ?_
      refine lv_if_gt (tgt := 37) hx hb dX12_nextOrder_32 (by decide) (fun c9 => False.elim (by have t9 : ((k1 : Nat) : Int) > 0 := toI_gt c9 (nI_toInt (by omega)) (by decide); omega)) (fun c_32 => ?_)
      have t_32 : ¬ ((k1 : Nat) : Int) > 0 := toI_ngt c_32 (nI_toInt (by omega)) (by decide)
      refine lv_iconst (v := 0) hx hb dX12_nextOrder_35 (by decide) ?_
      refine W.widen (k := 0) (n := 0) (by decide +kernel) (by decide +kernel) ?_
      exact W.zret (v := 0) hx hb hr rfl (fun t ht hW => ⟨⟨0, fo, rfl, Or.inl rfl, by rw [ht]; exact hP.sub [0, 1] rfl, va_K.moved hW.alike (hK.sub [] rfl), hD.sub [0, 1] (by decide) rfl⟩, hS.F ht⟩) hS.2.2 dX12_nextOrder_36
    · have t_5 : ¬ ((k1 : Nat) : Int) ≤ 0 := toI_nle c_5 (nI_toInt (by omega)) (by decide)
      refine lv_aload_n hx hb dX12_nextOrder_8 rfl (lv_at hl 1 rfl) ?_
      refine va_get (D := (dC, dI)) (ci := 12) (v := .ref b_order) (C := RX12) (T := TX12) (N := 163) hx hb hts iwsPX12_nextOrder_in12 hown hK hP 0 rfl rfl 161 (by decide) (hts (.fieldLink RX12 342 "OptimaWorksModel" "order" "[I") (by decide +kernel)) (fun _ h9 => h9) (congrArg some h_order) dX12_nextOrder_9 ?_
      refine lv_iload_n hx hb dX12_nextOrder_12 rfl (lv_at hl 0 rfl) ?_
      refine va_iald hx hb hK hP 1 0 rfl rfl (vp_in_nI (show k1 < 8 by omega) (by omega)) dX12_nextOrder_13 ?_
      refine lv_topi (fun y2 hy2 => ?_)
      obtain rfl : (fo k1) = y2 := (hy2.trans (by rw [nI_clamp (by omega)])).symm
      refine lv_aload_n hx hb dX12_nextOrder_14 rfl (lv_at hl 1 rfl) ?_
      refine va_get (D := (dC, dI)) (ci := 12) (v := .ref b_order) (C := RX12) (T := TX12) (N := 163) hx hb hts iwsPX12_nextOrder_in12 hown hK hP 0 rfl rfl 161 (by decide) (hts (.fieldLink RX12 342 "OptimaWorksModel" "order" "[I") (by decide +kernel)) (fun _ h9 => h9) (congrArg some h_order) dX12_nextOrder_15 ?_
      refine lv_iload_n hx hb dX12_nextOrder_18 rfl (lv_at hl 0 rfl) ?_
      refine lv_iconst (v := 1) hx hb dX12_nextOrder_19 (by decide) ?_
      refine lv_iadd hx hb dX12_nextOrder_20 ?_
      refine lv_topi (fun y3 hy3 => ?_)
      obtain rfl : (nI (k1 + 1)) = y3 := (hy3.trans (nI_add k1 1)).symm
      refine va_iald hx hb hK hP 1 0 rfl rfl (vp_in_nI (show (k1 + 1) < 8 by omega) (by omega)) dX12_nextOrder_21 ?_
      refine lv_topi (fun y4 hy4 => ?_)
      obtain rfl : (fo (k1 + 1)) = y4 := (hy4.trans (by rw [nI_clamp (by omega)])).symm
      refine lv_icmp_le (tgt := 31) hx hb dX12_nextOrder_22 (by decide) (fun c_22 => ?_) (fun c_22 => ?_)
      · have t_22 : ((fo k1)).toInt ≤ ((fo (k1 + 1))).toInt := toI_le c_22 rfl rfl
        refine lv_iload_n hx hb dX12_nextOrder_31 rfl (lv_at hl 0 rfl) ?_
        refine lv_if_gt (tgt := 37) hx hb dX12_nextOrder_32 (by decide) (fun c_32 => ?_) (fun c9 => False.elim (by have t9 : ¬ ((k1 : Nat) : Int) > 0 := toI_ngt c9 (nI_toInt (by omega)) (by decide); omega))
        have t_32 : ((k1 : Nat) : Int) > 0 := toI_gt c_32 (nI_toInt (by omega)) (by decide)
        refine lv_iload_n hx hb dX12_nextOrder_37 rfl (lv_at hl 2 rfl) ?_
        refine lv_iconst (v := 1) hx hb dX12_nextOrder_38 (by decide) ?_
        refine lv_isub hx hb dX12_nextOrder_39 ?_
        refine lv_topi (fun y5 hy5 => ?_)
        obtain rfl : (nI (Kn - 1)) = y5 := (hy5.trans (pk_sub (a := Kn) (b := 1) (by omega))).symm
        refine lv_istore_n (lv' := [(3, .int (nI (Kn - 1))), (2, .int (nI k1)), (0, .ref h0), (1, .int (nI Kn))]) hx hb dX12_nextOrder_40 rfl hl (by decide) rfl (fun ls hl => ?_)
        have hl := lv_sub hl [0, 1, 2, 3] (l' := [(3, .int (nI (Kn - 1))), (2, .int (nI k1)), (0, .ref h0), (1, .int (nI Kn))]) rfl
        refine (fun (loop : ∀ (n9 : Nat) (j1 : Nat) (H : Heap) (locs : List Loc) (ls : Array Slot), (k1 + 1 ≤ j1 ∧ j1 < Kn) →  (j1 < n9) → va_P (dC, dI) vwCl [(h0, .inr (12, fM v)), (b_order, .inl (k_order, 8, .inl fo))] H → va_D A [(h0, .inr (12, fM v)), (b_order, .inl (k_order, 8, .inl fo))] → va_S A s.heap H locs → lv_has ls 7 [(3, .int (nI j1)), (2, .int (nI k1)), (0, .ref h0), (1, .int (nI Kn))] → W p l e _ s m _ below meth c H locs 0 0 _ (F0 m 41 ls [])) => loop (9) (Kn - 1) _ _ _ (by omega) (by omega) hP hD hS hl) ?_
        intro n9
        induction n9 with
        | zero => intro j1 H locs ls hj1 hf9; exact False.elim (by omega)
        | succ n9 ih41_1 =>
          intro j1 H locs ls hj1 hf41_1 hP hD hS hl
          refine lv_aload_n hx hb dX12_nextOrder_41 rfl (lv_at hl 2 rfl) ?_
          refine va_get (D := (dC, dI)) (ci := 12) (v := .ref b_order) (C := RX12) (T := TX12) (N := 163) hx hb hts iwsPX12_nextOrder_in12 hown hK hP 0 rfl rfl 161 (by decide) (hts (.fieldLink RX12 342 "OptimaWorksModel" "order" "[I") (by decide +kernel)) (fun _ h9 => h9) (congrArg some h_order) dX12_nextOrder_42 ?_
          refine lv_iload_n hx hb dX12_nextOrder_45 rfl (lv_at hl 0 rfl) ?_
          refine va_iald hx hb hK hP 1 0 rfl rfl (vp_in_nI (show j1 < 8 by omega) (by omega)) dX12_nextOrder_46 ?_
          refine lv_topi (fun y6 hy6 => ?_)
          obtain rfl : (fo j1) = y6 := (hy6.trans (by rw [nI_clamp (by omega)])).symm
          refine lv_aload_n hx hb dX12_nextOrder_47 rfl (lv_at hl 2 rfl) ?_
          refine va_get (D := (dC, dI)) (ci := 12) (v := .ref b_order) (C := RX12) (T := TX12) (N := 163) hx hb hts iwsPX12_nextOrder_in12 hown hK hP 0 rfl rfl 161 (by decide) (hts (.fieldLink RX12 342 "OptimaWorksModel" "order" "[I") (by decide +kernel)) (fun _ h9 => h9) (congrArg some h_order) dX12_nextOrder_48 ?_
          refine lv_iload_n hx hb dX12_nextOrder_51 rfl (lv_at hl 1 rfl) ?_
          refine va_iald hx hb hK hP 1 0 rfl rfl (vp_in_nI (show k1 < 8 by omega) (by omega)) dX12_nextOrder_52 ?_
          refine lv_topi (fun y7 hy7 => ?_)
          obtain rfl : (fo k1) = y7 := (hy7.trans (by rw [nI_clamp (by omega)])).symm
          refine lv_icmp_ge (tgt := 62) hx hb dX12_nextOrder_53 (by decide) (fun c_53 => ?_) (fun c_53 => ?_)
          · have t_53 : ((fo j1)).toInt ≥ ((fo k1)).toInt := toI_ge c_53 rfl rfl
            refine lv_aload_n hx hb dX12_nextOrder_62 rfl (lv_at hl 2 rfl) ?_
            refine va_get (D := (dC, dI)) (ci := 12) (v := .ref b_order) (C := RX12) (T := TX12) (N := 163) hx hb hts iwsPX12_nextOrder_in12 hown hK hP 0 rfl rfl 161 (by decide) (hts (.fieldLink RX12 342 "OptimaWorksModel" "order" "[I") (by decide +kernel)) (fun _ h9 => h9) (congrArg some h_order) dX12_nextOrder_63 ?_
            refine lv_iload_n hx hb dX12_nextOrder_66 rfl (lv_at hl 1 rfl) ?_
            refine va_iald hx hb hK hP 1 0 rfl rfl (vp_in_nI (show k1 < 8 by omega) (by omega)) dX12_nextOrder_67 ?_
            refine lv_topi (fun y8 hy8 => ?_)
            obtain rfl : (fo k1) = y8 := (hy8.trans (by rw [nI_clamp (by omega)])).symm
            refine lv_istore (lv' := [(4, .int (fo k1)), (3, .int (nI j1)), (2, .int (nI k1)), (0, .ref h0), (1, .int (nI Kn))]) hx hb dX12_nextOrder_68 hl (by decide) rfl (fun ls hl => ?_)
            refine lv_aload_n hx hb dX12_nextOrder_70 rfl (lv_at hl 3 rfl) ?_
            refine va_get (D := (dC, dI)) (ci := 12) (v := .ref b_order) (C := RX12) (T := TX12) (N := 163) hx hb hts iwsPX12_nextOrder_in12 hown hK hP 0 rfl rfl 161 (by decide) (hts (.fieldLink RX12 342 "OptimaWorksModel" "order" "[I") (by decide +kernel)) (fun _ h9 => h9) (congrArg some h_order) dX12_nextOrder_71 ?_
            refine lv_iload_n hx hb dX12_nextOrder_74 rfl (lv_at hl 2 rfl) ?_
            refine lv_aload_n hx hb dX12_nextOrder_75 rfl (lv_at hl 3 rfl) ?_
            refine va_get (D := (dC, dI)) (ci := 12) (v := .ref b_order) (C := RX12) (T := TX12) (N := 163) hx hb hts iwsPX12_nextOrder_in12 hown hK hP 0 rfl rfl 161 (by decide) (hts (.fieldLink RX12 342 "OptimaWorksModel" "order" "[I") (by decide +kernel)) (fun _ h9 => h9) (congrArg some h_order) dX12_nextOrder_76 ?_
            refine lv_iload_n hx hb dX12_nextOrder_79 rfl (lv_at hl 1 rfl) ?_
            refine va_iald hx hb hK hP 1 0 rfl rfl (vp_in_nI (show j1 < 8 by omega) (by omega)) dX12_nextOrder_80 ?_
            refine lv_topi (fun y9 hy9 => ?_)
            obtain rfl : (fo j1) = y9 := (hy9.trans (by rw [nI_clamp (by omega)])).symm
            refine va_iast hx hb hK hP hD hS 1 0 rfl rfl (vp_in_nI (show k1 < 8 by omega) (by omega)) dX12_nextOrder_81 (fun H locs hP hD hS => ?_)
            have hP : va_P (dC, dI) vwCl [(h0, .inr (12, fM v)), (b_order, .inl (k_order, 8, .inl (upd fo ((nI k1)).toNatClampNeg (fo j1))))] H := hP
            have hD : va_D A [(h0, .inr (12, fM v)), (b_order, .inl (k_order, 8, .inl (upd fo ((nI k1)).toNatClampNeg (fo j1))))] := hD
            refine lv_aload_n hx hb dX12_nextOrder_82 rfl (lv_at hl 3 rfl) ?_
            refine va_get (D := (dC, dI)) (ci := 12) (v := .ref b_order) (C := RX12) (T := TX12) (N := 163) hx hb hts iwsPX12_nextOrder_in12 hown hK hP 0 rfl rfl 161 (by decide) (hts (.fieldLink RX12 342 "OptimaWorksModel" "order" "[I") (by decide +kernel)) (fun _ h9 => h9) (congrArg some h_order) dX12_nextOrder_83 ?_
            refine lv_iload_n hx hb dX12_nextOrder_86 rfl (lv_at hl 1 rfl) ?_
            refine lv_iload hx hb dX12_nextOrder_87 (lv_at hl 0 rfl) ?_
            refine va_iast hx hb hK hP hD hS 1 0 rfl rfl (vp_in_nI (show j1 < 8 by omega) (by omega)) dX12_nextOrder_89 (fun H locs hP hD hS => ?_)
            have hP : va_P (dC, dI) vwCl [(h0, .inr (12, fM v)), (b_order, .inl (k_order, 8, .inl (upd (upd fo ((nI k1)).toNatClampNeg (fo j1)) ((nI j1)).toNatClampNeg (fo k1))))] H := hP
            have hD : va_D A [(h0, .inr (12, fM v)), (b_order, .inl (k_order, 8, .inl (upd (upd fo ((nI k1)).toNatClampNeg (fo j1)) ((nI j1)).toNatClampNeg (fo k1))))] := hD
            refine lv_iload_n hx hb dX12_nextOrder_90 rfl (lv_at hl 2 rfl) ?_
            refine lv_iconst (v := 1) hx hb dX12_nextOrder_91 (by decide) ?_
            refine lv_iadd hx hb dX12_nextOrder_92 ?_
            refine lv_topi (fun y10 hy10 => ?_)
            obtain rfl : (nI (k1 + 1)) = y10 := (hy10.trans (nI_add k1 1)).symm
            refine lv_istore (lv' := [(5, .int (nI (k1 + 1))), (4, .int (fo k1)), (3, .int (nI j1)), (2, .int (nI k1)), (0, .ref h0), (1, .int (nI Kn))]) hx hb dX12_nextOrder_93 hl (by decide) rfl (fun ls hl => ?_)
            refine lv_iload_n hx hb dX12_nextOrder_95 rfl (lv_at hl 5 rfl) ?_
            refine lv_iconst (v := 1) hx hb dX12_nextOrder_96 (by decide) ?_
            refine lv_isub hx hb dX12_nextOrder_97 ?_
            refine lv_topi (fun y11 hy11 => ?_)
            obtain rfl : (nI (Kn - 1)) = y11 := (hy11.trans (pk_sub (a := Kn) (b := 1) (by omega))).symm
            refine lv_istore (lv' := [(6, .int (nI (Kn - 1))), (5, .int (nI (k1 + 1))), (4, .int (fo k1)), (3, .int (nI j1)), (2, .int (nI k1)), (0, .ref h0), (1, .int (nI Kn))]) hx hb dX12_nextOrder_98 hl (by decide) rfl (fun ls hl => ?_)
            have hl := lv_sub hl [1, 0, 5, 6] (l' := [(5, .int (nI (k1 + 1))), (6, .int (nI (Kn - 1))), (0, .ref h0), (1, .int (nI Kn))]) rfl
            refine (fun (loop : ∀ (n9 : Nat) (a1 : Nat) (b1 : Nat) (g : Nat → Int32) (H : Heap) (locs : List Loc) (ls : Array Slot), (k1 < a1 ∧ a1 ≤ 16 ∧ b1 < Kn) → (Bo g) → (Io Kn g) → ((∀ i, i < k1 → g i = fo i) ∧ (fo k1).toInt < (g k1).toInt) →  (b1 + 1 < n9 + 1) → va_P (dC, dI) vwCl [(h0, .inr (12, fM v)), (b_order, .inl (k_order, 8, .inl g))] H → va_D A [(h0, .inr (12, fM v)), (b_order, .inl (k_order, 8, .inl g))] → va_S A s.heap H locs → lv_has ls 7 [(5, .int (nI a1)), (6, .int (nI b1)), (0, .ref h0), (1, .int (nI Kn))] → W p l e _ s m _ below meth c H locs 0 0 _ (F0 m 100 ls [])) => loop (9) (k1 + 1) (Kn - 1) (upd (upd fo ((nI k1)).toNatClampNeg (fo j1)) ((nI j1)).toNatClampNeg (fo k1)) _ _ _ (by omega) (sw_B (by omega) (by omega) hBo) (sw_I (by omega) (by omega) (by omega) hIo) (⟨fun i9 h9 => by rw [sw_at (by omega) (by omega), if_neg (by omega), if_neg (by omega)], by rw [sw_at (by omega) (by omega), if_neg (by omega), if_pos rfl]; exact ne_lt hIo (by omega) (by omega) (by omega) (by omega)⟩) (by omega) hP hD hS hl) ?_
            intro n9
            induction n9 with
            | zero => intro a1 b1 g H locs ls ha1 hB2 hI2 hp2 hf9; exact False.elim (by omega)
            | succ n9 ih100_2 =>
              intro a1 b1 g H locs ls ha1 hB2 hI2 hp2 hf100_2 hP hD hS hl
              refine lv_iload hx hb dX12_nextOrder_100 (lv_at hl 0 rfl) ?_
              refine lv_iload hx hb dX12_nextOrder_102 (lv_at hl 1 rfl) ?_
              refine lv_icmp_ge (tgt := 148) hx hb dX12_nextOrder_104 (by decide) (fun c_104 => ?_) (fun c_104 => ?_)
              · have t_104 : ((a1 : Nat) : Int) ≥ ((b1 : Nat) : Int) := toI_ge c_104 (nI_toInt (by omega)) (nI_toInt (by omega))
                refine lv_iconst (v := 1) hx hb dX12_nextOrder_148 (by decide) ?_
                refine W.widen (k := 0) (n := 0) (by decide +kernel) (by decide +kernel) ?_
                exact W.zret (v := 1) hx hb hr rfl (fun t ht hW => ⟨⟨1, g, rfl, Or.inr ⟨rfl, hB2, hI2, k1, by omega, hp2.1, hp2.2⟩, by rw [ht]; exact hP.sub [0, 1] rfl, va_K.moved hW.alike (hK.sub [] rfl), hD.sub [0, 1] (by decide) rfl⟩, hS.F ht⟩) hS.2.2 dX12_nextOrder_149
              · have t_104 : ¬ ((a1 : Nat) : Int) ≥ ((b1 : Nat) : Int) := toI_nge c_104 (nI_toInt (by omega)) (nI_toInt (by omega))
                refine lv_aload_n hx hb dX12_nextOrder_107 rfl (lv_at hl 2 rfl) ?_
                refine va_get (D := (dC, dI)) (ci := 12) (v := .ref b_order) (C := RX12) (T := TX12) (N := 163) hx hb hts iwsPX12_nextOrder_in12 hown hK hP 0 rfl rfl 161 (by decide) (hts (.fieldLink RX12 342 "OptimaWorksModel" "order" "[I") (by decide +kernel)) (fun _ h9 => h9) (congrArg some h_order) dX12_nextOrder_108 ?_
                refine lv_iload hx hb dX12_nextOrder_111 (lv_at hl 0 rfl) ?_
                refine va_iald hx hb hK hP 1 0 rfl rfl (vp_in_nI (show a1 < 8 by omega) (by omega)) dX12_nextOrder_113 ?_
                refine lv_topi (fun y12 hy12 => ?_)
                obtain rfl : (g a1) = y12 := (hy12.trans (by rw [nI_clamp (by omega)])).symm
                refine lv_istore (lv' := [(4, .int (g a1)), (5, .int (nI a1)), (6, .int (nI b1)), (0, .ref h0), (1, .int (nI Kn))]) hx hb dX12_nextOrder_114 hl (by decide) rfl (fun ls hl => ?_)
                refine lv_aload_n hx hb dX12_nextOrder_116 rfl (lv_at hl 3 rfl) ?_
                refine va_get (D := (dC, dI)) (ci := 12) (v := .ref b_order) (C := RX12) (T := TX12) (N := 163) hx hb hts iwsPX12_nextOrder_in12 hown hK hP 0 rfl rfl 161 (by decide) (hts (.fieldLink RX12 342 "OptimaWorksModel" "order" "[I") (by decide +kernel)) (fun _ h9 => h9) (congrArg some h_order) dX12_nextOrder_117 ?_
                refine lv_iload hx hb dX12_nextOrder_120 (lv_at hl 1 rfl) ?_
                refine lv_aload_n hx hb dX12_nextOrder_122 rfl (lv_at hl 3 rfl) ?_
                refine va_get (D := (dC, dI)) (ci := 12) (v := .ref b_order) (C := RX12) (T := TX12) (N := 163) hx hb hts iwsPX12_nextOrder_in12 hown hK hP 0 rfl rfl 161 (by decide) (hts (.fieldLink RX12 342 "OptimaWorksModel" "order" "[I") (by decide +kernel)) (fun _ h9 => h9) (congrArg some h_order) dX12_nextOrder_123 ?_
                refine lv_iload hx hb dX12_nextOrder_126 (lv_at hl 2 rfl) ?_
                refine va_iald hx hb hK hP 1 0 rfl rfl (vp_in_nI (show b1 < 8 by omega) (by omega)) dX12_nextOrder_128 ?_
                refine lv_topi (fun y13 hy13 => ?_)
                obtain rfl : (g b1) = y13 := (hy13.trans (by rw [nI_clamp (by omega)])).symm
                refine va_iast hx hb hK hP hD hS 1 0 rfl rfl (vp_in_nI (show a1 < 8 by omega) (by omega)) dX12_nextOrder_129 (fun H locs hP hD hS => ?_)
                have hP : va_P (dC, dI) vwCl [(h0, .inr (12, fM v)), (b_order, .inl (k_order, 8, .inl (upd g ((nI a1)).toNatClampNeg (g b1))))] H := hP
                have hD : va_D A [(h0, .inr (12, fM v)), (b_order, .inl (k_order, 8, .inl (upd g ((nI a1)).toNatClampNeg (g b1))))] := hD
                refine lv_aload_n hx hb dX12_nextOrder_130 rfl (lv_at hl 3 rfl) ?_
                refine va_get (D := (dC, dI)) (ci := 12) (v := .ref b_order) (C := RX12) (T := TX12) (N := 163) hx hb hts iwsPX12_nextOrder_in12 hown hK hP 0 rfl rfl 161 (by decide) (hts (.fieldLink RX12 342 "OptimaWorksModel" "order" "[I") (by decide +kernel)) (fun _ h9 => h9) (congrArg some h_order) dX12_nextOrder_131 ?_
                refine lv_iload hx hb dX12_nextOrder_134 (lv_at hl 2 rfl) ?_
                refine lv_iload hx hb dX12_nextOrder_136 (lv_at hl 0 rfl) ?_
                refine va_iast hx hb hK hP hD hS 1 0 rfl rfl (vp_in_nI (show b1 < 8 by omega) (by omega)) dX12_nextOrder_138 (fun H locs hP hD hS => ?_)
                have hP : va_P (dC, dI) vwCl [(h0, .inr (12, fM v)), (b_order, .inl (k_order, 8, .inl (upd (upd g ((nI a1)).toNatClampNeg (g b1)) ((nI b1)).toNatClampNeg (g a1))))] H := hP
                have hD : va_D A [(h0, .inr (12, fM v)), (b_order, .inl (k_order, 8, .inl (upd (upd g ((nI a1)).toNatClampNeg (g b1)) ((nI b1)).toNatClampNeg (g a1))))] := hD
                refine lv_iinc (v := (nI (a1 + 1))) (lv' := [(5, .int (nI (a1 + 1))), (4, .int (g a1)), (6, .int (nI b1)), (0, .ref h0), (1, .int (nI Kn))]) hx hb dX12_nextOrder_139 hl (k := 1) rfl (nI_add a1 1) (by decide) rfl (fun ls hl => ?_)
                refine lv_iinc (v := (nI (b1 - 1))) (lv' := [(6, .int (nI (b1 - 1))), (5, .int (nI (a1 + 1))), (4, .int (g a1)), (0, .ref h0), (1, .int (nI Kn))]) hx hb dX12_nextOrder_142 hl (k := 2) rfl (sb_m1 (by omega)) (by decide) rfl (fun ls hl => ?_)
                refine lv_goto (tgt := 100) hx hb dX12_nextOrder_145 (by decide) ?_
                have hl := lv_sub hl [1, 0, 3, 4] (l' := [(5, .int (nI (a1 + 1))), (6, .int (nI (b1 - 1))), (0, .ref h0), (1, .int (nI Kn))]) rfl
                exact ih100_2 (a1 + 1) (b1 - 1) (upd (upd g ((nI a1)).toNatClampNeg (g b1)) ((nI b1)).toNatClampNeg (g a1)) _ _ _ (by omega) (sw_B (by omega) (by omega) hB2) (sw_I (by omega) (by omega) (by omega) hI2) (⟨fun i9 h9 => by rw [sw_at (by omega) (by omega), if_neg (by omega), if_neg (by omega)]; exact hp2.1 i9 h9, by rw [sw_at (by omega) (by omega), if_neg (by omega), if_neg (by omega)]; exact hp2.2⟩) (by omega) hP hD hS hl
          · have t_53 : ¬ ((fo j1)).toInt ≥ ((fo k1)).toInt := toI_nge c_53 rfl rfl
            refine lv_iinc (v := (nI (j1 - 1))) (lv' := [(3, .int (nI (j1 - 1))), (2, .int (nI k1)), (0, .ref h0), (1, .int (nI Kn))]) hx hb dX12_nextOrder_56 hl (k := 0) rfl (sb_m1 (by omega)) (by decide) rfl (fun ls hl => ?_)
            refine lv_goto (tgt := 41) hx hb dX12_nextOrder_59 (by decide) ?_
            have hl := lv_sub hl [0, 1, 2, 3] (l' := [(3, .int (nI (j1 - 1))), (2, .int (nI k1)), (0, .ref h0), (1, .int (nI Kn))]) rfl
            exact ih41_1 (j1 - 1) _ _ _ (by rcases Nat.lt_or_ge (k1 + 1) j1 with h | h; omega; (have e9 : j1 = k1 + 1 := (by omega); subst e9; omega)) (by omega) hP hD hS hl
      · have t_22 : ¬ ((fo k1)).toInt ≤ ((fo (k1 + 1))).toInt := toI_nle c_22 rfl rfl
        refine lv_iinc (v := (nI (k1 - 1))) (lv' := [(2, .int (nI (k1 - 1))), (0, .ref h0), (1, .int (nI Kn))]) hx hb dX12_nextOrder_25 hl (k := 0) rfl (sb_m1 (by omega)) (by decide) rfl (fun ls hl => ?_)
        refine lv_goto (tgt := 4) hx hb dX12_nextOrder_28 (by decide) ?_
        have hl := lv_sub hl [0, 1, 2] (l' := [(2, .int (nI (k1 - 1))), (0, .ref h0), (1, .int (nI Kn))]) rfl
        exact ih4 (k1 - 1) _ _ _ (by omega) (by omega) hP hD hS hl
theorem dX12_tour_0 : decode cX12_tour 0 = .ok (.aload_n 0, 1) := by decide +kernel
theorem dX12_tour_1 : decode cX12_tour 1 = .ok (.iload_n 1, 1) := by decide +kernel
theorem dX12_tour_2 : decode cX12_tour 2 = .ok (.ifCond .lt 27, 3) := by decide +kernel
theorem dX12_tour_5 : decode cX12_tour 5 = .ok (.iload_n 1, 1) := by decide +kernel
theorem dX12_tour_6 : decode cX12_tour 6 = .ok (.sipush 4096, 3) := by decide +kernel
theorem dX12_tour_9 : decode cX12_tour 9 = .ok (.if_icmp .ge 20, 3) := by decide +kernel
theorem dX12_tour_12 : decode cX12_tour 12 = .ok (.iload_n 1, 1) := by decide +kernel
theorem dX12_tour_13 : decode cX12_tour 13 = .ok (.invokestatic 1040, 3) := by decide +kernel
theorem dX12_tour_16 : decode cX12_tour 16 = .ok (.iconst 2, 1) := by decide +kernel
theorem dX12_tour_17 : decode cX12_tour 17 = .ok (.if_icmp .lt 12, 3) := by decide +kernel
theorem dX12_tour_20 : decode cX12_tour 20 = .ok (.iload_n 1, 1) := by decide +kernel
theorem dX12_tour_21 : decode cX12_tour 21 = .ok (.invokestatic 1040, 3) := by decide +kernel
theorem dX12_tour_24 : decode cX12_tour 24 = .ok (.bipush 8, 2) := by decide +kernel
theorem dX12_tour_26 : decode cX12_tour 26 = .ok (.if_icmp .le 7, 3) := by decide +kernel
theorem dX12_tour_29 : decode cX12_tour 29 = .ok (.iconst 1, 1) := by decide +kernel
theorem dX12_tour_30 : decode cX12_tour 30 = .ok (.goto 4, 3) := by decide +kernel
theorem dX12_tour_33 : decode cX12_tour 33 = .ok (.iconst 0, 1) := by decide +kernel
theorem dX12_tour_34 : decode cX12_tour 34 = .ok (.putfield 348, 3) := by decide +kernel
theorem dX12_tour_37 : decode cX12_tour 37 = .ok (.aload_n 0, 1) := by decide +kernel
theorem dX12_tour_38 : decode cX12_tour 38 = .ok (.getfield 348, 3) := by decide +kernel
theorem dX12_tour_41 : decode cX12_tour 41 = .ok (.ifCond .le 5, 3) := by decide +kernel
theorem dX12_tour_44 : decode cX12_tour 44 = .ok (.iconst 0, 1) := by decide +kernel
theorem dX12_tour_45 : decode cX12_tour 45 = .ok (.ireturn, 1) := by decide +kernel
theorem dX12_tour_46 : decode cX12_tour 46 = .ok (.iconst 0, 1) := by decide +kernel
theorem dX12_tour_47 : decode cX12_tour 47 = .ok (.istore_n 3, 1) := by decide +kernel
theorem dX12_tour_48 : decode cX12_tour 48 = .ok (.iconst 0, 1) := by decide +kernel
theorem dX12_tour_49 : decode cX12_tour 49 = .ok (.istore 4, 2) := by decide +kernel
theorem dX12_tour_51 : decode cX12_tour 51 = .ok (.iload 4, 2) := by decide +kernel
theorem dX12_tour_53 : decode cX12_tour 53 = .ok (.bipush 12, 2) := by decide +kernel
theorem dX12_tour_55 : decode cX12_tour 55 = .ok (.if_icmp .ge 39, 3) := by decide +kernel
theorem dX12_tour_58 : decode cX12_tour 58 = .ok (.iload_n 1, 1) := by decide +kernel
theorem dX12_tour_59 : decode cX12_tour 59 = .ok (.iload 4, 2) := by decide +kernel
theorem dX12_tour_61 : decode cX12_tour 61 = .ok (.ishr, 1) := by decide +kernel
theorem dX12_tour_62 : decode cX12_tour 62 = .ok (.iconst 1, 1) := by decide +kernel
theorem dX12_tour_63 : decode cX12_tour 63 = .ok (.iand, 1) := by decide +kernel
theorem dX12_tour_64 : decode cX12_tour 64 = .ok (.ifCond .ne 6, 3) := by decide +kernel
theorem dX12_tour_67 : decode cX12_tour 67 = .ok (.goto 21, 3) := by decide +kernel
theorem dX12_tour_70 : decode cX12_tour 70 = .ok (.aload_n 0, 1) := by decide +kernel
theorem dX12_tour_71 : decode cX12_tour 71 = .ok (.getfield 339, 3) := by decide +kernel
theorem dX12_tour_74 : decode cX12_tour 74 = .ok (.iload_n 3, 1) := by decide +kernel
theorem dX12_tour_75 : decode cX12_tour 75 = .ok (.iload 4, 2) := by decide +kernel
theorem dX12_tour_77 : decode cX12_tour 77 = .ok (.iastore, 1) := by decide +kernel
theorem dX12_tour_78 : decode cX12_tour 78 = .ok (.aload_n 0, 1) := by decide +kernel
theorem dX12_tour_79 : decode cX12_tour 79 = .ok (.getfield 342, 3) := by decide +kernel
theorem dX12_tour_82 : decode cX12_tour 82 = .ok (.iload_n 3, 1) := by decide +kernel
theorem dX12_tour_83 : decode cX12_tour 83 = .ok (.iload_n 3, 1) := by decide +kernel
theorem dX12_tour_84 : decode cX12_tour 84 = .ok (.iastore, 1) := by decide +kernel
theorem dX12_tour_85 : decode cX12_tour 85 = .ok (.iinc 3 1, 3) := by decide +kernel
theorem dX12_tour_88 : decode cX12_tour 88 = .ok (.iinc 4 1, 3) := by decide +kernel
theorem dX12_tour_91 : decode cX12_tour 91 = .ok (.goto (-40), 3) := by decide +kernel
theorem dX12_tour_94 : decode cX12_tour 94 = .ok (.iconst (-1), 1) := by decide +kernel
theorem dX12_tour_95 : decode cX12_tour 95 = .ok (.istore 4, 2) := by decide +kernel
theorem dX12_tour_97 : decode cX12_tour 97 = .ok (.iconst 1, 1) := by decide +kernel
theorem dX12_tour_98 : decode cX12_tour 98 = .ok (.istore 5, 2) := by decide +kernel
theorem dX12_tour_100 : decode cX12_tour 100 = .ok (.iload 5, 2) := by decide +kernel
theorem dX12_tour_102 : decode cX12_tour 102 = .ok (.ifCond .eq 77, 3) := by decide +kernel
theorem dX12_tour_105 : decode cX12_tour 105 = .ok (.aload_n 0, 1) := by decide +kernel
theorem dX12_tour_106 : decode cX12_tour 106 = .ok (.iload_n 3, 1) := by decide +kernel
theorem dX12_tour_107 : decode cX12_tour 107 = .ok (.invokevirtual 1092, 3) := by decide +kernel
theorem dX12_tour_110 : decode cX12_tour 110 = .ok (.istore 6, 2) := by decide +kernel
theorem dX12_tour_112 : decode cX12_tour 112 = .ok (.iload 6, 2) := by decide +kernel
theorem dX12_tour_114 : decode cX12_tour 114 = .ok (.iconst (-1), 1) := by decide +kernel
theorem dX12_tour_115 : decode cX12_tour 115 = .ok (.if_icmp .eq 54, 3) := by decide +kernel
theorem dX12_tour_169 : decode cX12_tour 169 = .ok (.aload_n 0, 1) := by decide +kernel
theorem dX12_tour_170 : decode cX12_tour 170 = .ok (.iload_n 3, 1) := by decide +kernel
theorem dX12_tour_171 : decode cX12_tour 171 = .ok (.invokevirtual 1095, 3) := by decide +kernel
theorem dX12_tour_174 : decode cX12_tour 174 = .ok (.istore 5, 2) := by decide +kernel
theorem dX12_tour_176 : decode cX12_tour 176 = .ok (.goto (-76), 3) := by decide +kernel
theorem dX12_tour_179 : decode cX12_tour 179 = .ok (.iload_n 2, 1) := by decide +kernel
theorem dX12_tour_180 : decode cX12_tour 180 = .ok (.bipush (-2), 2) := by decide +kernel
theorem dX12_tour_182 : decode cX12_tour 182 = .ok (.if_icmp .ne 6, 3) := by decide +kernel
theorem dX12_tour_185 : decode cX12_tour 185 = .ok (.iload 4, 2) := by decide +kernel
theorem dX12_tour_187 : decode cX12_tour 187 = .ok (.ireturn, 1) := by decide +kernel
theorem dX12_tour_188 : decode cX12_tour 188 = .ok (.iload 4, 2) := by decide +kernel
theorem dX12_tour_190 : decode cX12_tour 190 = .ok (.iconst (-1), 1) := by decide +kernel
theorem dX12_tour_191 : decode cX12_tour 191 = .ok (.if_icmp .eq 12, 3) := by decide +kernel
theorem dX12_tour_203 : decode cX12_tour 203 = .ok (.iconst (-1), 1) := by decide +kernel
theorem dX12_tour_204 : decode cX12_tour 204 = .ok (.goto 9, 3) := by decide +kernel
theorem dX12_tour_213 : decode cX12_tour 213 = .ok (.ireturn, 1) := by decide +kernel
def wsPX12_tour : List Cond := .code yX12_tour cX12_tour 8 (some .int) :: ([.fieldLink RX12 348 "OptimaWorksModel" "thrown" "I", .fieldLink RX12 339 "OptimaWorksModel" "member1" "[I", .fieldLink RX12 342 "OptimaWorksModel" "order" "[I"] ++ wsX120 ++ (va_wsS RX12 1040 yX12_ones wsPX12_ones) ++ (wsV RX12 1092 RX12 yX12_tourCost wsPX12_tourCost) ++ (wsV RX12 1095 RX12 yX12_nextOrder wsPX12_nextOrder))
theorem iwsPX12_tour_in12 : ∀ w ∈ wsX120, w ∈ wsPX12_tour := fun _ h => List.mem_cons_of_mem _ (List.mem_append_left _ (List.mem_append_left _ (List.mem_append_left _ (List.mem_append_right _ h))))
theorem gwsPX12_tour_0 : GoodIn wsPX12_tour (va_wsS RX12 1040 yX12_ones wsPX12_ones) := goodIn_sub (fun _ h => List.mem_cons_of_mem _ (List.mem_append_left _ (List.mem_append_left _ (List.mem_append_right _ h)))) (by decide +kernel)
theorem gwsPX12_tour_1 : GoodIn wsPX12_tour (wsV RX12 1092 RX12 yX12_tourCost wsPX12_tourCost) := goodIn_sub (fun _ h => List.mem_cons_of_mem _ (List.mem_append_left _ (List.mem_append_right _ h))) (by decide +kernel)
theorem gwsPX12_tour_2 : GoodIn wsPX12_tour (wsV RX12 1095 RX12 yX12_nextOrder wsPX12_nextOrder) := goodIn_sub (fun _ h => List.mem_cons_of_mem _ (List.mem_append_right _ h)) (by decide +kernel)
set_option maxHeartbeats 4000000 in
set_option maxRecDepth 100000 in
/-- tour(set, i) without arcs -/
theorem p_X12_tour (l : Launch) (dC : Nat → ClassId) (dI : Nat → Nat → Nat) (h0 : Nat) (v : Nat → Value) (h_arcs : v 150 = .int 0) (b_member1 : Nat) (h_member1 : v 160 = .ref b_member1) (k_member1 : ClassId) (r_member1 : Nat → Int32) (b_order : Nat) (h_order : v 161 = .ref b_order) (k_order : ClassId) (nd : Int32) (ii : Int32) (sz : Nat) : Met l yX12_tour wsPX12_tour ({ frames := 2, cells := 0, slots := 0, locals := 48 }) (va_Pc [.ref h0, .int nd, .int ii] (fun U => U.heap.size = sz ∧ va_P (dC, dI) vwCl [(h0, .inr (12, fM v)), (b_member1, .inl (k_member1, 8, .inl r_member1)), (b_order, .inl (k_order, 8, .inl (fun _ => 0)))] U.heap ∧ va_K (dC, dI) vwCl [(k_member1, .int), (k_order, .int)] U ∧ va_D (fun _ => True) [(h0, .inr (12, fM v)), (b_member1, .inl (k_member1, 8, .inl r_member1)), (b_order, .inl (k_order, 8, .inl (fun _ => 0)))])) (va_Qi (fun (r : Int32) (u : Nat → Value) => (r = (-1) ∧ (0 ≤ (nd).toInt ∧ (nd).toInt < 4096 ∧ 2 ≤ cnt (nd).toNatClampNeg 12 ∧ cnt (nd).toNatClampNeg 12 ≤ 8) ∧ (u 0 = .int 0)) ∨ (r = 0 ∧ ((nd).toInt < 0 ∨ 4096 ≤ (nd).toInt ∨ cnt (nd).toNatClampNeg 12 < 2 ∨ 8 < cnt (nd).toNatClampNeg 12) ∧ (u 0 = .int 1))) (fun (u : Nat → Value) t => va_P (dC, dI) vwCl [(h0, .inr (12, fM u))] t.heap ∧ va_K (dC, dI) vwCl [] t ∧ va_D (va_A [(h0, .inr (12, fM v)), (b_member1, .inl (k_member1, 8, .inl r_member1)), (b_order, .inl (k_order, 8, .inl (fun _ => 0)))] sz) [(h0, .inr (12, fM u))]) (va_A [(h0, .inr (12, fM v)), (b_member1, .inl (k_member1, 8, .inl r_member1)), (b_order, .inl (k_order, 8, .inl (fun _ => 0)))] sz)) 0 0 (va_A [(h0, .inr (12, fM v)), (b_member1, .inl (k_member1, 8, .inl r_member1)), (b_order, .inl (k_order, 8, .inl (fun _ => 0)))] sz) := by
  refine Met.ofW (cc := cX12_tour) (maxL := 8) (ret := (some .int)) (by decide) rfl ?_
  intro p e s m args below meth c s₁ B hml hv
  obtain ⟨rfl, hsz, hP, hK, hD0⟩ := hv
  have hx := B.exec
  have hb := B.bytes
  have hr := B.returns
  have hts := atoms_spec (ws := wsPX12_tour) B.pre
  have hown : s.vm.findClass RX12 = some m.cls := findClass_of_methodNamed B.named
  have hlocks := B.notSynchronized
  subst hsz
  have hD := hD0.self (sz := s.heap.size)
  generalize hAe : va_A [(h0, .inr (12, fM v)), (b_member1, .inl (k_member1, 8, .inl r_member1)), (b_order, .inl (k_order, 8, .inl (fun _ => 0)))] s.heap.size = A at hD ⊢
  have hA : ∀ q : Nat, s.heap.size ≤ q → A q := fun q h => by rw [← hAe]; exact Or.inr h
  have hS : va_S A s.heap s.heap [] := va_S.rf
  have hP : va_P (dC, dI) vwCl [(h0, .inr (12, fM v)), (b_member1, .inl (k_member1, 8, .inl r_member1)), (b_order, .inl (k_order, 8, .inl (fun _ => 0)))] s.heap := hP
  have hl := lv_entry ([.ref h0, .int nd, .int ii]) (n := 8) (Nat.le_of_ble_eq_true rfl)
  rw [lg_entry_eq]
  generalize (lg_sl ([.ref h0, .int nd, .int ii]) ++ List.replicate (8 - (lg_sl ([.ref h0, .int nd, .int ii])).length) Slot.unset).toArray = ls at hl ⊢
  have hl : lv_has ls 8 [(0, .ref h0), (1, .int nd), (2, .int ii)] := hl
  refine lv_aload_n hx hb dX12_tour_0 rfl (lv_at hl 0 rfl) ?_
  refine lv_iload_n hx hb dX12_tour_1 rfl (lv_at hl 1 rfl) ?_
  refine lv_if_lt (tgt := 29) hx hb dX12_tour_2 (by decide) (fun c_2 => ?_) (fun c_2 => ?_)
  · have t_2 : (nd).toInt < 0 := toI_lt c_2 rfl (by decide)
    refine lv_iconst (v := 1) hx hb dX12_tour_29 (by decide) ?_
    refine lv_goto (tgt := 34) hx hb dX12_tour_30 (by decide) ?_
    refine va_put (D := (dC, dI)) (ci := 12) (v := .int 1) (ty := .int) (C := RX12) (T := TX12) (N := 163) hx hb hts iwsPX12_tour_in12 tyX12 tyX12_ok nmX12 hown hK hP hD hS 0 rfl rfl 0 (by decide) (hts (.fieldLink RX12 348 "OptimaWorksModel" "thrown" "I") (by decide +kernel)) (fun _ h9 => h9) rfl (by decide +kernel) rfl rfl (Nat.le_of_ble_eq_true rfl) dX12_tour_34 (fun H locs hP hD hS => ?_)
    have hP : va_P (dC, dI) vwCl [(h0, .inr (12, fM (mUp v 0 (.int 1)))), (b_member1, .inl (k_member1, 8, .inl r_member1)), (b_order, .inl (k_order, 8, .inl (fun _ => 0)))] H := hP
    have hD : va_D A [(h0, .inr (12, fM (mUp v 0 (.int 1)))), (b_member1, .inl (k_member1, 8, .inl r_member1)), (b_order, .inl (k_order, 8, .inl (fun _ => 0)))] := hD
    refine lv_aload_n hx hb dX12_tour_37 rfl (lv_at hl 0 rfl) ?_
    refine va_get (D := (dC, dI)) (ci := 12) (v := .int 1) (C := RX12) (T := TX12) (N := 163) hx hb hts iwsPX12_tour_in12 hown hK hP 0 rfl rfl 0 (by decide) (hts (.fieldLink RX12 348 "OptimaWorksModel" "thrown" "I") (by decide +kernel)) (fun _ h9 => h9) rfl dX12_tour_38 ?_
    refine lv_if_le (tgt := 46) hx hb dX12_tour_41 (by decide) (fun c9 => absurd c9 (by decide)) (fun _ => ?_)
    refine lv_iconst (v := 0) hx hb dX12_tour_44 (by decide) ?_
    refine W.widen (k := 0) (n := 0) (by decide +kernel) (by decide +kernel) ?_
    exact W.iret (v := 0) hx hb hr (fun t ht hW => ⟨⟨0, (mUp v 0 (.int 1)), rfl, by first | (left; (refine ⟨?_, ?_, ?_⟩ <;> (first | rfl | assumption | trivial | omega | (simp [c_2]; done) | (simp; omega)))) | (right; (refine ⟨?_, ?_, ?_⟩ <;> (first | rfl | assumption | trivial | omega | (simp [c_2]; done) | (simp; omega)))), by rw [ht]; exact hP.sub [0] rfl, va_K.moved hW.alike (hK.sub [] rfl), hD.sub [0] (by decide) rfl⟩, hS.F ht⟩) hS.2.2 dX12_tour_45
  · have t_2 : ¬ (nd).toInt < 0 := toI_nlt c_2 rfl (by decide)
    refine lv_iload_n hx hb dX12_tour_5 rfl (lv_at hl 1 rfl) ?_
    refine lv_sipush (v := 4096) hx hb dX12_tour_6 (by decide) ?_
    refine lv_icmp_ge (tgt := 29) hx hb dX12_tour_9 (by decide) (fun c_9 => ?_) (fun c_9 => ?_)
    · have t_9 : (nd).toInt ≥ 4096 := toI_ge c_9 rfl (by decide)
      refine lv_iconst (v := 1) hx hb dX12_tour_29 (by decide) ?_
      refine lv_goto (tgt := 34) hx hb dX12_tour_30 (by decide) ?_
      refine va_put (D := (dC, dI)) (ci := 12) (v := .int 1) (ty := .int) (C := RX12) (T := TX12) (N := 163) hx hb hts iwsPX12_tour_in12 tyX12 tyX12_ok nmX12 hown hK hP hD hS 0 rfl rfl 0 (by decide) (hts (.fieldLink RX12 348 "OptimaWorksModel" "thrown" "I") (by decide +kernel)) (fun _ h9 => h9) rfl (by decide +kernel) rfl rfl (Nat.le_of_ble_eq_true rfl) dX12_tour_34 (fun H locs hP hD hS => ?_)
      have hP : va_P (dC, dI) vwCl [(h0, .inr (12, fM (mUp v 0 (.int 1)))), (b_member1, .inl (k_member1, 8, .inl r_member1)), (b_order, .inl (k_order, 8, .inl (fun _ => 0)))] H := hP
      have hD : va_D A [(h0, .inr (12, fM (mUp v 0 (.int 1)))), (b_member1, .inl (k_member1, 8, .inl r_member1)), (b_order, .inl (k_order, 8, .inl (fun _ => 0)))] := hD
      refine lv_aload_n hx hb dX12_tour_37 rfl (lv_at hl 0 rfl) ?_
      refine va_get (D := (dC, dI)) (ci := 12) (v := .int 1) (C := RX12) (T := TX12) (N := 163) hx hb hts iwsPX12_tour_in12 hown hK hP 0 rfl rfl 0 (by decide) (hts (.fieldLink RX12 348 "OptimaWorksModel" "thrown" "I") (by decide +kernel)) (fun _ h9 => h9) rfl dX12_tour_38 ?_
      refine lv_if_le (tgt := 46) hx hb dX12_tour_41 (by decide) (fun c9 => absurd c9 (by decide)) (fun _ => ?_)
      refine lv_iconst (v := 0) hx hb dX12_tour_44 (by decide) ?_
      refine W.widen (k := 0) (n := 0) (by decide +kernel) (by decide +kernel) ?_
      exact W.iret (v := 0) hx hb hr (fun t ht hW => ⟨⟨0, (mUp v 0 (.int 1)), rfl, by first | (left; (refine ⟨?_, ?_, ?_⟩ <;> (first | rfl | assumption | trivial | omega | (simp [c_2, c_9]; done) | (simp; omega)))) | (right; (refine ⟨?_, ?_, ?_⟩ <;> (first | rfl | assumption | trivial | omega | (simp [c_2, c_9]; done) | (simp; omega)))), by rw [ht]; exact hP.sub [0] rfl, va_K.moved hW.alike (hK.sub [] rfl), hD.sub [0] (by decide) rfl⟩, hS.F ht⟩) hS.2.2 dX12_tour_45
    · have t_9 : ¬ (nd).toInt ≥ 4096 := toI_nge c_9 rfl (by decide)
      obtain ⟨nn, h_nn, rfl⟩ := of_toInt (x := nd) (k := 4096) (by omega) (by omega)
      have e_nn : (nI nn).toInt = (nn : Int) := nI_toInt (by omega)
      have ecc : cnt (nI nn).toNatClampNeg 12 = cnt nn 12 := by rw [nI_clamp (by omega)]
      have hcl := cnt_le nn 12
      refine lv_iload_n hx hb dX12_tour_12 rfl (lv_at hl 1 rfl) ?_
      have hPc := hP.sub (ws' := []) [] rfl
      have hDc := hD.sub (ws' := []) [] (by decide) rfl
      have hKc := hK.sub (tys' := []) [] rfl
      have hFc := va_free (wc := []) hD hS hA [] rfl
      refine va_calli (va_runS (As := [.int (nI nn)]) (rest := [.ref h0]) ⟨hx, hb, hml, hown, hts⟩ (p_X12_ones l dC dI nn (by first | omega | decide | assumption | rfl) s.heap.size) (va_cwS 1 hts gwsPX12_tour_0 rfl rfl rfl (by decide +kernel) ⟨by decide +kernel, by decide +kernel⟩) ⟨fun a U g mk q => by obtain ⟨q0, q1, qP, qK, qD⟩ := q; exact ⟨q0, q1, qP, va_K.moved (u := U) (U := U.calling g mk a) (Vm.Alike.refl U.vm) qK, qD⟩, fun U hU9 hW => ⟨rfl, by rw [hU9], by rw [hU9]; exact hPc, va_K.moved hW.alike hKc, hDc.weaken (fun _ _ _ _ => trivial)⟩⟩ rfl rfl hl.1 rfl (lv_room (Nat.le_of_ble_eq_true rfl)) dX12_tour_13 ⟨by decide +kernel, by decide +kernel⟩) hS (fun q _ h => hFc q h) hFc (fun r13 u t H1 locs ht hvm hw hB hz1 hk1 hS => ?_)
      obtain ⟨hP1, hK1, hD1⟩ := hB
      rw [ht] at hP1
      have hK1 := va_K.moved hvm.symm hK1
      obtain ⟨hP, hD⟩ := va_join (wr := [(h0, .inr (12, fM v)), (b_member1, .inl (k_member1, 8, .inl r_member1)), (b_order, .inl (k_order, 8, .inl (fun _ => 0)))]) (w1 := []) hP hD [] [0, 1, 2] rfl rfl (by decide) (by decide) hk1 hFc hP1 hD1
      generalize H1 = H at hP hS ⊢
      have hP : va_P (dC, dI) vwCl [(h0, .inr (12, fM v)), (b_member1, .inl (k_member1, 8, .inl r_member1)), (b_order, .inl (k_order, 8, .inl (fun _ => 0)))] H := hP
      have hD : va_D A [(h0, .inr (12, fM v)), (b_member1, .inl (k_member1, 8, .inl r_member1)), (b_order, .inl (k_order, 8, .inl (fun _ => 0)))] := hD
      obtain rfl := hw
      refine lv_iconst (v := 2) hx hb dX12_tour_16 (by decide) ?_
      refine lv_icmp_lt (tgt := 29) hx hb dX12_tour_17 (by decide) (fun c_17 => ?_) (fun c_17 => ?_)
      · have t_17 : (((cnt nn 12) : Nat) : Int) < 2 := toI_lt c_17 (nI_toInt (by omega)) (by decide)
        refine lv_iconst (v := 1) hx hb dX12_tour_29 (by decide) ?_
        refine lv_goto (tgt := 34) hx hb dX12_tour_30 (by decide) ?_
        refine va_put (D := (dC, dI)) (ci := 12) (v := .int 1) (ty := .int) (C := RX12) (T := TX12) (N := 163) hx hb hts iwsPX12_tour_in12 tyX12 tyX12_ok nmX12 hown hK hP hD hS 0 rfl rfl 0 (by decide) (hts (.fieldLink RX12 348 "OptimaWorksModel" "thrown" "I") (by decide +kernel)) (fun _ h9 => h9) rfl (by decide +kernel) rfl rfl (Nat.le_of_ble_eq_true rfl) dX12_tour_34 (fun H locs hP hD hS => ?_)
        have hP : va_P (dC, dI) vwCl [(h0, .inr (12, fM (mUp v 0 (.int 1)))), (b_member1, .inl (k_member1, 8, .inl r_member1)), (b_order, .inl (k_order, 8, .inl (fun _ => 0)))] H := hP
        have hD : va_D A [(h0, .inr (12, fM (mUp v 0 (.int 1)))), (b_member1, .inl (k_member1, 8, .inl r_member1)), (b_order, .inl (k_order, 8, .inl (fun _ => 0)))] := hD
        refine lv_aload_n hx hb dX12_tour_37 rfl (lv_at hl 0 rfl) ?_
        refine va_get (D := (dC, dI)) (ci := 12) (v := .int 1) (C := RX12) (T := TX12) (N := 163) hx hb hts iwsPX12_tour_in12 hown hK hP 0 rfl rfl 0 (by decide) (hts (.fieldLink RX12 348 "OptimaWorksModel" "thrown" "I") (by decide +kernel)) (fun _ h9 => h9) rfl dX12_tour_38 ?_
        refine lv_if_le (tgt := 46) hx hb dX12_tour_41 (by decide) (fun c9 => absurd c9 (by decide)) (fun _ => ?_)
        refine lv_iconst (v := 0) hx hb dX12_tour_44 (by decide) ?_
        refine W.widen (k := 0) (n := 0) (by decide +kernel) (by decide +kernel) ?_
        exact W.iret (v := 0) hx hb hr (fun t ht hW => ⟨⟨0, (mUp v 0 (.int 1)), rfl, by first | (left; (refine ⟨?_, ?_, ?_⟩ <;> (first | rfl | assumption | trivial | omega | (simp [c_2, c_9, c_17]; done) | (simp; omega)))) | (right; (refine ⟨?_, ?_, ?_⟩ <;> (first | rfl | assumption | trivial | omega | (simp [c_2, c_9, c_17]; done) | (simp; omega)))), by rw [ht]; exact hP.sub [0] rfl, va_K.moved hW.alike (hK.sub [] rfl), hD.sub [0] (by decide) rfl⟩, hS.F ht⟩) hS.2.2 dX12_tour_45
      · have t_17 : ¬ (((cnt nn 12) : Nat) : Int) < 2 := toI_nlt c_17 (nI_toInt (by omega)) (by decide)
        refine lv_iload_n hx hb dX12_tour_20 rfl (lv_at hl 1 rfl) ?_
        have hPc := hP.sub (ws' := []) [] rfl
        have hDc := hD.sub (ws' := []) [] (by decide) rfl
        have hKc := hK.sub (tys' := []) [] rfl
        have hFc := va_free (wc := []) hD hS hA [] rfl
        refine va_calli (va_runS (As := [.int (nI nn)]) (rest := [.ref h0]) ⟨hx, hb, hml, hown, hts⟩ (p_X12_ones l dC dI nn (by first | omega | decide | assumption | rfl) H.size) (va_cwS 1 hts gwsPX12_tour_0 rfl rfl rfl (by decide +kernel) ⟨by decide +kernel, by decide +kernel⟩) ⟨fun a U g mk q => by obtain ⟨q0, q1, qP, qK, qD⟩ := q; exact ⟨q0, q1, qP, va_K.moved (u := U) (U := U.calling g mk a) (Vm.Alike.refl U.vm) qK, qD⟩, fun U hU9 hW => ⟨rfl, by rw [hU9], by rw [hU9]; exact hPc, va_K.moved hW.alike hKc, hDc.weaken (fun _ _ _ _ => trivial)⟩⟩ rfl rfl hl.1 rfl (lv_room (Nat.le_of_ble_eq_true rfl)) dX12_tour_21 ⟨by decide +kernel, by decide +kernel⟩) hS (fun q _ h => hFc q h) hFc (fun r21 u t H1 locs ht hvm hw hB hz1 hk1 hS => ?_)
        obtain ⟨hP1, hK1, hD1⟩ := hB
        rw [ht] at hP1
        have hK1 := va_K.moved hvm.symm hK1
        obtain ⟨hP, hD⟩ := va_join (wr := [(h0, .inr (12, fM v)), (b_member1, .inl (k_member1, 8, .inl r_member1)), (b_order, .inl (k_order, 8, .inl (fun _ => 0)))]) (w1 := []) hP hD [] [0, 1, 2] rfl rfl (by decide) (by decide) hk1 hFc hP1 hD1
        generalize H1 = H at hP hS ⊢
        have hP : va_P (dC, dI) vwCl [(h0, .inr (12, fM v)), (b_member1, .inl (k_member1, 8, .inl r_member1)), (b_order, .inl (k_order, 8, .inl (fun _ => 0)))] H := hP
        have hD : va_D A [(h0, .inr (12, fM v)), (b_member1, .inl (k_member1, 8, .inl r_member1)), (b_order, .inl (k_order, 8, .inl (fun _ => 0)))] := hD
        obtain rfl := hw
        refine lv_bipush (v := 8) hx hb dX12_tour_24 (by decide) ?_
        refine lv_icmp_le (tgt := 33) hx hb dX12_tour_26 (by decide) (fun c_26 => ?_) (fun c_26 => ?_)
        · have t_26 : (((cnt nn 12) : Nat) : Int) ≤ 8 := toI_le c_26 (nI_toInt (by omega)) (by decide)
          refine lv_iconst (v := 0) hx hb dX12_tour_33 (by decide) ?_
          refine va_put (D := (dC, dI)) (ci := 12) (v := .int 0) (ty := .int) (C := RX12) (T := TX12) (N := 163) hx hb hts iwsPX12_tour_in12 tyX12 tyX12_ok nmX12 hown hK hP hD hS 0 rfl rfl 0 (by decide) (hts (.fieldLink RX12 348 "OptimaWorksModel" "thrown" "I") (by decide +kernel)) (fun _ h9 => h9) rfl (by decide +kernel) rfl rfl (Nat.le_of_ble_eq_true rfl) dX12_tour_34 (fun H locs hP hD hS => ?_)
          have hP : va_P (dC, dI) vwCl [(h0, .inr (12, fM (mUp v 0 (.int 0)))), (b_member1, .inl (k_member1, 8, .inl r_member1)), (b_order, .inl (k_order, 8, .inl (fun _ => 0)))] H := hP
          have hD : va_D A [(h0, .inr (12, fM (mUp v 0 (.int 0)))), (b_member1, .inl (k_member1, 8, .inl r_member1)), (b_order, .inl (k_order, 8, .inl (fun _ => 0)))] := hD
          refine lv_aload_n hx hb dX12_tour_37 rfl (lv_at hl 0 rfl) ?_
          refine va_get (D := (dC, dI)) (ci := 12) (v := .int 0) (C := RX12) (T := TX12) (N := 163) hx hb hts iwsPX12_tour_in12 hown hK hP 0 rfl rfl 0 (by decide) (hts (.fieldLink RX12 348 "OptimaWorksModel" "thrown" "I") (by decide +kernel)) (fun _ h9 => h9) rfl dX12_tour_38 ?_
          refine lv_if_le (tgt := 46) hx hb dX12_tour_41 (by decide) (fun _ => ?_) (fun c9 => absurd (by decide) c9)
          refine lv_iconst (v := 0) hx hb dX12_tour_46 (by decide) ?_
          refine lv_istore_n (lv' := [(3, .int 0), (0, .ref h0), (1, .int (nI nn)), (2, .int ii)]) hx hb dX12_tour_47 rfl hl (by decide) rfl (fun ls hl => ?_)
          refine lv_iconst (v := 0) hx hb dX12_tour_48 (by decide) ?_
          refine lv_istore (lv' := [(4, .int 0), (3, .int 0), (0, .ref h0), (1, .int (nI nn)), (2, .int ii)]) hx hb dX12_tour_49 hl (by decide) rfl (fun ls hl => ?_)
          have hl := lv_sub hl [0, 1, 2, 3, 4] (l' := [(4, .int (nI 0)), (3, .int (nI 0)), (0, .ref h0), (1, .int (nI nn)), (2, .int ii)]) rfl
          refine (fun (loop : ∀ (n9 : Nat) (i : Nat) (K : Nat) (gm : Nat → Int32) (go : Nat → Int32) (H : Heap) (locs : List Loc) (ls : Array Slot), (i ≤ 12) → (K = cnt nn i) → (Bo go) → (∀ j, j < K → go j = nI j) →  (12 < i + n9) → va_P (dC, dI) vwCl [(h0, .inr (12, fM (mUp v 0 (.int 0)))), (b_member1, .inl (k_member1, 8, .inl gm)), (b_order, .inl (k_order, 8, .inl go))] H → va_D A [(h0, .inr (12, fM (mUp v 0 (.int 0)))), (b_member1, .inl (k_member1, 8, .inl gm)), (b_order, .inl (k_order, 8, .inl go))] → va_S A s.heap H locs → lv_has ls 8 [(4, .int (nI i)), (3, .int (nI K)), (0, .ref h0), (1, .int (nI nn)), (2, .int ii)] → W p l e _ s m _ below meth c H locs 0 0 _ (F0 m 51 ls [])) => loop (13) 0 0 r_member1 (fun _ => 0) _ _ _ (by omega) (rfl) (fun j hj => ⟨by show 0 ≤ (0 : Int32).toInt; decide, by show (0 : Int32).toInt < 8; decide⟩) (fun j h => absurd h (by omega)) (by omega) hP hD hS hl) ?_
          intro n9
          induction n9 with
          | zero => intro i K gm go H locs ls hi hKc hBo hgo hf9; exact False.elim (by omega)
          | succ n9 ih51 =>
            intro i K gm go H locs ls hi hKc hBo hgo hf51 hP hD hS hl
            refine lv_iload hx hb dX12_tour_51 (lv_at hl 0 rfl) ?_
            refine lv_bipush (v := 12) hx hb dX12_tour_53 (by decide) ?_
            refine lv_icmp_ge (tgt := 94) hx hb dX12_tour_55 (by decide) (fun c_55 => ?_) (fun c_55 => ?_)
            · have t_55 : ((i : Nat) : Int) ≥ 12 := toI_ge c_55 (nI_toInt (by omega)) (by decide)
              have hK12 : K = cnt nn 12 := by (have e9 : i = 12 := (by omega)); rw [hKc, e9]
              have hI0 : Io K go := fun i9 j9 hi9 hj9 e9 => by rw [hgo i9 hi9, hgo j9 hj9] at e9; exact (nI_eq (by omega) (by omega)).mp e9
              have hV0 := Vo_rng hBo
              refine lv_iconst (v := (-1)) hx hb dX12_tour_94 (by decide) ?_
              refine lv_istore (lv' := [(4, .int (-1)), (3, .int (nI K)), (0, .ref h0), (1, .int (nI nn)), (2, .int ii)]) hx hb dX12_tour_95 hl (by decide) rfl (fun ls hl => ?_)
              refine lv_iconst (v := 1) hx hb dX12_tour_97 (by decide) ?_
              refine lv_istore (lv' := [(5, .int 1), (4, .int (-1)), (3, .int (nI K)), (0, .ref h0), (1, .int (nI nn)), (2, .int ii)]) hx hb dX12_tour_98 hl (by decide) rfl (fun ls hl => ?_)
              have hl := lv_sub hl [0, 1, 2, 3, 4, 5] (l' := [(5, .int 1), (4, .int (-1)), (3, .int (nI K)), (0, .ref h0), (1, .int (nI nn)), (2, .int ii)]) rfl
              refine (fun (loop : ∀ (n9 : Nat) (fo : Nat → Int32) (H : Heap) (locs : List Loc) (ls : Array Slot), (Bo fo) → (Io K fo) → (0 ≤ Vo fo ∧ Vo fo < 16777216) →  (16777216 ≤ Vo fo + (n9 : Int)) → va_P (dC, dI) vwCl [(h0, .inr (12, fM (mUp v 0 (.int 0)))), (b_member1, .inl (k_member1, 8, .inl gm)), (b_order, .inl (k_order, 8, .inl fo))] H → va_D A [(h0, .inr (12, fM (mUp v 0 (.int 0)))), (b_member1, .inl (k_member1, 8, .inl gm)), (b_order, .inl (k_order, 8, .inl fo))] → va_S A s.heap H locs → lv_has ls 8 [(5, .int 1), (4, .int (-1)), (3, .int (nI K)), (0, .ref h0), (1, .int (nI nn)), (2, .int ii)] → W p l e _ s m _ below meth c H locs 0 0 _ (F0 m 100 ls [])) => loop (16777216) go _ _ _ (hBo) (hI0) (Vo_rng hBo) (by omega) hP hD hS hl) ?_
              intro n9
              induction n9 with
              | zero => intro fo H locs ls hBo hIo hVr hf9; exact False.elim (by omega)
              | succ n9 ih100_1 =>
                intro fo H locs ls hBo hIo hVr hf100_1 hP hD hS hl
                refine lv_iload hx hb dX12_tour_100 (lv_at hl 0 rfl) ?_
                refine lv_if_eq (tgt := 179) hx hb dX12_tour_102 (by decide) (fun c9 => absurd c9 (by decide)) (fun _ => ?_)
                refine lv_aload_n hx hb dX12_tour_105 rfl (lv_at hl 3 rfl) ?_
                refine lv_iload_n hx hb dX12_tour_106 rfl (lv_at hl 2 rfl) ?_
                have hPc := hP.sub (ws' := [(h0, .inr (12, fM (mUp v 0 (.int 0)))), (b_member1, .inl (k_member1, 8, .inl gm)), (b_order, .inl (k_order, 8, .inl fo))]) [0, 1, 2] rfl
                have hDc := hD.sub (ws' := [(h0, .inr (12, fM (mUp v 0 (.int 0)))), (b_member1, .inl (k_member1, 8, .inl gm)), (b_order, .inl (k_order, 8, .inl fo))]) [0, 1, 2] (by decide) rfl
                have hKc := hK.sub (tys' := [(k_member1, .int), (k_order, .int)]) [0, 1] rfl
                have hFc := va_free (wc := [(h0, .inr (12, fM (mUp v 0 (.int 0)))), (b_member1, .inl (k_member1, 8, .inl gm)), (b_order, .inl (k_order, 8, .inl fo))]) hD hS hA [0, 1, 2] rfl
                refine va_calli (va_runV (As := [.int (nI K)]) (rest := []) ⟨hx, hb, hml, hown, hts⟩ (p_X12_tourCost l dC dI h0 (mUp v 0 (.int 0)) (h_arcs) b_member1 (h_member1) k_member1 gm b_order (h_order) k_order K fo (by first | omega | decide | assumption | rfl) (by first | omega | decide | assumption | rfl) (hBo) H.size) (cwV 1 hts gwsPX12_tour_1 rfl rfl rfl (by decide +kernel) ⟨by decide +kernel, by decide +kernel⟩) ⟨fun a U g mk q => by obtain ⟨q0, q1, qP, qK, qD⟩ := q; exact ⟨q0, q1, qP, va_K.moved (u := U) (U := U.calling g mk a) (Vm.Alike.refl U.vm) qK, qD⟩, va_recv hKc hPc (ci := 12) (q0 := 0) rfl rfl, fun U hU9 hW => ⟨rfl, by rw [hU9], by rw [hU9]; exact hPc, va_K.moved hW.alike hKc, hDc.weaken (fun _ _ _ _ => trivial)⟩⟩ rfl rfl hl.1 rfl (lv_room (Nat.le_of_ble_eq_true rfl)) dX12_tour_107 ⟨by decide +kernel, by decide +kernel⟩) hS (fun q _ h => hFc q h) hFc (fun r107 u t H1 locs ht hvm hw hB hz1 hk1 hS => ?_)
                obtain ⟨hP1, hK1, hD1⟩ := hB
                rw [ht] at hP1
                have hK1 := va_K.moved hvm.symm hK1
                obtain ⟨hP, hD⟩ := va_join (wr := []) (w1 := [(h0, .inr (12, fM ((mUp v 0 (.int 0))))), (b_member1, .inl (k_member1, 8, .inl gm)), (b_order, .inl (k_order, 8, .inl fo))]) hP hD [0, 1, 2] [] rfl rfl (by decide) (by decide) hk1 hFc hP1 hD1
                generalize H1 = H at hP hS ⊢
                have hP : va_P (dC, dI) vwCl [(h0, .inr (12, fM ((mUp v 0 (.int 0))))), (b_member1, .inl (k_member1, 8, .inl gm)), (b_order, .inl (k_order, 8, .inl fo))] H := hP
                have hD : va_D A [(h0, .inr (12, fM ((mUp v 0 (.int 0))))), (b_member1, .inl (k_member1, 8, .inl gm)), (b_order, .inl (k_order, 8, .inl fo))] := hD
                obtain rfl := hw
                refine lv_istore (lv' := [(6, .int (-1)), (5, .int 1), (4, .int (-1)), (3, .int (nI K)), (0, .ref h0), (1, .int (nI nn)), (2, .int ii)]) hx hb dX12_tour_110 hl (by decide) rfl (fun ls hl => ?_)
                refine lv_iload hx hb dX12_tour_112 (lv_at hl 0 rfl) ?_
                refine lv_iconst (v := (-1)) hx hb dX12_tour_114 (by decide) ?_
                refine lv_icmp_eq (tgt := 169) hx hb dX12_tour_115 (by decide) (fun _ => ?_) (fun c9 => absurd (by decide) c9)
                refine lv_aload_n hx hb dX12_tour_169 rfl (lv_at hl 4 rfl) ?_
                refine lv_iload_n hx hb dX12_tour_170 rfl (lv_at hl 3 rfl) ?_
                have hPc := hP.sub (ws' := [(h0, .inr (12, fM ((mUp v 0 (.int 0))))), (b_order, .inl (k_order, 8, .inl fo))]) [0, 2] rfl
                have hDc := hD.sub (ws' := [(h0, .inr (12, fM ((mUp v 0 (.int 0))))), (b_order, .inl (k_order, 8, .inl fo))]) [0, 2] (by decide) rfl
                have hKc := hK.sub (tys' := [(k_order, .int)]) [1] rfl
                have hFc := va_free (wc := [(h0, .inr (12, fM ((mUp v 0 (.int 0))))), (b_order, .inl (k_order, 8, .inl fo))]) hD hS hA [0, 2] rfl
                refine va_calli (va_runV (As := [.int (nI K)]) (rest := []) ⟨hx, hb, hml, hown, hts⟩ (p_X12_nextOrder l dC dI h0 (mUp v 0 (.int 0)) b_order (h_order) k_order K fo (by first | omega | decide | assumption | rfl) (by first | omega | decide | assumption | rfl) (hBo) (hIo) H.size) (cwV 1 hts gwsPX12_tour_2 rfl rfl rfl (by decide +kernel) ⟨by decide +kernel, by decide +kernel⟩) ⟨fun a U g mk q => by obtain ⟨q0, q1, qP, qK, qD⟩ := q; exact ⟨q0, q1, qP, va_K.moved (u := U) (U := U.calling g mk a) (Vm.Alike.refl U.vm) qK, qD⟩, va_recv hKc hPc (ci := 12) (q0 := 0) rfl rfl, fun U hU9 hW => ⟨rfl, by rw [hU9], by rw [hU9]; exact hPc, va_K.moved hW.alike hKc, hDc.weaken (fun _ _ _ _ => trivial)⟩⟩ rfl rfl hl.1 rfl (lv_room (Nat.le_of_ble_eq_true rfl)) dX12_tour_171 ⟨by decide +kernel, by decide +kernel⟩) hS (fun q _ h => hFc q h) hFc (fun r171 u t H1 locs ht hvm hw hB hz1 hk1 hS => ?_)
                obtain ⟨g171, hwit171⟩ : ∃ w9, w9 = u := ⟨u, rfl⟩
                subst hwit171
                obtain ⟨hP1, hK1, hD1⟩ := hB
                rw [ht] at hP1
                have hK1 := va_K.moved hvm.symm hK1
                obtain ⟨hP, hD⟩ := va_join (wr := [(b_member1, .inl (k_member1, 8, .inl gm))]) (w1 := [(h0, .inr (12, fM ((mUp v 0 (.int 0))))), (b_order, .inl (k_order, 8, .inl g171))]) hP hD [0, 2] [1] rfl rfl (by decide) (by decide) hk1 hFc hP1 hD1
                generalize H1 = H at hP hS ⊢
                have hP : va_P (dC, dI) vwCl [(b_member1, .inl (k_member1, 8, .inl gm)), (h0, .inr (12, fM ((mUp v 0 (.int 0))))), (b_order, .inl (k_order, 8, .inl g171))] H := hP
                have hD : va_D A [(b_member1, .inl (k_member1, 8, .inl gm)), (h0, .inr (12, fM ((mUp v 0 (.int 0))))), (b_order, .inl (k_order, 8, .inl g171))] := hD
                rcases hw with rfl | ⟨rfl, f171_0, f171_1, f171_2⟩
                · refine lv_istore (lv' := [(5, .int 0), (6, .int (-1)), (4, .int (-1)), (3, .int (nI K)), (0, .ref h0), (1, .int (nI nn)), (2, .int ii)]) hx hb dX12_tour_174 hl (by decide) rfl (fun ls hl => ?_)
                  refine lv_goto (tgt := 100) hx hb dX12_tour_176 (by decide) ?_
                  refine lv_iload hx hb dX12_tour_100 (lv_at hl 0 rfl) ?_
                  refine lv_if_eq (tgt := 179) hx hb dX12_tour_102 (by decide) (fun _ => ?_) (fun c9 => absurd (by decide) c9)
                  refine lv_iload_n hx hb dX12_tour_179 rfl (lv_at hl 6 rfl) ?_
                  refine lv_bipush (v := (-2)) hx hb dX12_tour_180 (by decide) ?_
                  refine lv_icmp_ne (tgt := 188) hx hb dX12_tour_182 (by decide) (fun c_182 => ?_) (fun c_182 => ?_)
                  · have t_182 : (ii).toInt ≠ -2 := toI_ne c_182 rfl (by decide)
                    refine lv_iload hx hb dX12_tour_188 (lv_at hl 2 rfl) ?_
                    refine lv_iconst (v := (-1)) hx hb dX12_tour_190 (by decide) ?_
                    refine lv_icmp_eq (tgt := 203) hx hb dX12_tour_191 (by decide) (fun _ => ?_) (fun c9 => absurd (by decide) c9)
                    refine lv_iconst (v := (-1)) hx hb dX12_tour_203 (by decide) ?_
                    refine lv_goto (tgt := 213) hx hb dX12_tour_204 (by decide) ?_
                    refine W.widen (k := 0) (n := 0) (by decide +kernel) (by decide +kernel) ?_
                    exact W.iret (v := (-1)) hx hb hr (fun t ht hW => ⟨⟨(-1), (mUp v 0 (.int 0)), rfl, by first | (left; (refine ⟨?_, ?_, ?_⟩ <;> (first | rfl | assumption | trivial | omega | (simp [c_2, c_9, c_17, c_26, c_55, c_182]; done) | (simp; omega)))) | (right; (refine ⟨?_, ?_, ?_⟩ <;> (first | rfl | assumption | trivial | omega | (simp [c_2, c_9, c_17, c_26, c_55, c_182]; done) | (simp; omega)))), by rw [ht]; exact hP.sub [1] rfl, va_K.moved hW.alike (hK.sub [] rfl), hD.sub [1] (by decide) rfl⟩, hS.F ht⟩) hS.2.2 dX12_tour_213
                  · have t_182 : (ii).toInt = -2 := toI_nne c_182 rfl (by decide)
                    refine lv_iload hx hb dX12_tour_185 (lv_at hl 2 rfl) ?_
                    refine W.widen (k := 0) (n := 0) (by decide +kernel) (by decide +kernel) ?_
                    exact W.iret (v := (-1)) hx hb hr (fun t ht hW => ⟨⟨(-1), (mUp v 0 (.int 0)), rfl, by first | (left; (refine ⟨?_, ?_, ?_⟩ <;> (first | rfl | assumption | trivial | omega | (simp [c_2, c_9, c_17, c_26, c_55, c_182]; done) | (simp; omega)))) | (right; (refine ⟨?_, ?_, ?_⟩ <;> (first | rfl | assumption | trivial | omega | (simp [c_2, c_9, c_17, c_26, c_55, c_182]; done) | (simp; omega)))), by rw [ht]; exact hP.sub [1] rfl, va_K.moved hW.alike (hK.sub [] rfl), hD.sub [1] (by decide) rfl⟩, hS.F ht⟩) hS.2.2 dX12_tour_187
                · obtain ⟨k9, hk9, hk8, hk7⟩ := f171_2
                  have hVl := Vo_lt hBo f171_0 hk9 hk8 hk7
                  have hVr := Vo_rng f171_0
                  refine lv_istore (lv' := [(5, .int 1), (6, .int (-1)), (4, .int (-1)), (3, .int (nI K)), (0, .ref h0), (1, .int (nI nn)), (2, .int ii)]) hx hb dX12_tour_174 hl (by decide) rfl (fun ls hl => ?_)
                  refine lv_goto (tgt := 100) hx hb dX12_tour_176 (by decide) ?_
                  have hl := lv_sub hl [0, 2, 3, 4, 5, 6] (l' := [(5, .int 1), (4, .int (-1)), (3, .int (nI K)), (0, .ref h0), (1, .int (nI nn)), (2, .int ii)]) rfl
                  have hP := hP.sub (ws' := [(h0, .inr (12, fM ((mUp v 0 (.int 0))))), (b_member1, .inl (k_member1, 8, .inl gm)), (b_order, .inl (k_order, 8, .inl g171))]) [1, 0, 2] rfl
                  have hD := hD.sub (ws' := [(h0, .inr (12, fM ((mUp v 0 (.int 0))))), (b_member1, .inl (k_member1, 8, .inl gm)), (b_order, .inl (k_order, 8, .inl g171))]) [1, 0, 2] (by decide) rfl
                  exact ih100_1 g171 _ _ _ (f171_0) (f171_1) (hVr) (by omega) hP hD hS hl
            · have t_55 : ¬ ((i : Nat) : Int) ≥ 12 := toI_nge c_55 (nI_toInt (by omega)) (by decide)
              refine lv_iload_n hx hb dX12_tour_58 rfl (lv_at hl 3 rfl) ?_
              refine lv_iload hx hb dX12_tour_59 (lv_at hl 0 rfl) ?_
              refine lv_ishr hx hb dX12_tour_61 ?_
              refine lv_iconst (v := 1) hx hb dX12_tour_62 (by decide) ?_
              refine lv_iand hx hb dX12_tour_63 ?_
              refine lv_topi (fun y1 hy1 => ?_)
              obtain rfl : (nI (nn / 2 ^ i % 2)) = y1 := (hy1.trans (shr_bit (by omega) (by omega))).symm
              refine lv_if_ne (tgt := 70) hx hb dX12_tour_64 (by decide) (fun c_64 => ?_) (fun c_64 => ?_)
              · have t_64 : (((nn / 2 ^ i % 2) : Nat) : Int) ≠ 0 := toI_ne c_64 (nI_toInt (by omega)) (by decide)
                have hup := cnt_up (n := nn) (show i + 1 ≤ 12 by omega)
                rw [cnt_succ] at hup
                refine lv_aload_n hx hb dX12_tour_70 rfl (lv_at hl 2 rfl) ?_
                refine va_get (D := (dC, dI)) (ci := 12) (v := .ref b_member1) (C := RX12) (T := TX12) (N := 163) hx hb hts iwsPX12_tour_in12 hown hK hP 0 rfl rfl 160 (by decide) (hts (.fieldLink RX12 339 "OptimaWorksModel" "member1" "[I") (by decide +kernel)) (fun _ h9 => h9) (congrArg some h_member1) dX12_tour_71 ?_
                refine lv_iload_n hx hb dX12_tour_74 rfl (lv_at hl 1 rfl) ?_
                refine lv_iload hx hb dX12_tour_75 (lv_at hl 0 rfl) ?_
                refine va_iast hx hb hK hP hD hS 1 0 rfl rfl (vp_in_nI (show K < 8 by omega) (by omega)) dX12_tour_77 (fun H locs hP hD hS => ?_)
                have hP : va_P (dC, dI) vwCl [(h0, .inr (12, fM (mUp v 0 (.int 0)))), (b_member1, .inl (k_member1, 8, .inl (upd gm ((nI K)).toNatClampNeg (nI i)))), (b_order, .inl (k_order, 8, .inl go))] H := hP
                have hD : va_D A [(h0, .inr (12, fM (mUp v 0 (.int 0)))), (b_member1, .inl (k_member1, 8, .inl (upd gm ((nI K)).toNatClampNeg (nI i)))), (b_order, .inl (k_order, 8, .inl go))] := hD
                refine lv_aload_n hx hb dX12_tour_78 rfl (lv_at hl 2 rfl) ?_
                refine va_get (D := (dC, dI)) (ci := 12) (v := .ref b_order) (C := RX12) (T := TX12) (N := 163) hx hb hts iwsPX12_tour_in12 hown hK hP 0 rfl rfl 161 (by decide) (hts (.fieldLink RX12 342 "OptimaWorksModel" "order" "[I") (by decide +kernel)) (fun _ h9 => h9) (congrArg some h_order) dX12_tour_79 ?_
                refine lv_iload_n hx hb dX12_tour_82 rfl (lv_at hl 1 rfl) ?_
                refine lv_iload_n hx hb dX12_tour_83 rfl (lv_at hl 1 rfl) ?_
                refine va_iast hx hb hK hP hD hS 2 1 rfl rfl (vp_in_nI (show K < 8 by omega) (by omega)) dX12_tour_84 (fun H locs hP hD hS => ?_)
                have hP : va_P (dC, dI) vwCl [(h0, .inr (12, fM (mUp v 0 (.int 0)))), (b_member1, .inl (k_member1, 8, .inl (upd gm ((nI K)).toNatClampNeg (nI i)))), (b_order, .inl (k_order, 8, .inl (upd go ((nI K)).toNatClampNeg (nI K))))] H := hP
                have hD : va_D A [(h0, .inr (12, fM (mUp v 0 (.int 0)))), (b_member1, .inl (k_member1, 8, .inl (upd gm ((nI K)).toNatClampNeg (nI i)))), (b_order, .inl (k_order, 8, .inl (upd go ((nI K)).toNatClampNeg (nI K))))] := hD
                refine lv_iinc (v := (nI (K + 1))) (lv' := [(3, .int (nI (K + 1))), (4, .int (nI i)), (0, .ref h0), (1, .int (nI nn)), (2, .int ii)]) hx hb dX12_tour_85 hl (k := 1) rfl (nI_add K 1) (by decide) rfl (fun ls hl => ?_)
                refine lv_iinc (v := (nI (i + 1))) (lv' := [(4, .int (nI (i + 1))), (3, .int (nI (K + 1))), (0, .ref h0), (1, .int (nI nn)), (2, .int ii)]) hx hb dX12_tour_88 hl (k := 1) rfl (nI_add i 1) (by decide) rfl (fun ls hl => ?_)
                refine lv_goto (tgt := 51) hx hb dX12_tour_91 (by decide) ?_
                have hl := lv_sub hl [0, 1, 2, 3, 4] (l' := [(4, .int (nI (i + 1))), (3, .int (nI (K + 1))), (0, .ref h0), (1, .int (nI nn)), (2, .int ii)]) rfl
                exact ih51 (i + 1) (K + 1) (upd gm ((nI K)).toNatClampNeg (nI i)) (upd go ((nI K)).toNatClampNeg (nI K)) _ _ _ (by omega) (by rw [cnt_succ]; omega) (by first | exact hBo | exact fun j hj => by rw [upd_at (by omega)]; split; (rw [nI_toInt (by omega)]; omega); exact hBo j hj) (by first | exact hgo | exact fun j hj => by rw [upd_at (by omega)]; by_cases e9 : j = K; (rw [if_pos e9, e9]); (rw [if_neg e9]; exact hgo j (by omega))) (by omega) hP hD hS hl
              · have t_64 : (((nn / 2 ^ i % 2) : Nat) : Int) = 0 := toI_nne c_64 (nI_toInt (by omega)) (by decide)
                refine lv_goto (tgt := 88) hx hb dX12_tour_67 (by decide) ?_
                refine lv_iinc (v := (nI (i + 1))) (lv' := [(4, .int (nI (i + 1))), (3, .int (nI K)), (0, .ref h0), (1, .int (nI nn)), (2, .int ii)]) hx hb dX12_tour_88 hl (k := 0) rfl (nI_add i 1) (by decide) rfl (fun ls hl => ?_)
                refine lv_goto (tgt := 51) hx hb dX12_tour_91 (by decide) ?_
                have hl := lv_sub hl [0, 1, 2, 3, 4] (l' := [(4, .int (nI (i + 1))), (3, .int (nI K)), (0, .ref h0), (1, .int (nI nn)), (2, .int ii)]) rfl
                exact ih51 (i + 1) K gm go _ _ _ (by omega) (by rw [cnt_succ]; omega) (by first | exact hBo | exact fun j hj => by rw [upd_at (by omega)]; split; (rw [nI_toInt (by omega)]; omega); exact hBo j hj) (by first | exact hgo | exact fun j hj => by rw [upd_at (by omega)]; by_cases e9 : j = K; (rw [if_pos e9, e9]); (rw [if_neg e9]; exact hgo j (by omega))) (by omega) hP hD hS hl
        · have t_26 : ¬ (((cnt nn 12) : Nat) : Int) ≤ 8 := toI_nle c_26 (nI_toInt (by omega)) (by decide)
          refine lv_iconst (v := 1) hx hb dX12_tour_29 (by decide) ?_
          refine lv_goto (tgt := 34) hx hb dX12_tour_30 (by decide) ?_
          refine va_put (D := (dC, dI)) (ci := 12) (v := .int 1) (ty := .int) (C := RX12) (T := TX12) (N := 163) hx hb hts iwsPX12_tour_in12 tyX12 tyX12_ok nmX12 hown hK hP hD hS 0 rfl rfl 0 (by decide) (hts (.fieldLink RX12 348 "OptimaWorksModel" "thrown" "I") (by decide +kernel)) (fun _ h9 => h9) rfl (by decide +kernel) rfl rfl (Nat.le_of_ble_eq_true rfl) dX12_tour_34 (fun H locs hP hD hS => ?_)
          have hP : va_P (dC, dI) vwCl [(h0, .inr (12, fM (mUp v 0 (.int 1)))), (b_member1, .inl (k_member1, 8, .inl r_member1)), (b_order, .inl (k_order, 8, .inl (fun _ => 0)))] H := hP
          have hD : va_D A [(h0, .inr (12, fM (mUp v 0 (.int 1)))), (b_member1, .inl (k_member1, 8, .inl r_member1)), (b_order, .inl (k_order, 8, .inl (fun _ => 0)))] := hD
          refine lv_aload_n hx hb dX12_tour_37 rfl (lv_at hl 0 rfl) ?_
          refine va_get (D := (dC, dI)) (ci := 12) (v := .int 1) (C := RX12) (T := TX12) (N := 163) hx hb hts iwsPX12_tour_in12 hown hK hP 0 rfl rfl 0 (by decide) (hts (.fieldLink RX12 348 "OptimaWorksModel" "thrown" "I") (by decide +kernel)) (fun _ h9 => h9) rfl dX12_tour_38 ?_
          refine lv_if_le (tgt := 46) hx hb dX12_tour_41 (by decide) (fun c9 => absurd c9 (by decide)) (fun _ => ?_)
          refine lv_iconst (v := 0) hx hb dX12_tour_44 (by decide) ?_
          refine W.widen (k := 0) (n := 0) (by decide +kernel) (by decide +kernel) ?_
          exact W.iret (v := 0) hx hb hr (fun t ht hW => ⟨⟨0, (mUp v 0 (.int 1)), rfl, by first | (left; (refine ⟨?_, ?_, ?_⟩ <;> (first | rfl | assumption | trivial | omega | (simp [c_2, c_9, c_17, c_26]; done) | (simp; omega)))) | (right; (refine ⟨?_, ?_, ?_⟩ <;> (first | rfl | assumption | trivial | omega | (simp [c_2, c_9, c_17, c_26]; done) | (simp; omega)))), by rw [ht]; exact hP.sub [0] rfl, va_K.moved hW.alike (hK.sub [] rfl), hD.sub [0] (by decide) rfl⟩, hS.F ht⟩) hS.2.2 dX12_tour_45

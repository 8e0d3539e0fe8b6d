def wsX11_row : List Cond := .code yX11_row cX11_row 4 (some .int) :: ([.classLink RX11 93 "java/lang/IndexOutOfBoundsException", .initialized "java/lang/IndexOutOfBoundsException", .fieldLink RX11 23 "OptimaWorks" "model" "LOptimaWorks$Model;", .fieldLink RX11 106 "OptimaWorks$Model" "rows" "I", .fieldLink RX11 109 "OptimaWorks$Model" "ways" "[I", .fieldLink RX11 84 "OptimaWorks$Model" "variables" "I", .methodLink RX11 112 yX1_rightSide, .instanceMethod yX1_rightSide, .selects RX1 yX1_rightSide yX1_rightSide, .initialized RX1, .code yX1_rightSide cX1_rightSide 3 (some .int), .fieldLink RX1 26 "OptimaWorks$Model" "kept" "[I", .methodLink RX11 116 yX1_sign, .instanceMethod yX1_sign, .selects RX1 yX1_sign yX1_sign, .code yX1_sign cX1_sign 3 (some .int), .methodLink RX11 119 yX1_number, .instanceMethod yX1_number, .selects RX1 yX1_number yX1_number, .code yX1_number cX1_number 4 (some .int)] ++ wsX110 ++ wsX10 ++ (vx_at0 RX11 95 "java/lang/IndexOutOfBoundsException" ["java/lang/RuntimeException", "java/lang/Exception"]).filter goodWord)
theorem dX11_row_0 : decode cX11_row 0 = .ok (.iload_n 1, 1) := by decide +kernel
theorem dX11_row_1 : decode cX11_row 1 = .ok (.ifCond .lt 14, 3) := by decide +kernel
theorem dX11_row_4 : decode cX11_row 4 = .ok (.iload_n 1, 1) := by decide +kernel
theorem dX11_row_5 : decode cX11_row 5 = .ok (.aload_n 0, 1) := by decide +kernel
theorem dX11_row_6 : decode cX11_row 6 = .ok (.getfield 23, 3) := by decide +kernel
theorem dX11_row_9 : decode cX11_row 9 = .ok (.getfield 106, 3) := by decide +kernel
theorem dX11_row_12 : decode cX11_row 12 = .ok (.if_icmp .lt 11, 3) := by decide +kernel
theorem dX11_row_15 : decode cX11_row 15 = .ok (.new 93, 3) := by decide +kernel
theorem dX11_row_18 : decode cX11_row 18 = .ok (.dup, 1) := by decide +kernel
theorem dX11_row_19 : decode cX11_row 19 = .ok (.invokespecial 95, 3) := by decide +kernel
theorem dX11_row_22 : decode cX11_row 22 = .ok (.athrow, 1) := by decide +kernel
theorem iX11_row_in1 : ∀ w ∈ wsX10, w ∈ wsX11_row := fun _ h => List.mem_cons_of_mem _ (List.mem_append_left _ (List.mem_append_right _ h))
theorem iX11_row_in11 : ∀ w ∈ wsX110, w ∈ wsX11_row := fun _ h => List.mem_cons_of_mem _ (List.mem_append_left _ (List.mem_append_left _ (List.mem_append_right _ h)))
set_option maxHeartbeats 4000000 in
set_option maxRecDepth 100000 in
/-- row(r, w, k) without rows -/
theorem x_X11_row (l : Launch) (hst : l.stackTraces = false) (dC : Nat → ClassId) (dI : Nat → Nat → Nat) (h0 : Nat) (a0 a1 a2 a3 : Nat) (sl : Int32) (f5 f6 f7 f8 f9 f10 : Value) (st nv ng nd nc : Int32) (g6 g7 g8 g9 : Value) (pr : Int32) (g11 g12 g13 g14 g15 g16 : Value) (qr qw qk : Int32) (sz : Nat) : vx_Met l yX11_row wsX11_row ({ frames := 6, cells := 1, slots := 6, locals := 81 }) (va_Pc [.ref h0, .int qr, .int qw, .int qk] (fun U => U.heap.size = sz ∧ va_P (dC, dI) vwCl [(h0, .inr (11, [.ref a0, .ref a1, .ref a2, .ref a3, .int sl, f5, f6, f7, f8, f9, f10])), (a2, .inr (1, [.int st, .int nv, .int 0, .int ng, .int nd, .int nc, g6, g7, g8, g9, .int pr, g11, g12, g13, g14, g15, g16]))] U.heap ∧ va_K (dC, dI) vwCl [] U ∧ va_D (fun _ => True) [(h0, .inr (11, [.ref a0, .ref a1, .ref a2, .ref a3, .int sl, f5, f6, f7, f8, f9, f10])), (a2, .inr (1, [.int st, .int nv, .int 0, .int ng, .int nd, .int nc, g6, g7, g8, g9, .int pr, g11, g12, g13, g14, g15, g16]))] ∧ vx_Zq Bundle.tN "UNASSIGNED_STACK" Bundle.steD (va_A [(h0, .inr (11, [.ref a0, .ref a1, .ref a2, .ref a3, .int sl, f5, f6, f7, f8, f9, f10])), (a2, .inr (1, [.int st, .int nv, .int 0, .int ng, .int nd, .int nc, g6, g7, g8, g9, .int pr, g11, g12, g13, g14, g15, g16]))] sz) U U.heap ∧ vx_Zq Bundle.tN "SUPPRESSED_SENTINEL" Bundle.listD (va_A [(h0, .inr (11, [.ref a0, .ref a1, .ref a2, .ref a3, .int sl, f5, f6, f7, f8, f9, f10])), (a2, .inr (1, [.int st, .int nv, .int 0, .int ng, .int nd, .int nc, g6, g7, g8, g9, .int pr, g11, g12, g13, g14, g15, g16]))] sz) U U.heap ∧ (∀ w ∈ ngX11_95, va_Nw w U))) (va_Qi (fun (r : Int32) (_ : Unit) => False) (fun _ t => va_P (dC, dI) vwCl [(h0, .inr (11, [.ref a0, .ref a1, .ref a2, .ref a3, .int sl, f5, f6, f7, f8, f9, f10])), (a2, .inr (1, [.int st, .int nv, .int 0, .int ng, .int nd, .int nc, g6, g7, g8, g9, .int pr, g11, g12, g13, g14, g15, g16]))] t.heap ∧ va_K (dC, dI) vwCl [] t ∧ va_D (va_A [(h0, .inr (11, [.ref a0, .ref a1, .ref a2, .ref a3, .int sl, f5, f6, f7, f8, f9, f10])), (a2, .inr (1, [.int st, .int nv, .int 0, .int ng, .int nd, .int nc, g6, g7, g8, g9, .int pr, g11, g12, g13, g14, g15, g16]))] sz) [(h0, .inr (11, [.ref a0, .ref a1, .ref a2, .ref a3, .int sl, f5, f6, f7, f8, f9, f10])), (a2, .inr (1, [.int st, .int nv, .int 0, .int ng, .int nd, .int nc, g6, g7, g8, g9, .int pr, g11, g12, g13, g14, g15, g16]))]) (va_A [(h0, .inr (11, [.ref a0, .ref a1, .ref a2, .ref a3, .int sl, f5, f6, f7, f8, f9, f10])), (a2, .inr (1, [.int st, .int nv, .int 0, .int ng, .int nd, .int nc, g6, g7, g8, g9, .int pr, g11, g12, g13, g14, g15, g16]))] sz)) (vx_X (fun n : String => (n = "java/lang/IndexOutOfBoundsException" ∧ (True))) (fun E n t => E = n ∧ va_P (dC, dI) vwCl [(h0, .inr (11, [.ref a0, .ref a1, .ref a2, .ref a3, .int sl, f5, f6, f7, f8, f9, f10])), (a2, .inr (1, [.int st, .int nv, .int 0, .int ng, .int nd, .int nc, g6, g7, g8, g9, .int pr, g11, g12, g13, g14, g15, g16]))] t.heap ∧ va_K (dC, dI) vwCl [] t ∧ va_D (va_A [(h0, .inr (11, [.ref a0, .ref a1, .ref a2, .ref a3, .int sl, f5, f6, f7, f8, f9, f10])), (a2, .inr (1, [.int st, .int nv, .int 0, .int ng, .int nd, .int nc, g6, g7, g8, g9, .int pr, g11, g12, g13, g14, g15, g16]))] sz) [(h0, .inr (11, [.ref a0, .ref a1, .ref a2, .ref a3, .int sl, f5, f6, f7, f8, f9, f10])), (a2, .inr (1, [.int st, .int nv, .int 0, .int ng, .int nd, .int nc, g6, g7, g8, g9, .int pr, g11, g12, g13, g14, g15, g16]))]) (va_A [(h0, .inr (11, [.ref a0, .ref a1, .ref a2, .ref a3, .int sl, f5, f6, f7, f8, f9, f10])), (a2, .inr (1, [.int st, .int nv, .int 0, .int ng, .int nd, .int nc, g6, g7, g8, g9, .int pr, g11, g12, g13, g14, g15, g16]))] sz)) 1 6 (va_A [(h0, .inr (11, [.ref a0, .ref a1, .ref a2, .ref a3, .int sl, f5, f6, f7, f8, f9, f10])), (a2, .inr (1, [.int st, .int nv, .int 0, .int ng, .int nd, .int nc, g6, g7, g8, g9, .int pr, g11, g12, g13, g14, g15, g16]))] sz) := by
  refine vx_ofW (cc := cX11_row) (maxL := 4) (ret := (some .int)) (by decide) rfl ?_
  intro p e s m args below meth c s₁ B hml htab hv
  obtain ⟨rfl, hsz, hP, hK, hD0, hU, hN, hngX11_95⟩ := hv
  have hx := B.exec
  have hb := B.bytes
  have hr := B.returns
  have hts := atoms_spec (ws := wsX11_row) B.pre
  have hown : s.vm.findClass RX11 = some m.cls := findClass_of_methodNamed B.named
  have hlocks := B.notSynchronized
  subst hsz
  have hD := hD0.self (sz := s.heap.size)
  generalize hAe : va_A [(h0, .inr (11, [.ref a0, .ref a1, .ref a2, .ref a3, .int sl, f5, f6, f7, f8, f9, f10])), (a2, .inr (1, [.int st, .int nv, .int 0, .int ng, .int nd, .int nc, g6, g7, g8, g9, .int pr, g11, g12, g13, g14, g15, g16]))] s.heap.size = A at hD hU hN ⊢
  have hA : ∀ q : Nat, s.heap.size ≤ q → A q := fun q h => by rw [← hAe]; exact Or.inr h
  have hS : va_S A s.heap s.heap [] := va_S.rf
  have hP : va_P (dC, dI) vwCl [(h0, .inr (11, [.ref a0, .ref a1, .ref a2, .ref a3, .int sl, f5, f6, f7, f8, f9, f10])), (a2, .inr (1, [.int st, .int nv, .int 0, .int ng, .int nd, .int nc, g6, g7, g8, g9, .int pr, g11, g12, g13, g14, g15, g16]))] s.heap := hP
  have hl := lv_entry ([.ref h0, .int qr, .int qw, .int qk]) (n := 4) (Nat.le_of_ble_eq_true rfl)
  rw [lg_entry_eq]
  generalize (lg_sl ([.ref h0, .int qr, .int qw, .int qk]) ++ List.replicate (4 - (lg_sl ([.ref h0, .int qr, .int qw, .int qk])).length) Slot.unset).toArray = ls at hl ⊢
  have hl : lv_has ls 4 [(0, .ref h0), (1, .int qr), (2, .int qw), (3, .int qk)] := hl
  refine lv_iload_n hx hb dX11_row_0 rfl (lv_at hl 1 rfl) ?_
  refine lv_if_lt (tgt := 15) hx hb dX11_row_1 (by decide) (fun c_1 => ?_) (fun c_1 => ?_)
  · exact vx_throw0 (own := RX11) (cls := "java/lang/IndexOutOfBoundsException") (names := ["java/lang/RuntimeException", "java/lang/Exception"]) (ik := 93) (ic := 95) (A := A) hx hb hst hown (by decide +kernel) (by decide +kernel) (hts (.classLink RX11 93 "java/lang/IndexOutOfBoundsException") (by decide +kernel)) (hts (.initialized "java/lang/IndexOutOfBoundsException") (by decide +kernel)) (vx_hat (B := ngX11_95) (fun w h => hts w (List.mem_cons_of_mem _ (List.mem_append_right _ h))) (fun _ h => h) (fun w h => va_Nw.use (ngX11_95_ot w h) (hngX11_95 w h))) (by decide +kernel) hU hN hS (by rw [hml]; exact hl.1) dX11_row_15 dX11_row_18 dX11_row_19 dX11_row_22 (fun x hx9 => (htab x hx9).elim) (by decide +kernel) (Nat.le_of_ble_eq_true rfl) (by decide +kernel) (by decide +kernel) hlocks (fun t hvm hz hk => ⟨"java/lang/IndexOutOfBoundsException", ⟨rfl, by simp [c_1]⟩, ⟨rfl, hP.kept (fun k q h => hk q.1 ((hP k q h).lt)), va_K.moved hvm hK, hD⟩, ⟨Nat.le_trans hS.1 hz, fun q h1 h2 => (hk q (Nat.lt_of_lt_of_le h1 hS.1)).trans (hS.2.1 q h1 h2)⟩⟩) hS.2.2 (by decide +kernel) (by decide +kernel)
  · refine lv_iload_n hx hb dX11_row_4 rfl (lv_at hl 1 rfl) ?_
    refine lv_aload_n hx hb dX11_row_5 rfl (lv_at hl 0 rfl) ?_
    refine va_get (D := (dC, dI)) (ci := 11) (v := .ref a2) (C := RX11) (T := TX11) (N := 11) hx hb hts iX11_row_in11 hown hK hP 0 rfl rfl 2 (by decide) (hts (.fieldLink RX11 23 "OptimaWorks" "model" "LOptimaWorks$Model;") (by decide +kernel)) (fun _ h9 => h9) rfl dX11_row_6 ?_
    refine va_get (D := (dC, dI)) (ci := 1) (v := .int 0) (C := RX1) (T := TX1) (N := 17) hx hb hts iX11_row_in1 hown hK hP 1 rfl rfl 2 (by decide) (hts (.fieldLink RX11 106 "OptimaWorks$Model" "rows" "I") (by decide +kernel)) (fun _ h9 => h9) rfl dX11_row_9 ?_
    refine lv_icmp_lt (tgt := 23) hx hb dX11_row_12 (by decide) (fun c_12 => absurd c_12 c_1) (fun c_12 => ?_)
    exact vx_throw0 (own := RX11) (cls := "java/lang/IndexOutOfBoundsException") (names := ["java/lang/RuntimeException", "java/lang/Exception"]) (ik := 93) (ic := 95) (A := A) hx hb hst hown (by decide +kernel) (by decide +kernel) (hts (.classLink RX11 93 "java/lang/IndexOutOfBoundsException") (by decide +kernel)) (hts (.initialized "java/lang/IndexOutOfBoundsException") (by decide +kernel)) (vx_hat (B := ngX11_95) (fun w h => hts w (List.mem_cons_of_mem _ (List.mem_append_right _ h))) (fun _ h => h) (fun w h => va_Nw.use (ngX11_95_ot w h) (hngX11_95 w h))) (by decide +kernel) hU hN hS (by rw [hml]; exact hl.1) dX11_row_15 dX11_row_18 dX11_row_19 dX11_row_22 (fun x hx9 => (htab x hx9).elim) (by decide +kernel) (Nat.le_of_ble_eq_true rfl) (by decide +kernel) (by decide +kernel) hlocks (fun t hvm hz hk => ⟨"java/lang/IndexOutOfBoundsException", ⟨rfl, by simp [c_1]⟩, ⟨rfl, hP.kept (fun k q h => hk q.1 ((hP k q h).lt)), va_K.moved hvm hK, hD⟩, ⟨Nat.le_trans hS.1 hz, fun q h1 h2 => (hk q (Nat.lt_of_lt_of_le h1 hS.1)).trans (hS.2.1 q h1 h2)⟩⟩) hS.2.2 (by decide +kernel) (by decide +kernel)
def wsX11_goal : List Cond := .code yX11_goal cX11_goal 5 (some .int) :: ([.classLink RX11 93 "java/lang/IndexOutOfBoundsException", .initialized "java/lang/IndexOutOfBoundsException", .fieldLink RX11 23 "OptimaWorks" "model" "LOptimaWorks$Model;", .fieldLink RX11 123 "OptimaWorks$Model" "goals" "I", .fieldLink RX11 84 "OptimaWorks$Model" "variables" "I", .fieldLink RX11 126 "OptimaWorks$Model" "goalMax" "[Z", .fieldLink RX11 129 "OptimaWorks$Model" "goalUnder" "[I", .fieldLink RX11 132 "OptimaWorks$Model" "goalOver" "[I"] ++ wsX110 ++ wsX10 ++ (vx_at0 RX11 95 "java/lang/IndexOutOfBoundsException" ["java/lang/RuntimeException", "java/lang/Exception"]).filter goodWord)
theorem dX11_goal_0 : decode cX11_goal 0 = .ok (.iload_n 1, 1) := by decide +kernel
theorem dX11_goal_1 : decode cX11_goal 1 = .ok (.ifCond .lt 31, 3) := by decide +kernel
theorem dX11_goal_4 : decode cX11_goal 4 = .ok (.iload_n 1, 1) := by decide +kernel
theorem dX11_goal_5 : decode cX11_goal 5 = .ok (.aload_n 0, 1) := by decide +kernel
theorem dX11_goal_6 : decode cX11_goal 6 = .ok (.getfield 23, 3) := by decide +kernel
theorem dX11_goal_9 : decode cX11_goal 9 = .ok (.getfield 123, 3) := by decide +kernel
theorem dX11_goal_12 : decode cX11_goal 12 = .ok (.if_icmp .ge 20, 3) := by decide +kernel
theorem dX11_goal_32 : decode cX11_goal 32 = .ok (.new 93, 3) := by decide +kernel
theorem dX11_goal_35 : decode cX11_goal 35 = .ok (.dup, 1) := by decide +kernel
theorem dX11_goal_36 : decode cX11_goal 36 = .ok (.invokespecial 95, 3) := by decide +kernel
theorem dX11_goal_39 : decode cX11_goal 39 = .ok (.athrow, 1) := by decide +kernel
theorem iX11_goal_in1 : ∀ w ∈ wsX10, w ∈ wsX11_goal := fun _ h => List.mem_cons_of_mem _ (List.mem_append_left _ (List.mem_append_right _ h))
theorem iX11_goal_in11 : ∀ w ∈ wsX110, w ∈ wsX11_goal := fun _ h => List.mem_cons_of_mem _ (List.mem_append_left _ (List.mem_append_left _ (List.mem_append_right _ h)))
set_option maxHeartbeats 4000000 in
set_option maxRecDepth 100000 in
/-- goal(g, k, under) without goals -/
theorem x_X11_goal (l : Launch) (hst : l.stackTraces = false) (dC : Nat → ClassId) (dI : Nat → Nat → Nat) (h0 : Nat) (a0 a1 a2 a3 : Nat) (sl : Int32) (f5 f6 f7 f8 f9 f10 : Value) (st nv nr nd nc : Int32) (g6 g7 g8 g9 : Value) (pr : Int32) (g11 g12 g13 g14 g15 g16 : Value) (qg qk qu : Int32) (sz : Nat) : vx_Met l yX11_goal wsX11_goal ({ frames := 6, cells := 1, slots := 6, locals := 81 }) (va_Pc [.ref h0, .int qg, .int qk, .int qu] (fun U => U.heap.size = sz ∧ va_P (dC, dI) vwCl [(h0, .inr (11, [.ref a0, .ref a1, .ref a2, .ref a3, .int sl, f5, f6, f7, f8, f9, f10])), (a2, .inr (1, [.int st, .int nv, .int nr, .int 0, .int nd, .int nc, g6, g7, g8, g9, .int pr, g11, g12, g13, g14, g15, g16]))] U.heap ∧ va_K (dC, dI) vwCl [] U ∧ va_D (fun _ => True) [(h0, .inr (11, [.ref a0, .ref a1, .ref a2, .ref a3, .int sl, f5, f6, f7, f8, f9, f10])), (a2, .inr (1, [.int st, .int nv, .int nr, .int 0, .int nd, .int nc, g6, g7, g8, g9, .int pr, g11, g12, g13, g14, g15, g16]))] ∧ vx_Zq Bundle.tN "UNASSIGNED_STACK" Bundle.steD (va_A [(h0, .inr (11, [.ref a0, .ref a1, .ref a2, .ref a3, .int sl, f5, f6, f7, f8, f9, f10])), (a2, .inr (1, [.int st, .int nv, .int nr, .int 0, .int nd, .int nc, g6, g7, g8, g9, .int pr, g11, g12, g13, g14, g15, g16]))] sz) U U.heap ∧ vx_Zq Bundle.tN "SUPPRESSED_SENTINEL" Bundle.listD (va_A [(h0, .inr (11, [.ref a0, .ref a1, .ref a2, .ref a3, .int sl, f5, f6, f7, f8, f9, f10])), (a2, .inr (1, [.int st, .int nv, .int nr, .int 0, .int nd, .int nc, g6, g7, g8, g9, .int pr, g11, g12, g13, g14, g15, g16]))] sz) U U.heap ∧ (∀ w ∈ ngX11_95, va_Nw w U))) (va_Qi (fun (r : Int32) (_ : Unit) => False) (fun _ t => va_P (dC, dI) vwCl [(h0, .inr (11, [.ref a0, .ref a1, .ref a2, .ref a3, .int sl, f5, f6, f7, f8, f9, f10])), (a2, .inr (1, [.int st, .int nv, .int nr, .int 0, .int nd, .int nc, g6, g7, g8, g9, .int pr, g11, g12, g13, g14, g15, g16]))] t.heap ∧ va_K (dC, dI) vwCl [] t ∧ va_D (va_A [(h0, .inr (11, [.ref a0, .ref a1, .ref a2, .ref a3, .int sl, f5, f6, f7, f8, f9, f10])), (a2, .inr (1, [.int st, .int nv, .int nr, .int 0, .int nd, .int nc, g6, g7, g8, g9, .int pr, g11, g12, g13, g14, g15, g16]))] sz) [(h0, .inr (11, [.ref a0, .ref a1, .ref a2, .ref a3, .int sl, f5, f6, f7, f8, f9, f10])), (a2, .inr (1, [.int st, .int nv, .int nr, .int 0, .int nd, .int nc, g6, g7, g8, g9, .int pr, g11, g12, g13, g14, g15, g16]))]) (va_A [(h0, .inr (11, [.ref a0, .ref a1, .ref a2, .ref a3, .int sl, f5, f6, f7, f8, f9, f10])), (a2, .inr (1, [.int st, .int nv, .int nr, .int 0, .int nd, .int nc, g6, g7, g8, g9, .int pr, g11, g12, g13, g14, g15, g16]))] sz)) (vx_X (fun n : String => (n = "java/lang/IndexOutOfBoundsException" ∧ (True))) (fun E n t => E = n ∧ va_P (dC, dI) vwCl [(h0, .inr (11, [.ref a0, .ref a1, .ref a2, .ref a3, .int sl, f5, f6, f7, f8, f9, f10])), (a2, .inr (1, [.int st, .int nv, .int nr, .int 0, .int nd, .int nc, g6, g7, g8, g9, .int pr, g11, g12, g13, g14, g15, g16]))] t.heap ∧ va_K (dC, dI) vwCl [] t ∧ va_D (va_A [(h0, .inr (11, [.ref a0, .ref a1, .ref a2, .ref a3, .int sl, f5, f6, f7, f8, f9, f10])), (a2, .inr (1, [.int st, .int nv, .int nr, .int 0, .int nd, .int nc, g6, g7, g8, g9, .int pr, g11, g12, g13, g14, g15, g16]))] sz) [(h0, .inr (11, [.ref a0, .ref a1, .ref a2, .ref a3, .int sl, f5, f6, f7, f8, f9, f10])), (a2, .inr (1, [.int st, .int nv, .int nr, .int 0, .int nd, .int nc, g6, g7, g8, g9, .int pr, g11, g12, g13, g14, g15, g16]))]) (va_A [(h0, .inr (11, [.ref a0, .ref a1, .ref a2, .ref a3, .int sl, f5, f6, f7, f8, f9, f10])), (a2, .inr (1, [.int st, .int nv, .int nr, .int 0, .int nd, .int nc, g6, g7, g8, g9, .int pr, g11, g12, g13, g14, g15, g16]))] sz)) 1 6 (va_A [(h0, .inr (11, [.ref a0, .ref a1, .ref a2, .ref a3, .int sl, f5, f6, f7, f8, f9, f10])), (a2, .inr (1, [.int st, .int nv, .int nr, .int 0, .int nd, .int nc, g6, g7, g8, g9, .int pr, g11, g12, g13, g14, g15, g16]))] sz) := by
  refine vx_ofW (cc := cX11_goal) (maxL := 5) (ret := (some .int)) (by decide) rfl ?_
  intro p e s m args below meth c s₁ B hml htab hv
  obtain ⟨rfl, hsz, hP, hK, hD0, hU, hN, hngX11_95⟩ := hv
  have hx := B.exec
  have hb := B.bytes
  have hr := B.returns
  have hts := atoms_spec (ws := wsX11_goal) B.pre
  have hown : s.vm.findClass RX11 = some m.cls := findClass_of_methodNamed B.named
  have hlocks := B.notSynchronized
  subst hsz
  have hD := hD0.self (sz := s.heap.size)
  generalize hAe : va_A [(h0, .inr (11, [.ref a0, .ref a1, .ref a2, .ref a3, .int sl, f5, f6, f7, f8, f9, f10])), (a2, .inr (1, [.int st, .int nv, .int nr, .int 0, .int nd, .int nc, g6, g7, g8, g9, .int pr, g11, g12, g13, g14, g15, g16]))] s.heap.size = A at hD hU hN ⊢
  have hA : ∀ q : Nat, s.heap.size ≤ q → A q := fun q h => by rw [← hAe]; exact Or.inr h
  have hS : va_S A s.heap s.heap [] := va_S.rf
  have hP : va_P (dC, dI) vwCl [(h0, .inr (11, [.ref a0, .ref a1, .ref a2, .ref a3, .int sl, f5, f6, f7, f8, f9, f10])), (a2, .inr (1, [.int st, .int nv, .int nr, .int 0, .int nd, .int nc, g6, g7, g8, g9, .int pr, g11, g12, g13, g14, g15, g16]))] s.heap := hP
  have hl := lv_entry ([.ref h0, .int qg, .int qk, .int qu]) (n := 5) (Nat.le_of_ble_eq_true rfl)
  rw [lg_entry_eq]
  generalize (lg_sl ([.ref h0, .int qg, .int qk, .int qu]) ++ List.replicate (5 - (lg_sl ([.ref h0, .int qg, .int qk, .int qu])).length) Slot.unset).toArray = ls at hl ⊢
  have hl : lv_has ls 5 [(0, .ref h0), (1, .int qg), (2, .int qk), (3, .int qu)] := hl
  refine lv_iload_n hx hb dX11_goal_0 rfl (lv_at hl 1 rfl) ?_
  refine lv_if_lt (tgt := 32) hx hb dX11_goal_1 (by decide) (fun c_1 => ?_) (fun c_1 => ?_)
  · exact vx_throw0 (own := RX11) (cls := "java/lang/IndexOutOfBoundsException") (names := ["java/lang/RuntimeException", "java/lang/Exception"]) (ik := 93) (ic := 95) (A := A) hx hb hst hown (by decide +kernel) (by decide +kernel) (hts (.classLink RX11 93 "java/lang/IndexOutOfBoundsException") (by decide +kernel)) (hts (.initialized "java/lang/IndexOutOfBoundsException") (by decide +kernel)) (vx_hat (B := ngX11_95) (fun w h => hts w (List.mem_cons_of_mem _ (List.mem_append_right _ h))) (fun _ h => h) (fun w h => va_Nw.use (ngX11_95_ot w h) (hngX11_95 w h))) (by decide +kernel) hU hN hS (by rw [hml]; exact hl.1) dX11_goal_32 dX11_goal_35 dX11_goal_36 dX11_goal_39 (fun x hx9 => (htab x hx9).elim) (by decide +kernel) (Nat.le_of_ble_eq_true rfl) (by decide +kernel) (by decide +kernel) hlocks (fun t hvm hz hk => ⟨"java/lang/IndexOutOfBoundsException", ⟨rfl, by simp [c_1]⟩, ⟨rfl, hP.kept (fun k q h => hk q.1 ((hP k q h).lt)), va_K.moved hvm hK, hD⟩, ⟨Nat.le_trans hS.1 hz, fun q h1 h2 => (hk q (Nat.lt_of_lt_of_le h1 hS.1)).trans (hS.2.1 q h1 h2)⟩⟩) hS.2.2 (by decide +kernel) (by decide +kernel)
  · refine lv_iload_n hx hb dX11_goal_4 rfl (lv_at hl 1 rfl) ?_
    refine lv_aload_n hx hb dX11_goal_5 rfl (lv_at hl 0 rfl) ?_
    refine va_get (D := (dC, dI)) (ci := 11) (v := .ref a2) (C := RX11) (T := TX11) (N := 11) hx hb hts iX11_goal_in11 hown hK hP 0 rfl rfl 2 (by decide) (hts (.fieldLink RX11 23 "OptimaWorks" "model" "LOptimaWorks$Model;") (by decide +kernel)) (fun _ h9 => h9) rfl dX11_goal_6 ?_
    refine va_get (D := (dC, dI)) (ci := 1) (v := .int 0) (C := RX1) (T := TX1) (N := 17) hx hb hts iX11_goal_in1 hown hK hP 1 rfl rfl 3 (by decide) (hts (.fieldLink RX11 123 "OptimaWorks$Model" "goals" "I") (by decide +kernel)) (fun _ h9 => h9) rfl dX11_goal_9 ?_
    refine lv_icmp_ge (tgt := 32) hx hb dX11_goal_12 (by decide) (fun c_12 => ?_) (fun c_12 => absurd (Int32.not_lt.mp c_1) c_12)
    exact vx_throw0 (own := RX11) (cls := "java/lang/IndexOutOfBoundsException") (names := ["java/lang/RuntimeException", "java/lang/Exception"]) (ik := 93) (ic := 95) (A := A) hx hb hst hown (by decide +kernel) (by decide +kernel) (hts (.classLink RX11 93 "java/lang/IndexOutOfBoundsException") (by decide +kernel)) (hts (.initialized "java/lang/IndexOutOfBoundsException") (by decide +kernel)) (vx_hat (B := ngX11_95) (fun w h => hts w (List.mem_cons_of_mem _ (List.mem_append_right _ h))) (fun _ h => h) (fun w h => va_Nw.use (ngX11_95_ot w h) (hngX11_95 w h))) (by decide +kernel) hU hN hS (by rw [hml]; exact hl.1) dX11_goal_32 dX11_goal_35 dX11_goal_36 dX11_goal_39 (fun x hx9 => (htab x hx9).elim) (by decide +kernel) (Nat.le_of_ble_eq_true rfl) (by decide +kernel) (by decide +kernel) hlocks (fun t hvm hz hk => ⟨"java/lang/IndexOutOfBoundsException", ⟨rfl, by simp [c_1]⟩, ⟨rfl, hP.kept (fun k q h => hk q.1 ((hP k q h).lt)), va_K.moved hvm hK, hD⟩, ⟨Nat.le_trans hS.1 hz, fun q h1 h2 => (hk q (Nat.lt_of_lt_of_le h1 hS.1)).trans (hS.2.1 q h1 h2)⟩⟩) hS.2.2 (by decide +kernel) (by decide +kernel)
def wsX11_left_r1 : List Cond := [Cond.fieldLink RX11 337 "OptimaWorks" "values" "LOptimaWorks$ValueDesk;", Cond.methodLink RX11 369 yX7_isHolder, Cond.instanceMethod yX7_isHolder, Cond.selects RX7 yX7_isHolder yX7_isHolder, Cond.initialized RX7, Cond.code yX7_isHolder cX7_isHolder 2 (some .boolean), Cond.fieldLink RX7 59 "OptimaWorks$ValueDesk" "holders" "I", Cond.methodLink RX11 373 yX7_leftOf, Cond.instanceMethod yX7_leftOf, Cond.selects RX7 yX7_leftOf yX7_leftOf, Cond.code yX7_leftOf cX7_leftOf 2 (some .int), Cond.fieldLink RX7 62 "OptimaWorks$ValueDesk" "rules" "I", Cond.fieldLink RX7 36 "OptimaWorks$ValueDesk" "now" "[I", Cond.methodLink RX7 99 yX7_narrow, Cond.instanceMethod yX7_narrow, Cond.selects RX7 yX7_narrow yX7_narrow, Cond.code yX7_narrow cX7_narrow 4 none, Cond.fieldLink RX7 39 "OptimaWorks$ValueDesk" "doneFor" "I", Cond.fieldLink RX7 15 "OptimaWorks$ValueDesk" "domain" "[I", Cond.methodLink RX7 83 arraycopyName, Cond.native arraycopyName, Cond.static arraycopyName, Cond.initialized "java/lang/System", Cond.fieldLink RX7 106 "OptimaWorks$ValueDesk" "changed" "Z"]
def wsX11_left_r2 : List Cond := [Cond.methodLink RX7 109 yX7_narrowBy, Cond.instanceMethod yX7_narrowBy, Cond.selects RX7 yX7_narrowBy yX7_narrowBy, Cond.code yX7_narrowBy cX7_narrowBy 2 none, Cond.fieldLink RX7 18 "OptimaWorks$ValueDesk" "kind" "[I", Cond.fieldLink RX7 21 "OptimaWorks$ValueDesk" "a" "[I", Cond.fieldLink RX7 24 "OptimaWorks$ValueDesk" "b" "[I", Cond.fieldLink RX7 27 "OptimaWorks$ValueDesk" "c" "[I", Cond.methodLink RX7 122 yX7_narrowDifferent, Cond.instanceMethod yX7_narrowDifferent, Cond.selects RX7 yX7_narrowDifferent yX7_narrowDifferent, Cond.code yX7_narrowDifferent cX7_narrowDifferent 6 none, Cond.fieldLink RX7 50 "OptimaWorks$ValueDesk" "together" "[I", Cond.fieldLink RX7 53 "OptimaWorks$ValueDesk" "member" "[I", Cond.methodLink RX7 138 yX7_takeMembers, Cond.instanceMethod yX7_takeMembers, Cond.selects RX7 yX7_takeMembers yX7_takeMembers, Cond.code yX7_takeMembers cX7_takeMembers 4 (some .int), Cond.methodLink RX7 141 yJ6_bitCount_0f7a4, Cond.static yJ6_bitCount_0f7a4, Cond.initialized RJ6, Cond.code yJ6_bitCount_0f7a4 cJ6_bitCount_0f7a4 1 (some .int), Cond.constant RJ6 265 (1431655765), Cond.constant RJ6 266 (858993459)]
def wsX11_left_r3 : List Cond := [Cond.constant RJ6 267 (252645135), Cond.methodLink RX7 146 yX7_cutTo, Cond.instanceMethod yX7_cutTo, Cond.selects RX7 yX7_cutTo yX7_cutTo, Cond.code yX7_cutTo cX7_cutTo 3 none, Cond.methodLink RX7 125 yX7_narrowOrder, Cond.instanceMethod yX7_narrowOrder, Cond.selects RX7 yX7_narrowOrder yX7_narrowOrder, Cond.code yX7_narrowOrder cX7_narrowOrder 6 none, Cond.constant RX7 150 (65535), Cond.methodLink RX7 95 yX7_highest, Cond.static yX7_highest, Cond.code yX7_highest cX7_highest 3 (some .int), Cond.methodLink RX7 151 yX7_lowest, Cond.static yX7_lowest, Cond.code yX7_lowest cX7_lowest 2 (some .int), Cond.methodLink RX7 129 yX7_narrowSum, Cond.instanceMethod yX7_narrowSum, Cond.selects RX7 yX7_narrowSum yX7_narrowSum, Cond.code yX7_narrowSum cX7_narrowSum 6 none, Cond.fieldLink RX7 43 "OptimaWorks$ValueDesk" "fore" "[J", Cond.fieldLink RX7 47 "OptimaWorks$ValueDesk" "back" "[J", Cond.methodLink RX7 89 Lib.Math.max.name, Cond.static Lib.Math.max.name]
def wsX11_left_r4 : List Cond := [Cond.initialized "java/lang/Math", Cond.code Lib.Math.max.name Lib.Math.max.code 2 (some .int), Cond.methodLink RX7 154 yJ7_fill_d0a16, Cond.static yJ7_fill_d0a16, Cond.initialized RJ7, Cond.code yJ7_fill_d0a16 cJ7_fill_d0a16 5 none, Cond.methodLink RX7 157 yX7_moveUp, Cond.instanceMethod yX7_moveUp, Cond.selects RX7 yX7_moveUp yX7_moveUp, Cond.code yX7_moveUp cX7_moveUp 8 none, Cond.methodLink RX7 160 yX7_moveDown, Cond.instanceMethod yX7_moveDown, Cond.selects RX7 yX7_moveDown yX7_moveDown, Cond.code yX7_moveDown cX7_moveDown 11 (some .boolean), Cond.methodLink RX7 132 yX7_narrowMost, Cond.instanceMethod yX7_narrowMost, Cond.selects RX7 yX7_narrowMost yX7_narrowMost, Cond.code yX7_narrowMost cX7_narrowMost 6 none, Cond.methodLink RX7 135 yX7_narrowPairs, Cond.instanceMethod yX7_narrowPairs, Cond.selects RX7 yX7_narrowPairs yX7_narrowPairs, Cond.code yX7_narrowPairs cX7_narrowPairs 8 none, Cond.fieldLink RX7 30 "OptimaWorks$ValueDesk" "rulePairs" "[I", Cond.methodLink RX7 112 yX7_isAnyEmpty]
def wsX11_left_r5 : List Cond := [Cond.instanceMethod yX7_isAnyEmpty, Cond.selects RX7 yX7_isAnyEmpty yX7_isAnyEmpty, Cond.code yX7_isAnyEmpty cX7_isAnyEmpty 2 (some .boolean), Cond.methodLink RX7 116 yJ7_fill_53178, Cond.static yJ7_fill_53178, Cond.code yJ7_fill_53178 cJ7_fill_53178 4 none]
def wsX11_left : List Cond := .code yX11_left cX11_left 2 (some .int) :: ((wsX11_left_r1 ++ (wsX11_left_r2 ++ (wsX11_left_r3 ++ (wsX11_left_r4 ++ wsX11_left_r5)))) ++ wsX110 ++ wsX70)
theorem dX11_left_0 : decode cX11_left 0 = .ok (.aload_n 0, 1) := by decide +kernel
theorem dX11_left_1 : decode cX11_left 1 = .ok (.getfield 337, 3) := by decide +kernel
theorem dX11_left_4 : decode cX11_left 4 = .ok (.ifnull 14, 3) := by decide +kernel
theorem dX11_left_18 : decode cX11_left 18 = .ok (.iconst (-1), 1) := by decide +kernel
theorem dX11_left_19 : decode cX11_left 19 = .ok (.goto 11, 3) := by decide +kernel
theorem dX11_left_30 : decode cX11_left 30 = .ok (.ireturn, 1) := by decide +kernel
theorem iX11_left_in11 : ∀ w ∈ wsX110, w ∈ wsX11_left := fun _ h => List.mem_cons_of_mem _ (List.mem_append_left _ (List.mem_append_right _ h))
set_option maxHeartbeats 4000000 in
set_option maxRecDepth 100000 in
/-- left(h) without a desk -/
theorem c_X11_left (l : Launch) (dC : Nat → ClassId) (dI : Nat → Nat → Nat) (h0 : Nat) (a0 a1 a2 a3 : Nat) (sl : Int32) (f5 f6 f7 f9 f10 : Value) (qh : Int32) (sz : Nat) : Met l yX11_left wsX11_left ({ frames := 0, cells := 0, slots := 0, locals := 0 }) (va_Pc [.ref h0, .int qh] (fun U => U.heap.size = sz ∧ va_P (dC, dI) vwCl [(h0, .inr (11, [.ref a0, .ref a1, .ref a2, .ref a3, .int sl, f5, f6, f7, .null, f9, f10]))] U.heap ∧ va_K (dC, dI) vwCl [] U ∧ va_D (fun _ => True) [(h0, .inr (11, [.ref a0, .ref a1, .ref a2, .ref a3, .int sl, f5, f6, f7, .null, f9, f10]))])) (va_Qi (fun (r : Int32) (_u : Unit) => r = (-1)) (fun u t => va_P (dC, dI) vwCl [(h0, .inr (11, [.ref a0, .ref a1, .ref a2, .ref a3, .int sl, f5, f6, f7, .null, f9, f10]))] t.heap ∧ va_K (dC, dI) vwCl [] t ∧ va_D (va_A [(h0, .inr (11, [.ref a0, .ref a1, .ref a2, .ref a3, .int sl, f5, f6, f7, .null, f9, f10]))] sz) [(h0, .inr (11, [.ref a0, .ref a1, .ref a2, .ref a3, .int sl, f5, f6, f7, .null, f9, f10]))]) (va_A [(h0, .inr (11, [.ref a0, .ref a1, .ref a2, .ref a3, .int sl, f5, f6, f7, .null, f9, f10]))] sz)) 0 0 (va_A [(h0, .inr (11, [.ref a0, .ref a1, .ref a2, .ref a3, .int sl, f5, f6, f7, .null, f9, f10]))] sz) := by
  refine Met.ofW (cc := cX11_left) (maxL := 2) (ret := (some .int)) (by decide) rfl ?_
  intro p e s m args below meth c s₁ B hml hv
  obtain ⟨rfl, hsz, hP, hK, hD0⟩ := hv
  have hx := B.exec
  have hb := B.bytes
  have hr := B.returns
  have hts := atoms_spec (ws := wsX11_left) B.pre
  have hown : s.vm.findClass RX11 = some m.cls := findClass_of_methodNamed B.named
  have hlocks := B.notSynchronized
  subst hsz
  have hD := hD0.self (sz := s.heap.size)
  generalize hAe : va_A [(h0, .inr (11, [.ref a0, .ref a1, .ref a2, .ref a3, .int sl, f5, f6, f7, .null, f9, f10]))] s.heap.size = A at hD ⊢
  have hA : ∀ q : Nat, s.heap.size ≤ q → A q := fun q h => by rw [← hAe]; exact Or.inr h
  have hS : va_S A s.heap s.heap [] := va_S.rf
  have hP : va_P (dC, dI) vwCl [(h0, .inr (11, [.ref a0, .ref a1, .ref a2, .ref a3, .int sl, f5, f6, f7, .null, f9, f10]))] s.heap := hP
  have hl := lv_entry ([.ref h0, .int qh]) (n := 2) (Nat.le_of_ble_eq_true rfl)
  rw [lg_entry_eq]
  generalize (lg_sl ([.ref h0, .int qh]) ++ List.replicate (2 - (lg_sl ([.ref h0, .int qh])).length) Slot.unset).toArray = ls at hl ⊢
  have hl : lv_has ls 2 [(0, .ref h0), (1, .int qh)] := hl
  refine lv_aload_n hx hb dX11_left_0 rfl (lv_at hl 0 rfl) ?_
  refine va_get (D := (dC, dI)) (ci := 11) (v := .null) (C := RX11) (T := TX11) (N := 11) hx hb hts iX11_left_in11 hown hK hP 0 rfl rfl 8 (by decide) (hts (.fieldLink RX11 337 "OptimaWorks" "values" "LOptimaWorks$ValueDesk;") (by decide +kernel)) (fun _ h9 => h9) rfl dX11_left_1 ?_
  refine lv_ifnullN (tgt := 18) hx hb dX11_left_4 (by decide) ?_
  refine lv_iconst (v := (-1)) hx hb dX11_left_18 (by decide) ?_
  refine lv_goto (tgt := 30) hx hb dX11_left_19 (by decide) ?_
  refine W.widen (k := 0) (n := 0) (by decide +kernel) (by decide +kernel) ?_
  exact W.iret (v := (-1)) hx hb hr (fun t ht hW => ⟨⟨(-1), (), rfl, rfl, by rw [ht]; exact hP, va_K.moved hW.alike hK, hD⟩, hS.F ht⟩) hS.2.2 dX11_left_30
def wsX11_reason_r1 : List Cond := [Cond.fieldLink RX11 337 "OptimaWorks" "values" "LOptimaWorks$ValueDesk;", Cond.methodLink RX11 369 yX7_isHolder, Cond.instanceMethod yX7_isHolder, Cond.selects RX7 yX7_isHolder yX7_isHolder, Cond.initialized RX7, Cond.code yX7_isHolder cX7_isHolder 2 (some .boolean), Cond.fieldLink RX7 59 "OptimaWorks$ValueDesk" "holders" "I", Cond.methodLink RX11 382 yX7_reasonFor, Cond.instanceMethod yX7_reasonFor, Cond.selects RX7 yX7_reasonFor yX7_reasonFor, Cond.code yX7_reasonFor cX7_reasonFor 6 (some .int), Cond.fieldLink RX7 15 "OptimaWorks$ValueDesk" "domain" "[I", Cond.fieldLink RX7 62 "OptimaWorks$ValueDesk" "rules" "I", Cond.fieldLink RX7 36 "OptimaWorks$ValueDesk" "now" "[I", Cond.methodLink RX7 103 yX7_leftOf, Cond.instanceMethod yX7_leftOf, Cond.selects RX7 yX7_leftOf yX7_leftOf, Cond.code yX7_leftOf cX7_leftOf 2 (some .int), Cond.methodLink RX7 99 yX7_narrow, Cond.instanceMethod yX7_narrow, Cond.selects RX7 yX7_narrow yX7_narrow, Cond.code yX7_narrow cX7_narrow 4 none, Cond.fieldLink RX7 39 "OptimaWorks$ValueDesk" "doneFor" "I", Cond.methodLink RX7 83 arraycopyName]
def wsX11_reason_r2 : List Cond := [Cond.native arraycopyName, Cond.static arraycopyName, Cond.initialized "java/lang/System", Cond.fieldLink RX7 106 "OptimaWorks$ValueDesk" "changed" "Z", Cond.methodLink RX7 109 yX7_narrowBy, Cond.instanceMethod yX7_narrowBy, Cond.selects RX7 yX7_narrowBy yX7_narrowBy, Cond.code yX7_narrowBy cX7_narrowBy 2 none, Cond.fieldLink RX7 18 "OptimaWorks$ValueDesk" "kind" "[I", Cond.fieldLink RX7 21 "OptimaWorks$ValueDesk" "a" "[I", Cond.fieldLink RX7 24 "OptimaWorks$ValueDesk" "b" "[I", Cond.fieldLink RX7 27 "OptimaWorks$ValueDesk" "c" "[I", Cond.methodLink RX7 122 yX7_narrowDifferent, Cond.instanceMethod yX7_narrowDifferent, Cond.selects RX7 yX7_narrowDifferent yX7_narrowDifferent, Cond.code yX7_narrowDifferent cX7_narrowDifferent 6 none, Cond.fieldLink RX7 50 "OptimaWorks$ValueDesk" "together" "[I", Cond.fieldLink RX7 53 "OptimaWorks$ValueDesk" "member" "[I", Cond.methodLink RX7 138 yX7_takeMembers, Cond.instanceMethod yX7_takeMembers, Cond.selects RX7 yX7_takeMembers yX7_takeMembers, Cond.code yX7_takeMembers cX7_takeMembers 4 (some .int), Cond.methodLink RX7 141 yJ6_bitCount_0f7a4, Cond.static yJ6_bitCount_0f7a4]
def wsX11_reason_r3 : List Cond := [Cond.initialized RJ6, Cond.code yJ6_bitCount_0f7a4 cJ6_bitCount_0f7a4 1 (some .int), Cond.constant RJ6 265 (1431655765), Cond.constant RJ6 266 (858993459), Cond.constant RJ6 267 (252645135), Cond.methodLink RX7 146 yX7_cutTo, Cond.instanceMethod yX7_cutTo, Cond.selects RX7 yX7_cutTo yX7_cutTo, Cond.code yX7_cutTo cX7_cutTo 3 none, Cond.methodLink RX7 125 yX7_narrowOrder, Cond.instanceMethod yX7_narrowOrder, Cond.selects RX7 yX7_narrowOrder yX7_narrowOrder, Cond.code yX7_narrowOrder cX7_narrowOrder 6 none, Cond.constant RX7 150 (65535), Cond.methodLink RX7 95 yX7_highest, Cond.static yX7_highest, Cond.code yX7_highest cX7_highest 3 (some .int), Cond.methodLink RX7 151 yX7_lowest, Cond.static yX7_lowest, Cond.code yX7_lowest cX7_lowest 2 (some .int), Cond.methodLink RX7 129 yX7_narrowSum, Cond.instanceMethod yX7_narrowSum, Cond.selects RX7 yX7_narrowSum yX7_narrowSum, Cond.code yX7_narrowSum cX7_narrowSum 6 none]
def wsX11_reason_r4 : List Cond := [Cond.fieldLink RX7 43 "OptimaWorks$ValueDesk" "fore" "[J", Cond.fieldLink RX7 47 "OptimaWorks$ValueDesk" "back" "[J", Cond.methodLink RX7 89 Lib.Math.max.name, Cond.static Lib.Math.max.name, Cond.initialized "java/lang/Math", Cond.code Lib.Math.max.name Lib.Math.max.code 2 (some .int), Cond.methodLink RX7 154 yJ7_fill_d0a16, Cond.static yJ7_fill_d0a16, Cond.initialized RJ7, Cond.code yJ7_fill_d0a16 cJ7_fill_d0a16 5 none, Cond.methodLink RX7 157 yX7_moveUp, Cond.instanceMethod yX7_moveUp, Cond.selects RX7 yX7_moveUp yX7_moveUp, Cond.code yX7_moveUp cX7_moveUp 8 none, Cond.methodLink RX7 160 yX7_moveDown, Cond.instanceMethod yX7_moveDown, Cond.selects RX7 yX7_moveDown yX7_moveDown, Cond.code yX7_moveDown cX7_moveDown 11 (some .boolean), Cond.methodLink RX7 132 yX7_narrowMost, Cond.instanceMethod yX7_narrowMost, Cond.selects RX7 yX7_narrowMost yX7_narrowMost, Cond.code yX7_narrowMost cX7_narrowMost 6 none, Cond.methodLink RX7 135 yX7_narrowPairs, Cond.instanceMethod yX7_narrowPairs]
def wsX11_reason_r5 : List Cond := [Cond.selects RX7 yX7_narrowPairs yX7_narrowPairs, Cond.code yX7_narrowPairs cX7_narrowPairs 8 none, Cond.fieldLink RX7 30 "OptimaWorks$ValueDesk" "rulePairs" "[I", Cond.methodLink RX7 112 yX7_isAnyEmpty, Cond.instanceMethod yX7_isAnyEmpty, Cond.selects RX7 yX7_isAnyEmpty yX7_isAnyEmpty, Cond.code yX7_isAnyEmpty cX7_isAnyEmpty 2 (some .boolean), Cond.methodLink RX7 116 yJ7_fill_53178, Cond.static yJ7_fill_53178, Cond.code yJ7_fill_53178 cJ7_fill_53178 4 none]
def wsX11_reason : List Cond := .code yX11_reason cX11_reason 3 (some .int) :: ((wsX11_reason_r1 ++ (wsX11_reason_r2 ++ (wsX11_reason_r3 ++ (wsX11_reason_r4 ++ wsX11_reason_r5)))) ++ wsX110 ++ wsX70)
theorem dX11_reason_0 : decode cX11_reason 0 = .ok (.aload_n 0, 1) := by decide +kernel
theorem dX11_reason_1 : decode cX11_reason 1 = .ok (.getfield 337, 3) := by decide +kernel
theorem dX11_reason_4 : decode cX11_reason 4 = .ok (.ifnull 24, 3) := by decide +kernel
theorem dX11_reason_28 : decode cX11_reason 28 = .ok (.iconst (-1), 1) := by decide +kernel
theorem dX11_reason_29 : decode cX11_reason 29 = .ok (.ireturn, 1) := by decide +kernel
theorem iX11_reason_in11 : ∀ w ∈ wsX110, w ∈ wsX11_reason := fun _ h => List.mem_cons_of_mem _ (List.mem_append_left _ (List.mem_append_right _ h))
set_option maxHeartbeats 4000000 in
set_option maxRecDepth 100000 in
/-- reason(h, v) without a desk -/
theorem c_X11_reason (l : Launch) (dC : Nat → ClassId) (dI : Nat → Nat → Nat) (h0 : Nat) (a0 a1 a2 a3 : Nat) (sl : Int32) (f5 f6 f7 f9 f10 : Value) (qh qv : Int32) (sz : Nat) : Met l yX11_reason wsX11_reason ({ frames := 0, cells := 0, slots := 0, locals := 0 }) (va_Pc [.ref h0, .int qh, .int qv] (fun U => U.heap.size = sz ∧ va_P (dC, dI) vwCl [(h0, .inr (11, [.ref a0, .ref a1, .ref a2, .ref a3, .int sl, f5, f6, f7, .null, f9, f10]))] U.heap ∧ va_K (dC, dI) vwCl [] U ∧ va_D (fun _ => True) [(h0, .inr (11, [.ref a0, .ref a1, .ref a2, .ref a3, .int sl, f5, f6, f7, .null, f9, f10]))])) (va_Qi (fun (r : Int32) (_u : Unit) => r = (-1)) (fun u t => va_P (dC, dI) vwCl [(h0, .inr (11, [.ref a0, .ref a1, .ref a2, .ref a3, .int sl, f5, f6, f7, .null, f9, f10]))] t.heap ∧ va_K (dC, dI) vwCl [] t ∧ va_D (va_A [(h0, .inr (11, [.ref a0, .ref a1, .ref a2, .ref a3, .int sl, f5, f6, f7, .null, f9, f10]))] sz) [(h0, .inr (11, [.ref a0, .ref a1, .ref a2, .ref a3, .int sl, f5, f6, f7, .null, f9, f10]))]) (va_A [(h0, .inr (11, [.ref a0, .ref a1, .ref a2, .ref a3, .int sl, f5, f6, f7, .null, f9, f10]))] sz)) 0 0 (va_A [(h0, .inr (11, [.ref a0, .ref a1, .ref a2, .ref a3, .int sl, f5, f6, f7, .null, f9, f10]))] sz) := by
  refine Met.ofW (cc := cX11_reason) (maxL := 3) (ret := (some .int)) (by decide) rfl ?_
  intro p e s m args below meth c s₁ B hml hv
  obtain ⟨rfl, hsz, hP, hK, hD0⟩ := hv
  have hx := B.exec
  have hb := B.bytes
  have hr := B.returns
  have hts := atoms_spec (ws := wsX11_reason) B.pre
  have hown : s.vm.findClass RX11 = some m.cls := findClass_of_methodNamed B.named
  have hlocks := B.notSynchronized
  subst hsz
  have hD := hD0.self (sz := s.heap.size)
  generalize hAe : va_A [(h0, .inr (11, [.ref a0, .ref a1, .ref a2, .ref a3, .int sl, f5, f6, f7, .null, f9, f10]))] s.heap.size = A at hD ⊢
  have hA : ∀ q : Nat, s.heap.size ≤ q → A q := fun q h => by rw [← hAe]; exact Or.inr h
  have hS : va_S A s.heap s.heap [] := va_S.rf
  have hP : va_P (dC, dI) vwCl [(h0, .inr (11, [.ref a0, .ref a1, .ref a2, .ref a3, .int sl, f5, f6, f7, .null, f9, f10]))] s.heap := hP
  have hl := lv_entry ([.ref h0, .int qh, .int qv]) (n := 3) (Nat.le_of_ble_eq_true rfl)
  rw [lg_entry_eq]
  generalize (lg_sl ([.ref h0, .int qh, .int qv]) ++ List.replicate (3 - (lg_sl ([.ref h0, .int qh, .int qv])).length) Slot.unset).toArray = ls at hl ⊢
  have hl : lv_has ls 3 [(0, .ref h0), (1, .int qh), (2, .int qv)] := hl
  refine lv_aload_n hx hb dX11_reason_0 rfl (lv_at hl 0 rfl) ?_
  refine va_get (D := (dC, dI)) (ci := 11) (v := .null) (C := RX11) (T := TX11) (N := 11) hx hb hts iX11_reason_in11 hown hK hP 0 rfl rfl 8 (by decide) (hts (.fieldLink RX11 337 "OptimaWorks" "values" "LOptimaWorks$ValueDesk;") (by decide +kernel)) (fun _ h9 => h9) rfl dX11_reason_1 ?_
  refine lv_ifnullN (tgt := 28) hx hb dX11_reason_4 (by decide) ?_
  refine lv_iconst (v := (-1)) hx hb dX11_reason_28 (by decide) ?_
  refine W.widen (k := 0) (n := 0) (by decide +kernel) (by decide +kernel) ?_
  exact W.iret (v := (-1)) hx hb hr (fun t ht hW => ⟨⟨(-1), (), rfl, rfl, by rw [ht]; exact hP, va_K.moved hW.alike hK, hD⟩, hS.F ht⟩) hS.2.2 dX11_reason_29
def wsX11_letter : List Cond := .code yX11_letter cX11_letter 2 (some .int) :: ([.fieldLink RX11 138 "OptimaWorks" "sheetLength" "I", .fieldLink RX11 27 "OptimaWorks" "sheet" "[B"] ++ wsX110)
theorem dX11_letter_0 : decode cX11_letter 0 = .ok (.iload_n 1, 1) := by decide +kernel
theorem dX11_letter_1 : decode cX11_letter 1 = .ok (.ifCond .lt 11, 3) := by decide +kernel
theorem dX11_letter_4 : decode cX11_letter 4 = .ok (.iload_n 1, 1) := by decide +kernel
theorem dX11_letter_5 : decode cX11_letter 5 = .ok (.aload_n 0, 1) := by decide +kernel
theorem dX11_letter_6 : decode cX11_letter 6 = .ok (.getfield 138, 3) := by decide +kernel
theorem dX11_letter_9 : decode cX11_letter 9 = .ok (.if_icmp .lt 7, 3) := by decide +kernel
theorem dX11_letter_12 : decode cX11_letter 12 = .ok (.iconst (-1), 1) := by decide +kernel
theorem dX11_letter_13 : decode cX11_letter 13 = .ok (.goto 9, 3) := by decide +kernel
theorem dX11_letter_16 : decode cX11_letter 16 = .ok (.aload_n 0, 1) := by decide +kernel
theorem dX11_letter_17 : decode cX11_letter 17 = .ok (.getfield 27, 3) := by decide +kernel
theorem dX11_letter_20 : decode cX11_letter 20 = .ok (.iload_n 1, 1) := by decide +kernel
theorem dX11_letter_21 : decode cX11_letter 21 = .ok (.baload, 1) := by decide +kernel
theorem dX11_letter_22 : decode cX11_letter 22 = .ok (.ireturn, 1) := by decide +kernel
theorem iX11_letter_in11 : ∀ w ∈ wsX110, w ∈ wsX11_letter := fun _ h => List.mem_cons_of_mem _ (List.mem_append_right _ h)
set_option maxHeartbeats 4000000 in
set_option maxRecDepth 100000 in
/-- letter(i) -/
theorem c_X11_letter (l : Launch) (dC : Nat → ClassId) (dI : Nat → Nat → Nat) (h0 : Nat) (a0 a1 a2 a3 : Nat) (sl : Int32) (f5 f6 f7 f8 f9 f10 : Value) (kS : ClassId) (ns : Nat) (sh : Nat → Int32) (hsl : sl.toInt ≤ (ns : Int)) (qi : Int32) (sz : Nat) : Met l yX11_letter wsX11_letter ({ frames := 0, cells := 0, slots := 0, locals := 0 }) (va_Pc [.ref h0, .int qi] (fun U => U.heap.size = sz ∧ va_P (dC, dI) vwCl [(h0, .inr (11, [.ref a0, .ref a1, .ref a2, .ref a3, .int sl, f5, f6, f7, f8, f9, f10])), (a3, .inl (kS, ns, .inl sh))] U.heap ∧ va_K (dC, dI) vwCl [(kS, .byte)] U ∧ va_D (fun _ => True) [(h0, .inr (11, [.ref a0, .ref a1, .ref a2, .ref a3, .int sl, f5, f6, f7, f8, f9, f10])), (a3, .inl (kS, ns, .inl sh))])) (va_Qi (fun (r : Int32) (_u : Unit) => r = (if qi < 0 then -1 else if qi < sl then sh qi.toNatClampNeg else -1)) (fun u t => va_P (dC, dI) vwCl [(h0, .inr (11, [.ref a0, .ref a1, .ref a2, .ref a3, .int sl, f5, f6, f7, f8, f9, f10])), (a3, .inl (kS, ns, .inl sh))] t.heap ∧ va_K (dC, dI) vwCl [(kS, .byte)] t ∧ va_D (va_A [(h0, .inr (11, [.ref a0, .ref a1, .ref a2, .ref a3, .int sl, f5, f6, f7, f8, f9, f10])), (a3, .inl (kS, ns, .inl sh))] sz) [(h0, .inr (11, [.ref a0, .ref a1, .ref a2, .ref a3, .int sl, f5, f6, f7, f8, f9, f10])), (a3, .inl (kS, ns, .inl sh))]) (va_A [(h0, .inr (11, [.ref a0, .ref a1, .ref a2, .ref a3, .int sl, f5, f6, f7, f8, f9, f10])), (a3, .inl (kS, ns, .inl sh))] sz)) 0 0 (va_A [(h0, .inr (11, [.ref a0, .ref a1, .ref a2, .ref a3, .int sl, f5, f6, f7, f8, f9, f10])), (a3, .inl (kS, ns, .inl sh))] sz) := by
  refine Met.ofW (cc := cX11_letter) (maxL := 2) (ret := (some .int)) (by decide) rfl ?_
  intro p e s m args below meth c s₁ B hml hv
  obtain ⟨rfl, hsz, hP, hK, hD0⟩ := hv
  have hx := B.exec
  have hb := B.bytes
  have hr := B.returns
  have hts := atoms_spec (ws := wsX11_letter) B.pre
  have hown : s.vm.findClass RX11 = some m.cls := findClass_of_methodNamed B.named
  have hlocks := B.notSynchronized
  subst hsz
  have hD := hD0.self (sz := s.heap.size)
  generalize hAe : va_A [(h0, .inr (11, [.ref a0, .ref a1, .ref a2, .ref a3, .int sl, f5, f6, f7, f8, f9, f10])), (a3, .inl (kS, ns, .inl sh))] s.heap.size = A at hD ⊢
  have hA : ∀ q : Nat, s.heap.size ≤ q → A q := fun q h => by rw [← hAe]; exact Or.inr h
  have hS : va_S A s.heap s.heap [] := va_S.rf
  have hP : va_P (dC, dI) vwCl [(h0, .inr (11, [.ref a0, .ref a1, .ref a2, .ref a3, .int sl, f5, f6, f7, f8, f9, f10])), (a3, .inl (kS, ns, .inl sh))] s.heap := hP
  have hl := lv_entry ([.ref h0, .int qi]) (n := 2) (Nat.le_of_ble_eq_true rfl)
  rw [lg_entry_eq]
  generalize (lg_sl ([.ref h0, .int qi]) ++ List.replicate (2 - (lg_sl ([.ref h0, .int qi])).length) Slot.unset).toArray = ls at hl ⊢
  have hl : lv_has ls 2 [(0, .ref h0), (1, .int qi)] := hl
  refine lv_iload_n hx hb dX11_letter_0 rfl (lv_at hl 1 rfl) ?_
  refine lv_if_lt (tgt := 12) hx hb dX11_letter_1 (by decide) (fun c_1 => ?_) (fun c_1 => ?_)
  · refine lv_iconst (v := (-1)) hx hb dX11_letter_12 (by decide) ?_
    refine lv_goto (tgt := 22) hx hb dX11_letter_13 (by decide) ?_
    refine W.widen (k := 0) (n := 0) (by decide +kernel) (by decide +kernel) ?_
    exact W.iret (v := (-1)) hx hb hr (fun t ht hW => ⟨⟨(-1), (), rfl, by simp [c_1], by rw [ht]; exact hP, va_K.moved hW.alike hK, hD⟩, hS.F ht⟩) hS.2.2 dX11_letter_22
  · refine lv_iload_n hx hb dX11_letter_4 rfl (lv_at hl 1 rfl) ?_
    refine lv_aload_n hx hb dX11_letter_5 rfl (lv_at hl 0 rfl) ?_
    refine va_get (D := (dC, dI)) (ci := 11) (v := .int sl) (C := RX11) (T := TX11) (N := 11) hx hb hts iX11_letter_in11 hown hK hP 0 rfl rfl 4 (by decide) (hts (.fieldLink RX11 138 "OptimaWorks" "sheetLength" "I") (by decide +kernel)) (fun _ h9 => h9) rfl dX11_letter_6 ?_
    refine lv_icmp_lt (tgt := 16) hx hb dX11_letter_9 (by decide) (fun c_9 => ?_) (fun c_9 => ?_)
    · refine lv_aload_n hx hb dX11_letter_16 rfl (lv_at hl 0 rfl) ?_
      refine va_get (D := (dC, dI)) (ci := 11) (v := .ref a3) (C := RX11) (T := TX11) (N := 11) hx hb hts iX11_letter_in11 hown hK hP 0 rfl rfl 3 (by decide) (hts (.fieldLink RX11 27 "OptimaWorks" "sheet" "[B") (by decide +kernel)) (fun _ h9 => h9) rfl dX11_letter_17 ?_
      refine lv_iload_n hx hb dX11_letter_20 rfl (lv_at hl 1 rfl) ?_
      refine va_bald hx hb hK hP 1 0 rfl rfl (vp_in_iff.mpr (by have t_c_1 : ¬ (qi : Int32).toInt < (0 : Int32).toInt := fun h => c_1 ((Int32.lt_iff_toInt_lt).mpr h); have t_c_9 : (qi : Int32).toInt < (sl : Int32).toInt := (Int32.lt_iff_toInt_lt).mp c_9; have z2 : (0 : Int32).toInt = 0 := (by decide); have e_0 := hsl; omega)) dX11_letter_21 ?_
      refine W.widen (k := 0) (n := 0) (by decide +kernel) (by decide +kernel) ?_
      exact W.iret (v := (sh (qi).toNatClampNeg)) hx hb hr (fun t ht hW => ⟨⟨(sh (qi).toNatClampNeg), (), rfl, by simp [c_1, c_9], by rw [ht]; exact hP, va_K.moved hW.alike hK, hD⟩, hS.F ht⟩) hS.2.2 dX11_letter_22
    · refine lv_iconst (v := (-1)) hx hb dX11_letter_12 (by decide) ?_
      refine lv_goto (tgt := 22) hx hb dX11_letter_13 (by decide) ?_
      refine W.widen (k := 0) (n := 0) (by decide +kernel) (by decide +kernel) ?_
      exact W.iret (v := (-1)) hx hb hr (fun t ht hW => ⟨⟨(-1), (), rfl, by simp [c_1, c_9], by rw [ht]; exact hP, va_K.moved hW.alike hK, hD⟩, hS.F ht⟩) hS.2.2 dX11_letter_22

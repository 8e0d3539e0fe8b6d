def wsX11_variable : List Cond := .code yX11_variable cX11_variable 3 (some .int) :: ([.classLink RX11 93 "java/lang/IndexOutOfBoundsException", .initialized "java/lang/IndexOutOfBoundsException", .fieldLink RX11 23 "OptimaWorks" "model" "LOptimaWorks$Model;", .fieldLink RX11 84 "OptimaWorks$Model" "variables" "I", .fieldLink RX11 96 "OptimaWorks$Model" "from" "[I", .fieldLink RX11 99 "OptimaWorks$Model" "to" "[I", .fieldLink RX11 102 "OptimaWorks$Model" "whole" "[Z"] ++ wsX110 ++ wsX10 ++ (vx_at0 RX11 95 "java/lang/IndexOutOfBoundsException" ["java/lang/RuntimeException", "java/lang/Exception"]).filter goodWord)
theorem dX11_variable_0 : decode cX11_variable 0 = .ok (.iload_n 1, 1) := by decide +kernel
theorem dX11_variable_1 : decode cX11_variable 1 = .ok (.ifCond .lt 14, 3) := by decide +kernel
theorem dX11_variable_4 : decode cX11_variable 4 = .ok (.iload_n 1, 1) := by decide +kernel
theorem dX11_variable_5 : decode cX11_variable 5 = .ok (.aload_n 0, 1) := by decide +kernel
theorem dX11_variable_6 : decode cX11_variable 6 = .ok (.getfield 23, 3) := by decide +kernel
theorem dX11_variable_9 : decode cX11_variable 9 = .ok (.getfield 84, 3) := by decide +kernel
theorem dX11_variable_12 : decode cX11_variable 12 = .ok (.if_icmp .lt 11, 3) := by decide +kernel
theorem dX11_variable_15 : decode cX11_variable 15 = .ok (.new 93, 3) := by decide +kernel
theorem dX11_variable_18 : decode cX11_variable 18 = .ok (.dup, 1) := by decide +kernel
theorem dX11_variable_19 : decode cX11_variable 19 = .ok (.invokespecial 95, 3) := by decide +kernel
theorem dX11_variable_22 : decode cX11_variable 22 = .ok (.athrow, 1) := by decide +kernel
theorem dX11_variable_23 : decode cX11_variable 23 = .ok (.iload_n 2, 1) := by decide +kernel
theorem dX11_variable_24 : decode cX11_variable 24 = .ok (.tableswitch 66 0 2 #[28, 38, 48], 28) := by decide +kernel
theorem dX11_variable_52 : decode cX11_variable 52 = .ok (.aload_n 0, 1) := by decide +kernel
theorem dX11_variable_53 : decode cX11_variable 53 = .ok (.getfield 23, 3) := by decide +kernel
theorem dX11_variable_56 : decode cX11_variable 56 = .ok (.getfield 96, 3) := by decide +kernel
theorem dX11_variable_59 : decode cX11_variable 59 = .ok (.iload_n 1, 1) := by decide +kernel
theorem dX11_variable_60 : decode cX11_variable 60 = .ok (.iaload, 1) := by decide +kernel
theorem dX11_variable_61 : decode cX11_variable 61 = .ok (.ireturn, 1) := by decide +kernel
theorem dX11_variable_62 : decode cX11_variable 62 = .ok (.aload_n 0, 1) := by decide +kernel
theorem dX11_variable_63 : decode cX11_variable 63 = .ok (.getfield 23, 3) := by decide +kernel
theorem dX11_variable_66 : decode cX11_variable 66 = .ok (.getfield 99, 3) := by decide +kernel
theorem dX11_variable_69 : decode cX11_variable 69 = .ok (.iload_n 1, 1) := by decide +kernel
theorem dX11_variable_70 : decode cX11_variable 70 = .ok (.iaload, 1) := by decide +kernel
theorem dX11_variable_71 : decode cX11_variable 71 = .ok (.ireturn, 1) := by decide +kernel
theorem dX11_variable_72 : decode cX11_variable 72 = .ok (.aload_n 0, 1) := by decide +kernel
theorem dX11_variable_73 : decode cX11_variable 73 = .ok (.getfield 23, 3) := by decide +kernel
theorem dX11_variable_76 : decode cX11_variable 76 = .ok (.getfield 102, 3) := by decide +kernel
theorem dX11_variable_79 : decode cX11_variable 79 = .ok (.iload_n 1, 1) := by decide +kernel
theorem dX11_variable_80 : decode cX11_variable 80 = .ok (.baload, 1) := by decide +kernel
theorem dX11_variable_81 : decode cX11_variable 81 = .ok (.ifCond .eq 7, 3) := by decide +kernel
theorem dX11_variable_84 : decode cX11_variable 84 = .ok (.iconst 1, 1) := by decide +kernel
theorem dX11_variable_85 : decode cX11_variable 85 = .ok (.goto 4, 3) := by decide +kernel
theorem dX11_variable_88 : decode cX11_variable 88 = .ok (.iconst 0, 1) := by decide +kernel
theorem dX11_variable_89 : decode cX11_variable 89 = .ok (.ireturn, 1) := by decide +kernel
theorem dX11_variable_90 : decode cX11_variable 90 = .ok (.iconst (-1), 1) := by decide +kernel
theorem dX11_variable_91 : decode cX11_variable 91 = .ok (.ireturn, 1) := by decide +kernel
def ngX11_95 : List Cond := (vx_at0 RX11 95 "java/lang/IndexOutOfBoundsException" ["java/lang/RuntimeException", "java/lang/Exception"]).filter (fun w => !goodWord w)
theorem ngX11_95_ot : ∀ w ∈ ngX11_95, w.onTables = true := by decide +kernel
theorem ngX11_95_cd : ∀ w ∈ ngX11_95, isCD w = true := by decide +kernel
theorem iX11_variable_in1 : ∀ w ∈ wsX10, w ∈ wsX11_variable := fun _ h => List.mem_cons_of_mem _ (List.mem_append_left _ (List.mem_append_right _ h))
theorem iX11_variable_in11 : ∀ w ∈ wsX110, w ∈ wsX11_variable := fun _ h => List.mem_cons_of_mem _ (List.mem_append_left _ (List.mem_append_left _ (List.mem_append_right _ h)))
set_option maxHeartbeats 4000000 in
set_option maxRecDepth 100000 in
/-- variable(k, what) -/
theorem x_X11_variable (l : Launch) (hst : l.stackTraces = false) (dC : Nat → ClassId) (dI : Nat → Nat → Nat) (h0 : Nat) (a0 a1 a2 a3 : Nat) (sl : Int32) (f5 f6 f7 f8 f9 f10 : Value) (st nv nr ng nd nc : Int32) (m6 m7 m8 : Nat) (g9 : Value) (pr : Int32) (g11 g12 g13 g14 g15 g16 : Value) (k6 k7 k8 : ClassId) (fr to wh : Nat → Int32) (hnv : nv.toInt ≤ ((8 : Nat) : Int)) (k what : Int32) (sz : Nat) : vx_Met l yX11_variable wsX11_variable ({ frames := 6, cells := 1, slots := 6, locals := 81 }) (va_Pc [.ref h0, .int k, .int what] (fun U => U.heap.size = sz ∧ va_P (dC, dI) vwCl [(h0, .inr (11, [.ref a0, .ref a1, .ref a2, .ref a3, .int sl, f5, f6, f7, f8, f9, f10])), (a2, .inr (1, [.int st, .int nv, .int nr, .int ng, .int nd, .int nc, .ref m6, .ref m7, .ref m8, g9, .int pr, g11, g12, g13, g14, g15, g16])), (m6, .inl (k6, 8, .inl fr)), (m7, .inl (k7, 8, .inl to)), (m8, .inl (k8, 8, .inl wh))] U.heap ∧ va_K (dC, dI) vwCl [(k6, .int), (k7, .int), (k8, .boolean)] U ∧ va_D (fun _ => True) [(h0, .inr (11, [.ref a0, .ref a1, .ref a2, .ref a3, .int sl, f5, f6, f7, f8, f9, f10])), (a2, .inr (1, [.int st, .int nv, .int nr, .int ng, .int nd, .int nc, .ref m6, .ref m7, .ref m8, g9, .int pr, g11, g12, g13, g14, g15, g16])), (m6, .inl (k6, 8, .inl fr)), (m7, .inl (k7, 8, .inl to)), (m8, .inl (k8, 8, .inl wh))] ∧ vx_Zq Bundle.tN "UNASSIGNED_STACK" Bundle.steD (va_A [(h0, .inr (11, [.ref a0, .ref a1, .ref a2, .ref a3, .int sl, f5, f6, f7, f8, f9, f10])), (a2, .inr (1, [.int st, .int nv, .int nr, .int ng, .int nd, .int nc, .ref m6, .ref m7, .ref m8, g9, .int pr, g11, g12, g13, g14, g15, g16])), (m6, .inl (k6, 8, .inl fr)), (m7, .inl (k7, 8, .inl to)), (m8, .inl (k8, 8, .inl wh))] sz) U U.heap ∧ vx_Zq Bundle.tN "SUPPRESSED_SENTINEL" Bundle.listD (va_A [(h0, .inr (11, [.ref a0, .ref a1, .ref a2, .ref a3, .int sl, f5, f6, f7, f8, f9, f10])), (a2, .inr (1, [.int st, .int nv, .int nr, .int ng, .int nd, .int nc, .ref m6, .ref m7, .ref m8, g9, .int pr, g11, g12, g13, g14, g15, g16])), (m6, .inl (k6, 8, .inl fr)), (m7, .inl (k7, 8, .inl to)), (m8, .inl (k8, 8, .inl wh))] sz) U U.heap ∧ (∀ w ∈ ngX11_95, va_Nw w U))) (va_Qi (fun (r : Int32) (_ : Unit) => (¬ k < 0 ∧ k < nv) ∧ r = (if what = 0 then fr k.toNatClampNeg else if what = 1 then to k.toNatClampNeg else if what = 2 then (if wh k.toNatClampNeg = 0 then 0 else 1) else -1)) (fun _ t => va_P (dC, dI) vwCl [(h0, .inr (11, [.ref a0, .ref a1, .ref a2, .ref a3, .int sl, f5, f6, f7, f8, f9, f10])), (a2, .inr (1, [.int st, .int nv, .int nr, .int ng, .int nd, .int nc, .ref m6, .ref m7, .ref m8, g9, .int pr, g11, g12, g13, g14, g15, g16])), (m6, .inl (k6, 8, .inl fr)), (m7, .inl (k7, 8, .inl to)), (m8, .inl (k8, 8, .inl wh))] t.heap ∧ va_K (dC, dI) vwCl [(k6, .int), (k7, .int), (k8, .boolean)] t ∧ va_D (va_A [(h0, .inr (11, [.ref a0, .ref a1, .ref a2, .ref a3, .int sl, f5, f6, f7, f8, f9, f10])), (a2, .inr (1, [.int st, .int nv, .int nr, .int ng, .int nd, .int nc, .ref m6, .ref m7, .ref m8, g9, .int pr, g11, g12, g13, g14, g15, g16])), (m6, .inl (k6, 8, .inl fr)), (m7, .inl (k7, 8, .inl to)), (m8, .inl (k8, 8, .inl wh))] sz) [(h0, .inr (11, [.ref a0, .ref a1, .ref a2, .ref a3, .int sl, f5, f6, f7, f8, f9, f10])), (a2, .inr (1, [.int st, .int nv, .int nr, .int ng, .int nd, .int nc, .ref m6, .ref m7, .ref m8, g9, .int pr, g11, g12, g13, g14, g15, g16])), (m6, .inl (k6, 8, .inl fr)), (m7, .inl (k7, 8, .inl to)), (m8, .inl (k8, 8, .inl wh))]) (va_A [(h0, .inr (11, [.ref a0, .ref a1, .ref a2, .ref a3, .int sl, f5, f6, f7, f8, f9, f10])), (a2, .inr (1, [.int st, .int nv, .int nr, .int ng, .int nd, .int nc, .ref m6, .ref m7, .ref m8, g9, .int pr, g11, g12, g13, g14, g15, g16])), (m6, .inl (k6, 8, .inl fr)), (m7, .inl (k7, 8, .inl to)), (m8, .inl (k8, 8, .inl wh))] sz)) (vx_X (fun n : String => (n = "java/lang/IndexOutOfBoundsException" ∧ (k < 0 ∨ ¬ k < nv))) (fun E n t => E = n ∧ va_P (dC, dI) vwCl [(h0, .inr (11, [.ref a0, .ref a1, .ref a2, .ref a3, .int sl, f5, f6, f7, f8, f9, f10])), (a2, .inr (1, [.int st, .int nv, .int nr, .int ng, .int nd, .int nc, .ref m6, .ref m7, .ref m8, g9, .int pr, g11, g12, g13, g14, g15, g16])), (m6, .inl (k6, 8, .inl fr)), (m7, .inl (k7, 8, .inl to)), (m8, .inl (k8, 8, .inl wh))] t.heap ∧ va_K (dC, dI) vwCl [(k6, .int), (k7, .int), (k8, .boolean)] t ∧ va_D (va_A [(h0, .inr (11, [.ref a0, .ref a1, .ref a2, .ref a3, .int sl, f5, f6, f7, f8, f9, f10])), (a2, .inr (1, [.int st, .int nv, .int nr, .int ng, .int nd, .int nc, .ref m6, .ref m7, .ref m8, g9, .int pr, g11, g12, g13, g14, g15, g16])), (m6, .inl (k6, 8, .inl fr)), (m7, .inl (k7, 8, .inl to)), (m8, .inl (k8, 8, .inl wh))] sz) [(h0, .inr (11, [.ref a0, .ref a1, .ref a2, .ref a3, .int sl, f5, f6, f7, f8, f9, f10])), (a2, .inr (1, [.int st, .int nv, .int nr, .int ng, .int nd, .int nc, .ref m6, .ref m7, .ref m8, g9, .int pr, g11, g12, g13, g14, g15, g16])), (m6, .inl (k6, 8, .inl fr)), (m7, .inl (k7, 8, .inl to)), (m8, .inl (k8, 8, .inl wh))]) (va_A [(h0, .inr (11, [.ref a0, .ref a1, .ref a2, .ref a3, .int sl, f5, f6, f7, f8, f9, f10])), (a2, .inr (1, [.int st, .int nv, .int nr, .int ng, .int nd, .int nc, .ref m6, .ref m7, .ref m8, g9, .int pr, g11, g12, g13, g14, g15, g16])), (m6, .inl (k6, 8, .inl fr)), (m7, .inl (k7, 8, .inl to)), (m8, .inl (k8, 8, .inl wh))] sz)) 1 6 (va_A [(h0, .inr (11, [.ref a0, .ref a1, .ref a2, .ref a3, .int sl, f5, f6, f7, f8, f9, f10])), (a2, .inr (1, [.int st, .int nv, .int nr, .int ng, .int nd, .int nc, .ref m6, .ref m7, .ref m8, g9, .int pr, g11, g12, g13, g14, g15, g16])), (m6, .inl (k6, 8, .inl fr)), (m7, .inl (k7, 8, .inl to)), (m8, .inl (k8, 8, .inl wh))] sz) := by
  refine vx_ofW (cc := cX11_variable) (maxL := 3) (ret := (some .int)) (by decide) rfl ?_
  intro p e s m args below meth c s₁ B hml htab hv
  obtain ⟨rfl, hsz, hP, hK, hD0, hU, hN, hngX11_95⟩ := hv
  have hx := B.exec
  have hb := B.bytes
  have hr := B.returns
  have hts := atoms_spec (ws := wsX11_variable) B.pre
  have hown : s.vm.findClass RX11 = some m.cls := findClass_of_methodNamed B.named
  have hlocks := B.notSynchronized
  subst hsz
  have hD := hD0.self (sz := s.heap.size)
  generalize hAe : va_A [(h0, .inr (11, [.ref a0, .ref a1, .ref a2, .ref a3, .int sl, f5, f6, f7, f8, f9, f10])), (a2, .inr (1, [.int st, .int nv, .int nr, .int ng, .int nd, .int nc, .ref m6, .ref m7, .ref m8, g9, .int pr, g11, g12, g13, g14, g15, g16])), (m6, .inl (k6, 8, .inl fr)), (m7, .inl (k7, 8, .inl to)), (m8, .inl (k8, 8, .inl wh))] s.heap.size = A at hD hU hN ⊢
  have hA : ∀ q : Nat, s.heap.size ≤ q → A q := fun q h => by rw [← hAe]; exact Or.inr h
  have hS : va_S A s.heap s.heap [] := va_S.rf
  have hP : va_P (dC, dI) vwCl [(h0, .inr (11, [.ref a0, .ref a1, .ref a2, .ref a3, .int sl, f5, f6, f7, f8, f9, f10])), (a2, .inr (1, [.int st, .int nv, .int nr, .int ng, .int nd, .int nc, .ref m6, .ref m7, .ref m8, g9, .int pr, g11, g12, g13, g14, g15, g16])), (m6, .inl (k6, 8, .inl fr)), (m7, .inl (k7, 8, .inl to)), (m8, .inl (k8, 8, .inl wh))] s.heap := hP
  have hl := lv_entry ([.ref h0, .int k, .int what]) (n := 3) (Nat.le_of_ble_eq_true rfl)
  rw [lg_entry_eq]
  generalize (lg_sl ([.ref h0, .int k, .int what]) ++ List.replicate (3 - (lg_sl ([.ref h0, .int k, .int what])).length) Slot.unset).toArray = ls at hl ⊢
  have hl : lv_has ls 3 [(0, .ref h0), (1, .int k), (2, .int what)] := hl
  refine lv_iload_n hx hb dX11_variable_0 rfl (lv_at hl 1 rfl) ?_
  refine lv_if_lt (tgt := 15) hx hb dX11_variable_1 (by decide) (fun c_1 => ?_) (fun c_1 => ?_)
  · exact vx_throw0 (own := RX11) (cls := "java/lang/IndexOutOfBoundsException") (names := ["java/lang/RuntimeException", "java/lang/Exception"]) (ik := 93) (ic := 95) (A := A) hx hb hst hown (by decide +kernel) (by decide +kernel) (hts (.classLink RX11 93 "java/lang/IndexOutOfBoundsException") (by decide +kernel)) (hts (.initialized "java/lang/IndexOutOfBoundsException") (by decide +kernel)) (vx_hat (B := ngX11_95) (fun w h => hts w (List.mem_cons_of_mem _ (List.mem_append_right _ h))) (fun _ h => h) (fun w h => va_Nw.use (ngX11_95_ot w h) (hngX11_95 w h))) (by decide +kernel) hU hN hS (by rw [hml]; exact hl.1) dX11_variable_15 dX11_variable_18 dX11_variable_19 dX11_variable_22 (fun x hx9 => (htab x hx9).elim) (by decide +kernel) (Nat.le_of_ble_eq_true rfl) (by decide +kernel) (by decide +kernel) hlocks (fun t hvm hz hk => ⟨"java/lang/IndexOutOfBoundsException", ⟨rfl, by simp [c_1]⟩, ⟨rfl, hP.kept (fun k q h => hk q.1 ((hP k q h).lt)), va_K.moved hvm hK, hD⟩, ⟨Nat.le_trans hS.1 hz, fun q h1 h2 => (hk q (Nat.lt_of_lt_of_le h1 hS.1)).trans (hS.2.1 q h1 h2)⟩⟩) hS.2.2 (by decide +kernel) (by decide +kernel)
  · refine lv_iload_n hx hb dX11_variable_4 rfl (lv_at hl 1 rfl) ?_
    refine lv_aload_n hx hb dX11_variable_5 rfl (lv_at hl 0 rfl) ?_
    refine va_get (D := (dC, dI)) (ci := 11) (v := .ref a2) (C := RX11) (T := TX11) (N := 11) hx hb hts iX11_variable_in11 hown hK hP 0 rfl rfl 2 (by decide) (hts (.fieldLink RX11 23 "OptimaWorks" "model" "LOptimaWorks$Model;") (by decide +kernel)) (fun _ h9 => h9) rfl dX11_variable_6 ?_
    refine va_get (D := (dC, dI)) (ci := 1) (v := .int nv) (C := RX1) (T := TX1) (N := 17) hx hb hts iX11_variable_in1 hown hK hP 1 rfl rfl 1 (by decide) (hts (.fieldLink RX11 84 "OptimaWorks$Model" "variables" "I") (by decide +kernel)) (fun _ h9 => h9) rfl dX11_variable_9 ?_
    refine lv_icmp_lt (tgt := 23) hx hb dX11_variable_12 (by decide) (fun c_12 => ?_) (fun c_12 => ?_)
    · refine lv_iload_n hx hb dX11_variable_23 rfl (lv_at hl 2 rfl) ?_
      by_cases s_24_0 : what = 0
      · refine lv_tableIn (off := 28) (tgt := 52) hx hb dX11_variable_24 (by rw [s_24_0]; decide) (by rw [s_24_0]; decide) (by rw [s_24_0]; decide) (by decide) ?_
        refine lv_aload_n hx hb dX11_variable_52 rfl (lv_at hl 0 rfl) ?_
        refine va_get (D := (dC, dI)) (ci := 11) (v := .ref a2) (C := RX11) (T := TX11) (N := 11) hx hb hts iX11_variable_in11 hown hK hP 0 rfl rfl 2 (by decide) (hts (.fieldLink RX11 23 "OptimaWorks" "model" "LOptimaWorks$Model;") (by decide +kernel)) (fun _ h9 => h9) rfl dX11_variable_53 ?_
        refine va_get (D := (dC, dI)) (ci := 1) (v := .ref m6) (C := RX1) (T := TX1) (N := 17) hx hb hts iX11_variable_in1 hown hK hP 1 rfl rfl 6 (by decide) (hts (.fieldLink RX11 96 "OptimaWorks$Model" "from" "[I") (by decide +kernel)) (fun _ h9 => h9) rfl dX11_variable_56 ?_
        refine lv_iload_n hx hb dX11_variable_59 rfl (lv_at hl 1 rfl) ?_
        refine va_iald hx hb hK hP 2 0 rfl rfl (in_lt c_1 c_12 hnv) dX11_variable_60 ?_
        refine vx_ret ?_
        refine W.widen (k := 1) (n := 6) (by decide +kernel) (by decide +kernel) ?_
        exact W.iret (v := (fr (k).toNatClampNeg)) hx hb hr (fun t ht hW => ⟨⟨(fr (k).toNatClampNeg), (), rfl, by simp [c_1, c_12, s_24_0], by rw [ht]; exact hP, va_K.moved hW.alike hK, hD⟩, hS.F ht⟩) hS.2.2 dX11_variable_61
      · skip
        by_cases s_24_1 : what = 1
        · refine lv_tableIn (off := 38) (tgt := 62) hx hb dX11_variable_24 (by rw [s_24_1]; decide) (by rw [s_24_1]; decide) (by rw [s_24_1]; decide) (by decide) ?_
          refine lv_aload_n hx hb dX11_variable_62 rfl (lv_at hl 0 rfl) ?_
          refine va_get (D := (dC, dI)) (ci := 11) (v := .ref a2) (C := RX11) (T := TX11) (N := 11) hx hb hts iX11_variable_in11 hown hK hP 0 rfl rfl 2 (by decide) (hts (.fieldLink RX11 23 "OptimaWorks" "model" "LOptimaWorks$Model;") (by decide +kernel)) (fun _ h9 => h9) rfl dX11_variable_63 ?_
          refine va_get (D := (dC, dI)) (ci := 1) (v := .ref m7) (C := RX1) (T := TX1) (N := 17) hx hb hts iX11_variable_in1 hown hK hP 1 rfl rfl 7 (by decide) (hts (.fieldLink RX11 99 "OptimaWorks$Model" "to" "[I") (by decide +kernel)) (fun _ h9 => h9) rfl dX11_variable_66 ?_
          refine lv_iload_n hx hb dX11_variable_69 rfl (lv_at hl 1 rfl) ?_
          refine va_iald hx hb hK hP 3 1 rfl rfl (in_lt c_1 c_12 hnv) dX11_variable_70 ?_
          refine vx_ret ?_
          refine W.widen (k := 1) (n := 6) (by decide +kernel) (by decide +kernel) ?_
          exact W.iret (v := (to (k).toNatClampNeg)) hx hb hr (fun t ht hW => ⟨⟨(to (k).toNatClampNeg), (), rfl, by simp [c_1, c_12, s_24_0, s_24_1], by rw [ht]; exact hP, va_K.moved hW.alike hK, hD⟩, hS.F ht⟩) hS.2.2 dX11_variable_71
        · skip
          by_cases s_24_2 : what = 2
          · refine lv_tableIn (off := 48) (tgt := 72) hx hb dX11_variable_24 (by rw [s_24_2]; decide) (by rw [s_24_2]; decide) (by rw [s_24_2]; decide) (by decide) ?_
            refine lv_aload_n hx hb dX11_variable_72 rfl (lv_at hl 0 rfl) ?_
            refine va_get (D := (dC, dI)) (ci := 11) (v := .ref a2) (C := RX11) (T := TX11) (N := 11) hx hb hts iX11_variable_in11 hown hK hP 0 rfl rfl 2 (by decide) (hts (.fieldLink RX11 23 "OptimaWorks" "model" "LOptimaWorks$Model;") (by decide +kernel)) (fun _ h9 => h9) rfl dX11_variable_73 ?_
            refine va_get (D := (dC, dI)) (ci := 1) (v := .ref m8) (C := RX1) (T := TX1) (N := 17) hx hb hts iX11_variable_in1 hown hK hP 1 rfl rfl 8 (by decide) (hts (.fieldLink RX11 102 "OptimaWorks$Model" "whole" "[Z") (by decide +kernel)) (fun _ h9 => h9) rfl dX11_variable_76 ?_
            refine lv_iload_n hx hb dX11_variable_79 rfl (lv_at hl 1 rfl) ?_
            refine va_zald hx hb hK hP 4 2 rfl rfl (in_lt c_1 c_12 hnv) dX11_variable_80 ?_
            refine lv_if_eq (tgt := 88) hx hb dX11_variable_81 (by decide) (fun c_81 => ?_) (fun c_81 => ?_)
            · refine lv_iconst (v := 0) hx hb dX11_variable_88 (by decide) ?_
              refine vx_ret ?_
              refine W.widen (k := 1) (n := 6) (by decide +kernel) (by decide +kernel) ?_
              exact W.iret (v := 0) hx hb hr (fun t ht hW => ⟨⟨0, (), rfl, by simp [c_1, c_12, s_24_0, s_24_1, s_24_2, c_81], by rw [ht]; exact hP, va_K.moved hW.alike hK, hD⟩, hS.F ht⟩) hS.2.2 dX11_variable_89
            · refine lv_iconst (v := 1) hx hb dX11_variable_84 (by decide) ?_
              refine lv_goto (tgt := 89) hx hb dX11_variable_85 (by decide) ?_
              refine vx_ret ?_
              refine W.widen (k := 1) (n := 6) (by decide +kernel) (by decide +kernel) ?_
              exact W.iret (v := 1) hx hb hr (fun t ht hW => ⟨⟨1, (), rfl, by simp [c_1, c_12, s_24_0, s_24_1, s_24_2, c_81], by rw [ht]; exact hP, va_K.moved hW.alike hK, hD⟩, hS.F ht⟩) hS.2.2 dX11_variable_89
          · skip
            refine lv_tableOut (tgt := 90) hx hb dX11_variable_24 (by have := lv_neT s_24_0 (show Int32.toInt 0 = 0 by decide); have := lv_neT s_24_1 (show Int32.toInt 1 = 1 by decide); have := lv_neT s_24_2 (show Int32.toInt 2 = 2 by decide); omega) (by decide) ?_
            refine lv_iconst (v := (-1)) hx hb dX11_variable_90 (by decide) ?_
            refine vx_ret ?_
            refine W.widen (k := 1) (n := 6) (by decide +kernel) (by decide +kernel) ?_
            exact W.iret (v := (-1)) hx hb hr (fun t ht hW => ⟨⟨(-1), (), rfl, by simp [c_1, c_12, s_24_0, s_24_1, s_24_2], by rw [ht]; exact hP, va_K.moved hW.alike hK, hD⟩, hS.F ht⟩) hS.2.2 dX11_variable_91
    · exact vx_throw0 (own := RX11) (cls := "java/lang/IndexOutOfBoundsException") (names := ["java/lang/RuntimeException", "java/lang/Exception"]) (ik := 93) (ic := 95) (A := A) hx hb hst hown (by decide +kernel) (by decide +kernel) (hts (.classLink RX11 93 "java/lang/IndexOutOfBoundsException") (by decide +kernel)) (hts (.initialized "java/lang/IndexOutOfBoundsException") (by decide +kernel)) (vx_hat (B := ngX11_95) (fun w h => hts w (List.mem_cons_of_mem _ (List.mem_append_right _ h))) (fun _ h => h) (fun w h => va_Nw.use (ngX11_95_ot w h) (hngX11_95 w h))) (by decide +kernel) hU hN hS (by rw [hml]; exact hl.1) dX11_variable_15 dX11_variable_18 dX11_variable_19 dX11_variable_22 (fun x hx9 => (htab x hx9).elim) (by decide +kernel) (Nat.le_of_ble_eq_true rfl) (by decide +kernel) (by decide +kernel) hlocks (fun t hvm hz hk => ⟨"java/lang/IndexOutOfBoundsException", ⟨rfl, by simp [c_1, c_12]⟩, ⟨rfl, hP.kept (fun k q h => hk q.1 ((hP k q h).lt)), va_K.moved hvm hK, hD⟩, ⟨Nat.le_trans hS.1 hz, fun q h1 h2 => (hk q (Nat.lt_of_lt_of_le h1 hS.1)).trans (hS.2.1 q h1 h2)⟩⟩) hS.2.2 (by decide +kernel) (by decide +kernel)

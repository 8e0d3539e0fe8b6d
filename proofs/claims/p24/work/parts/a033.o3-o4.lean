section
theorem dX11_feed_0 : decode cX11_feed 0 = .ok (.aload_n 0, 1) := dk_42 (by decide +kernel)
theorem dX11_feed_1 : decode cX11_feed 1 = .ok (.getfield 9, 3) := dk_180 (by decide +kernel)
theorem dX11_feed_4 : decode cX11_feed 4 = .ok (.iconst 0, 1) := dk_3 (by decide +kernel)
theorem dX11_feed_5 : decode cX11_feed 5 = .ok (.iload_n 1, 1) := dk_27 (by decide +kernel)
theorem dX11_feed_6 : decode cX11_feed 6 = .ok (.iastore, 1) := dk_79 (by decide +kernel)
theorem dX11_feed_7 : decode cX11_feed 7 = .ok (.aload_n 0, 1) := dk_42 (by decide +kernel)
theorem dX11_feed_8 : decode cX11_feed 8 = .ok (.getfield 9, 3) := dk_180 (by decide +kernel)
theorem dX11_feed_11 : decode cX11_feed 11 = .ok (.iconst 1, 1) := dk_4 (by decide +kernel)
theorem dX11_feed_12 : decode cX11_feed 12 = .ok (.iload_n 2, 1) := dk_28 (by decide +kernel)
theorem dX11_feed_13 : decode cX11_feed 13 = .ok (.iastore, 1) := dk_79 (by decide +kernel)
theorem dX11_feed_14 : decode cX11_feed 14 = .ok (.aload_n 0, 1) := dk_42 (by decide +kernel)
theorem dX11_feed_15 : decode cX11_feed 15 = .ok (.getfield 9, 3) := dk_180 (by decide +kernel)
theorem dX11_feed_18 : decode cX11_feed 18 = .ok (.iconst 2, 1) := dk_5 (by decide +kernel)
theorem dX11_feed_19 : decode cX11_feed 19 = .ok (.iload_n 3, 1) := dk_29 (by decide +kernel)
theorem dX11_feed_20 : decode cX11_feed 20 = .ok (.iastore, 1) := dk_79 (by decide +kernel)
theorem dX11_feed_21 : decode cX11_feed 21 = .ok (.aload_n 0, 1) := dk_42 (by decide +kernel)
theorem dX11_feed_22 : decode cX11_feed 22 = .ok (.getfield 9, 3) := dk_180 (by decide +kernel)
theorem dX11_feed_25 : decode cX11_feed 25 = .ok (.iconst 3, 1) := dk_6 (by decide +kernel)
theorem dX11_feed_26 : decode cX11_feed 26 = .ok (.iload 4, 2) := dk_21 (by decide +kernel)
theorem dX11_feed_28 : decode cX11_feed 28 = .ok (.iastore, 1) := dk_79 (by decide +kernel)
theorem dX11_feed_29 : decode cX11_feed 29 = .ok (.aload_n 0, 1) := dk_42 (by decide +kernel)
theorem dX11_feed_30 : decode cX11_feed 30 = .ok (.getfield 9, 3) := dk_180 (by decide +kernel)
theorem dX11_feed_33 : decode cX11_feed 33 = .ok (.iconst 4, 1) := dk_7 (by decide +kernel)
theorem dX11_feed_34 : decode cX11_feed 34 = .ok (.iload 5, 2) := dk_21 (by decide +kernel)
theorem dX11_feed_36 : decode cX11_feed 36 = .ok (.iastore, 1) := dk_79 (by decide +kernel)
theorem dX11_feed_37 : decode cX11_feed 37 = .ok (.return_, 1) := dk_177 (by decide +kernel)
def wsMX11_feed : List Cond := .code yX11_feed cX11_feed 6 none :: ([.fieldLink RX11 9 "OptimaWorks" "ready" "[I"] ++ wsX110)
theorem iwsMX11_feed_in11 : ∀ w ∈ wsX110, w ∈ wsMX11_feed := fun _ h => List.mem_cons_of_mem _ (List.mem_append_right _ h)
theorem gdwsMX11_feed : wsMX11_feed.all goodWord = true := gdC rfl (gdA (by decide +kernel : ([.fieldLink RX11 9 "OptimaWorks" "ready" "[I"] : List Cond).all goodWord = true) gdwsX110)
theorem hm_m_X11_feed_0 : (.fieldLink RX11 9 "OptimaWorks" "ready" "[I" : Cond) ∈ wsMX11_feed := by decide +kernel
set_option maxHeartbeats 4000000 in
set_option maxRecDepth 100000 in
/-- five ints -/
theorem m_X11_feed (l : Launch) (dC : Nat → ClassId) (dI : Nat → Nat → Nat) (hX : Nat → Nat) (aX : Nat → Nat) (kX : Nat → ClassId) (hT : Nat → Nat) (hM : Nat → Nat) (fX_ready : Nat → Int32) (fX_sheet : Nat → Int32) (dX_sheet : Nat) (nX_sheet : Nat) (iX_sheetLength : Int32) (xX_reader : Value) (xX_solver : Value) (xX_prover : Value) (xX_values : Value) (xX_clauses : Value) (xX_nets : Value) (p1 : Int32) (p2 : Int32) (p3 : Int32) (p4 : Int32) (p5 : Int32) (b_fX_sheet : ∀ q : Nat, (-128) ≤ (fX_sheet q).toInt ∧ (fX_sheet q).toInt ≤ 127) (b_nX_sheet : 64 ≤ nX_sheet ∧ nX_sheet ≤ 60000) (b_iX_sheetLength : 0 ≤ iX_sheetLength.toInt ∧ iX_sheetLength.toInt ≤ 30000) (b_shl : iX_sheetLength.toInt ≤ ((nX_sheet : Nat) : Int)) (sz : Nat) : Met l yX11_feed wsMX11_feed ({ frames := 0, cells := 0, slots := 0, locals := 0 }) (va_Pc [.ref (hX 0), .int p1, .int p2, .int p3, .int p4, .int p5] (fun U => U.heap.size = sz ∧ va_P (dC, dI) vwCl (WX hX aX kX hT hM fX_ready fX_sheet dX_sheet nX_sheet iX_sheetLength xX_reader xX_solver xX_prover xX_values xX_clauses xX_nets) U.heap ∧ va_K (dC, dI) vwCl (tX kX) U ∧ va_D (fun _ => True) (WX hX aX kX hT hM fX_ready fX_sheet dX_sheet nX_sheet iX_sheetLength xX_reader xX_solver xX_prover xX_values xX_clauses xX_nets))) (va_Qv (fun (u : Nat → Int32) => True) (fun (u : Nat → Int32) t => va_P (dC, dI) vwCl (WX hX aX kX hT hM u fX_sheet dX_sheet nX_sheet iX_sheetLength xX_reader xX_solver xX_prover xX_values xX_clauses xX_nets) t.heap ∧ va_D (va_A (WX hX aX kX hT hM fX_ready fX_sheet dX_sheet nX_sheet iX_sheetLength xX_reader xX_solver xX_prover xX_values xX_clauses xX_nets) sz) (WX hX aX kX hT hM u fX_sheet dX_sheet nX_sheet iX_sheetLength xX_reader xX_solver xX_prover xX_values xX_clauses xX_nets)) (va_A (WX hX aX kX hT hM fX_ready fX_sheet dX_sheet nX_sheet iX_sheetLength xX_reader xX_solver xX_prover xX_values xX_clauses xX_nets) sz)) 0 0 (va_A (WX hX aX kX hT hM fX_ready fX_sheet dX_sheet nX_sheet iX_sheetLength xX_reader xX_solver xX_prover xX_values xX_clauses xX_nets) sz) := by
  refine Met.ofW (cc := cX11_feed) (maxL := 6) (ret := none) (by decide) rfl ?_
  intro p e s m args below meth c s₁ B hml hv
  obtain ⟨rfl, hsz, hP, hK, hD0⟩ := hv
  have hx := B.exec
  have hb := B.bytes
  have hr := B.returns
  have hts := atoms_spec (ws := wsMX11_feed) B.pre
  have hown : s.vm.findClass RX11 = some m.cls := findClass_of_methodNamed B.named
  have hlocks := B.notSynchronized
  subst hsz
  have hD := hD0.self (sz := s.heap.size)
  generalize hAe : va_A (WX hX aX kX hT hM fX_ready fX_sheet dX_sheet nX_sheet iX_sheetLength xX_reader xX_solver xX_prover xX_values xX_clauses xX_nets) s.heap.size = A at hD ⊢
  have hA : ∀ q : Nat, s.heap.size ≤ q → A q := fun q h => by rw [← hAe]; exact Or.inr h
  have hS : va_S A s.heap s.heap [] := va_S.rf
  have hl := lv_entry ([.ref (hX 0), .int p1, .int p2, .int p3, .int p4, .int p5]) (n := 6) (Nat.le_of_ble_eq_true rfl)
  rw [lg_entry_eq]
  generalize (lg_sl ([.ref (hX 0), .int p1, .int p2, .int p3, .int p4, .int p5]) ++ List.replicate (6 - (lg_sl ([.ref (hX 0), .int p1, .int p2, .int p3, .int p4, .int p5])).length) Slot.unset).toArray = ls at hl ⊢
  have hl : lv_has ls 6 [(0, .ref (hX 0)), (1, .int p1), (2, .int p2), (3, .int p3), (4, .int p4), (5, .int p5)] := hl
  refine lv_aload_n hx hb dX11_feed_0 rfl (lv_at hl 0 rfl) ?_
  refine va_get (D := (dC, dI)) (ci := 11) (v := .ref (aX 0)) (C := RX11) (T := TX11) (N := 11) hx hb hts iwsMX11_feed_in11 hown hK hP 0 rfl rfl 0 (by decide) (hts _ hm_m_X11_feed_0) (fun _ h9 => h9) rfl dX11_feed_1 ?_
  refine lv_iconst (v := 0) hx hb dX11_feed_4 (by decide) ?_
  refine lv_iload_n hx hb dX11_feed_5 rfl (lv_at hl 1 rfl) ?_
  refine va_iast (cA := kX 0) (n := 5) (f := fX_ready) hx hb hK hP hD hS 1 0 rfl rfl (show ¬ ((0 : Int32) < 0 ∨ 5 ≤ (0 : Int32).toNatClampNeg) by decide) dX11_feed_6 (fun H locs hP hD hS => ?_)
  obtain ⟨u1, hu1⟩ : ∃ f9, f9 = upd fX_ready (0 : Int32).toNatClampNeg p1 := ⟨_, rfl⟩
  have hP : va_P (dC, dI) vwCl (WX hX aX kX hT hM u1 fX_sheet dX_sheet nX_sheet iX_sheetLength xX_reader xX_solver xX_prover xX_values xX_clauses xX_nets) H := by rw [hu1]; exact hP
  have hD : va_D A (WX hX aX kX hT hM u1 fX_sheet dX_sheet nX_sheet iX_sheetLength xX_reader xX_solver xX_prover xX_values xX_clauses xX_nets) := by rw [hu1]; exact hD
  clear hu1
  refine lv_aload_n hx hb dX11_feed_7 rfl (lv_at hl 0 rfl) ?_
  refine va_get (D := (dC, dI)) (ci := 11) (v := .ref (aX 0)) (C := RX11) (T := TX11) (N := 11) hx hb hts iwsMX11_feed_in11 hown hK hP 0 rfl rfl 0 (by decide) (hts _ hm_m_X11_feed_0) (fun _ h9 => h9) rfl dX11_feed_8 ?_
  refine lv_iconst (v := 1) hx hb dX11_feed_11 (by decide) ?_
  refine lv_iload_n hx hb dX11_feed_12 rfl (lv_at hl 2 rfl) ?_
  refine va_iast (cA := kX 0) (n := 5) (f := u1) hx hb hK hP hD hS 1 0 rfl rfl (show ¬ ((1 : Int32) < 0 ∨ 5 ≤ (1 : Int32).toNatClampNeg) by decide) dX11_feed_13 (fun H locs hP hD hS => ?_)
  obtain ⟨u2, hu2⟩ : ∃ f9, f9 = upd u1 (1 : Int32).toNatClampNeg p2 := ⟨_, rfl⟩
  have hP : va_P (dC, dI) vwCl (WX hX aX kX hT hM u2 fX_sheet dX_sheet nX_sheet iX_sheetLength xX_reader xX_solver xX_prover xX_values xX_clauses xX_nets) H := by rw [hu2]; exact hP
  have hD : va_D A (WX hX aX kX hT hM u2 fX_sheet dX_sheet nX_sheet iX_sheetLength xX_reader xX_solver xX_prover xX_values xX_clauses xX_nets) := by rw [hu2]; exact hD
  clear hu2
  refine lv_aload_n hx hb dX11_feed_14 rfl (lv_at hl 0 rfl) ?_
  refine va_get (D := (dC, dI)) (ci := 11) (v := .ref (aX 0)) (C := RX11) (T := TX11) (N := 11) hx hb hts iwsMX11_feed_in11 hown hK hP 0 rfl rfl 0 (by decide) (hts _ hm_m_X11_feed_0) (fun _ h9 => h9) rfl dX11_feed_15 ?_
  refine lv_iconst (v := 2) hx hb dX11_feed_18 (by decide) ?_
  refine lv_iload_n hx hb dX11_feed_19 rfl (lv_at hl 3 rfl) ?_
  refine va_iast (cA := kX 0) (n := 5) (f := u2) hx hb hK hP hD hS 1 0 rfl rfl (show ¬ ((2 : Int32) < 0 ∨ 5 ≤ (2 : Int32).toNatClampNeg) by decide) dX11_feed_20 (fun H locs hP hD hS => ?_)
  obtain ⟨u3, hu3⟩ : ∃ f9, f9 = upd u2 (2 : Int32).toNatClampNeg p3 := ⟨_, rfl⟩
  have hP : va_P (dC, dI) vwCl (WX hX aX kX hT hM u3 fX_sheet dX_sheet nX_sheet iX_sheetLength xX_reader xX_solver xX_prover xX_values xX_clauses xX_nets) H := by rw [hu3]; exact hP
  have hD : va_D A (WX hX aX kX hT hM u3 fX_sheet dX_sheet nX_sheet iX_sheetLength xX_reader xX_solver xX_prover xX_values xX_clauses xX_nets) := by rw [hu3]; exact hD
  clear hu3
  refine lv_aload_n hx hb dX11_feed_21 rfl (lv_at hl 0 rfl) ?_
  refine va_get (D := (dC, dI)) (ci := 11) (v := .ref (aX 0)) (C := RX11) (T := TX11) (N := 11) hx hb hts iwsMX11_feed_in11 hown hK hP 0 rfl rfl 0 (by decide) (hts _ hm_m_X11_feed_0) (fun _ h9 => h9) rfl dX11_feed_22 ?_
  refine lv_iconst (v := 3) hx hb dX11_feed_25 (by decide) ?_
  refine lv_iload hx hb dX11_feed_26 (lv_at hl 4 rfl) ?_
  refine va_iast (cA := kX 0) (n := 5) (f := u3) hx hb hK hP hD hS 1 0 rfl rfl (show ¬ ((3 : Int32) < 0 ∨ 5 ≤ (3 : Int32).toNatClampNeg) by decide) dX11_feed_28 (fun H locs hP hD hS => ?_)
  obtain ⟨u4, hu4⟩ : ∃ f9, f9 = upd u3 (3 : Int32).toNatClampNeg p4 := ⟨_, rfl⟩
  have hP : va_P (dC, dI) vwCl (WX hX aX kX hT hM u4 fX_sheet dX_sheet nX_sheet iX_sheetLength xX_reader xX_solver xX_prover xX_values xX_clauses xX_nets) H := by rw [hu4]; exact hP
  have hD : va_D A (WX hX aX kX hT hM u4 fX_sheet dX_sheet nX_sheet iX_sheetLength xX_reader xX_solver xX_prover xX_values xX_clauses xX_nets) := by rw [hu4]; exact hD
  clear hu4
  refine lv_aload_n hx hb dX11_feed_29 rfl (lv_at hl 0 rfl) ?_
  refine va_get (D := (dC, dI)) (ci := 11) (v := .ref (aX 0)) (C := RX11) (T := TX11) (N := 11) hx hb hts iwsMX11_feed_in11 hown hK hP 0 rfl rfl 0 (by decide) (hts _ hm_m_X11_feed_0) (fun _ h9 => h9) rfl dX11_feed_30 ?_
  refine lv_iconst (v := 4) hx hb dX11_feed_33 (by decide) ?_
  refine lv_iload hx hb dX11_feed_34 (lv_at hl 5 rfl) ?_
  refine va_iast (cA := kX 0) (n := 5) (f := u4) hx hb hK hP hD hS 1 0 rfl rfl (show ¬ ((4 : Int32) < 0 ∨ 5 ≤ (4 : Int32).toNatClampNeg) by decide) dX11_feed_36 (fun H locs hP hD hS => ?_)
  obtain ⟨u5, hu5⟩ : ∃ f9, f9 = upd u4 (4 : Int32).toNatClampNeg p5 := ⟨_, rfl⟩
  have hP : va_P (dC, dI) vwCl (WX hX aX kX hT hM u5 fX_sheet dX_sheet nX_sheet iX_sheetLength xX_reader xX_solver xX_prover xX_values xX_clauses xX_nets) H := by rw [hu5]; exact hP
  have hD : va_D A (WX hX aX kX hT hM u5 fX_sheet dX_sheet nX_sheet iX_sheetLength xX_reader xX_solver xX_prover xX_values xX_clauses xX_nets) := by rw [hu5]; exact hD
  clear hu5
  refine W.widen (k := 0) (n := 0) (by decide +kernel) (by decide +kernel) ?_
  exact W.vret hx hb hr (fun t9_ ht hW => ⟨⟨u5, rfl, trivial, by rw [ht]; exact hP, hD⟩, hS.F ht⟩) hS.2.2 dX11_feed_37
theorem dX11_end_0 : decode cX11_end 0 = .ok (.iload_n 1, 1) := dk_27 (by decide +kernel)
theorem dX11_end_1 : decode cX11_end 1 = .ok (.ifCond .lt 24, 3) := dk_155 (by decide +kernel)
theorem dX11_end_4 : decode cX11_end 4 = .ok (.iload_n 1, 1) := dk_27 (by decide +kernel)
theorem dX11_end_5 : decode cX11_end 5 = .ok (.bipush 20, 2) := dk_16 (by decide +kernel)
theorem dX11_end_7 : decode cX11_end 7 = .ok (.if_icmp .gt 18, 3) := dk_163 (by decide +kernel)
theorem dX11_end_10 : decode cX11_end 10 = .ok (.aload_n 0, 1) := dk_42 (by decide +kernel)
theorem dX11_end_11 : decode cX11_end 11 = .ok (.getfield 16, 3) := dk_180 (by decide +kernel)
theorem dX11_end_14 : decode cX11_end 14 = .ok (.getfield 31, 3) := dk_180 (by decide +kernel)
theorem dX11_end_17 : decode cX11_end 17 = .ok (.iload_n 1, 1) := dk_27 (by decide +kernel)
theorem dX11_end_18 : decode cX11_end 18 = .ok (.iadd, 1) := dk_96 (by decide +kernel)
theorem dX11_end_19 : decode cX11_end 19 = .ok (.sipush 4000, 3) := dk_17 (by decide +kernel)
theorem dX11_end_22 : decode cX11_end 22 = .ok (.if_icmp .le 5, 3) := dk_164 (by decide +kernel)
theorem dX11_end_25 : decode cX11_end 25 = .ok (.iconst (-1), 1) := dk_2 (by decide +kernel)
theorem dX11_end_26 : decode cX11_end 26 = .ok (.ireturn, 1) := dk_172 (by decide +kernel)
theorem dX11_end_27 : decode cX11_end 27 = .ok (.iconst 0, 1) := dk_3 (by decide +kernel)
theorem dX11_end_28 : decode cX11_end 28 = .ok (.istore_n 2, 1) := dk_61 (by decide +kernel)
theorem dX11_end_29 : decode cX11_end 29 = .ok (.iload_n 2, 1) := dk_28 (by decide +kernel)
theorem dX11_end_30 : decode cX11_end 30 = .ok (.iload_n 1, 1) := dk_27 (by decide +kernel)
theorem dX11_end_31 : decode cX11_end 31 = .ok (.if_icmp .ge 34, 3) := dk_162 (by decide +kernel)
theorem dX11_end_34 : decode cX11_end 34 = .ok (.aload_n 0, 1) := dk_42 (by decide +kernel)
theorem dX11_end_35 : decode cX11_end 35 = .ok (.getfield 16, 3) := dk_180 (by decide +kernel)
theorem dX11_end_38 : decode cX11_end 38 = .ok (.aload_n 0, 1) := dk_42 (by decide +kernel)
theorem dX11_end_39 : decode cX11_end 39 = .ok (.getfield 9, 3) := dk_180 (by decide +kernel)
theorem dX11_end_42 : decode cX11_end 42 = .ok (.iload_n 2, 1) := dk_28 (by decide +kernel)
theorem dX11_end_43 : decode cX11_end 43 = .ok (.iconst 2, 1) := dk_5 (by decide +kernel)
theorem dX11_end_44 : decode cX11_end 44 = .ok (.ishr, 1) := dk_122 (by decide +kernel)
theorem dX11_end_45 : decode cX11_end 45 = .ok (.iaload, 1) := dk_46 (by decide +kernel)
theorem dX11_end_46 : decode cX11_end 46 = .ok (.bipush 24, 2) := dk_16 (by decide +kernel)
theorem dX11_end_48 : decode cX11_end 48 = .ok (.bipush 8, 2) := dk_16 (by decide +kernel)
theorem dX11_end_50 : decode cX11_end 50 = .ok (.iload_n 2, 1) := dk_28 (by decide +kernel)
theorem dX11_end_51 : decode cX11_end 51 = .ok (.iconst 3, 1) := dk_6 (by decide +kernel)
theorem dX11_end_52 : decode cX11_end 52 = .ok (.iand, 1) := dk_126 (by decide +kernel)
theorem dX11_end_53 : decode cX11_end 53 = .ok (.imul, 1) := dk_104 (by decide +kernel)
theorem dX11_end_54 : decode cX11_end 54 = .ok (.isub, 1) := dk_100 (by decide +kernel)
theorem dX11_end_55 : decode cX11_end 55 = .ok (.iushr, 1) := dk_124 (by decide +kernel)
theorem dX11_end_56 : decode cX11_end 56 = .ok (.invokevirtual 35, 3) := dk_182 (by decide +kernel)
theorem dX11_end_59 : decode cX11_end 59 = .ok (.iinc 2 1, 3) := dk_132 (by decide +kernel)
theorem dX11_end_62 : decode cX11_end 62 = .ok (.goto (-33), 3) := dk_167 (by decide +kernel)
theorem dX11_end_65 : decode cX11_end 65 = .ok (.aload_n 0, 1) := dk_42 (by decide +kernel)
theorem dX11_end_66 : decode cX11_end 66 = .ok (.getfield 9, 3) := dk_180 (by decide +kernel)
theorem dX11_end_69 : decode cX11_end 69 = .ok (.iconst 0, 1) := dk_3 (by decide +kernel)
theorem dX11_end_70 : decode cX11_end 70 = .ok (.invokestatic 39, 3) := dk_184 (by decide +kernel)
theorem dX11_end_73 : decode cX11_end 73 = .ok (.aload_n 0, 1) := dk_42 (by decide +kernel)
theorem dX11_end_74 : decode cX11_end 74 = .ok (.getfield 16, 3) := dk_180 (by decide +kernel)
theorem dX11_end_77 : decode cX11_end 77 = .ok (.getfield 31, 3) := dk_180 (by decide +kernel)
theorem dX11_end_80 : decode cX11_end 80 = .ok (.ireturn, 1) := dk_172 (by decide +kernel)
def wsMX11_end : List Cond := .code yX11_end cX11_end 3 (some .int) :: ([.fieldLink RX11 16 "OptimaWorks" "words" "LOptimaWorks$Words;", .fieldLink RX11 31 "OptimaWorks$Words" "length" "I", .fieldLink RX11 9 "OptimaWorks" "ready" "[I"] ++ wsX90 ++ wsX110 ++ (wsV RX11 35 RX9 yX9_append wsMX9_append) ++ (va_wsS RX11 39 yJ7_fill_53178 wsMJ7_fill_53178))
theorem iwsMX11_end_in9 : ∀ w ∈ wsX90, w ∈ wsMX11_end := fun _ h => List.mem_cons_of_mem _ (List.mem_append_left _ (List.mem_append_left _ (List.mem_append_left _ (List.mem_append_right _ h))))
theorem iwsMX11_end_in11 : ∀ w ∈ wsX110, w ∈ wsMX11_end := fun _ h => List.mem_cons_of_mem _ (List.mem_append_left _ (List.mem_append_left _ (List.mem_append_right _ h)))
theorem gwsMX11_end_0 : GoodIn wsMX11_end (wsV RX11 35 RX9 yX9_append wsMX9_append) := goodIn_sub (fun _ h => List.mem_cons_of_mem _ (List.mem_append_left _ (List.mem_append_right _ h))) (gdV (by decide +kernel) gdwsMX9_append)
theorem gwsMX11_end_1 : GoodIn wsMX11_end (va_wsS RX11 39 yJ7_fill_53178 wsMJ7_fill_53178) := goodIn_sub (fun _ h => List.mem_cons_of_mem _ (List.mem_append_right _ h)) (gdS (by decide +kernel) gdwsMJ7_fill_53178)
theorem gdwsMX11_end : wsMX11_end.all goodWord = true := gdC rfl (gdA (gdA (gdA (gdA (by decide +kernel : ([.fieldLink RX11 16 "OptimaWorks" "words" "LOptimaWorks$Words;", .fieldLink RX11 31 "OptimaWorks$Words" "length" "I", .fieldLink RX11 9 "OptimaWorks" "ready" "[I"] : List Cond).all goodWord = true) gdwsX90) gdwsX110) (gdV (by decide +kernel) gdwsMX9_append)) (gdS (by decide +kernel) gdwsMJ7_fill_53178))
theorem hm_m_X11_end_0 : (.fieldLink RX11 16 "OptimaWorks" "words" "LOptimaWorks$Words;" : Cond) ∈ wsMX11_end := by decide +kernel
theorem hm_m_X11_end_1 : (.fieldLink RX11 31 "OptimaWorks$Words" "length" "I" : Cond) ∈ wsMX11_end := by decide +kernel
theorem hm_m_X11_end_2 : (.fieldLink RX11 9 "OptimaWorks" "ready" "[I" : Cond) ∈ wsMX11_end := by decide +kernel
set_option maxHeartbeats 4000000 in
set_option maxRecDepth 100000 in
/-- bytes go to the tape -/
theorem m_X11_end (l : Launch) (dC : Nat → ClassId) (dI : Nat → Nat → Nat) (hX : Nat → Nat) (aX : Nat → Nat) (kX : Nat → ClassId) (hT : Nat → Nat) (hM : Nat → Nat) (fX_ready : Nat → Int32) (fX_sheet : Nat → Int32) (dX_sheet : Nat) (nX_sheet : Nat) (iX_sheetLength : Int32) (xX_reader : Value) (xX_solver : Value) (xX_prover : Value) (xX_values : Value) (xX_clauses : Value) (xX_nets : Value) (aT : Nat → Nat) (kT : Nat → ClassId) (fT_tape : Nat → Int32) (dT_tape : Nat) (nT_tape : Nat) (iT_length : Int32) (iT_fault : Int32) (iT_place : Int32) (iT_kind : Int32) (iT_at : Int32) (iT_number : Int32) (jT_name : Int64) (iT_next : Int32) (p1 : Int32) (b_fX_sheet : ∀ q : Nat, (-128) ≤ (fX_sheet q).toInt ∧ (fX_sheet q).toInt ≤ 127) (b_nX_sheet : 64 ≤ nX_sheet ∧ nX_sheet ≤ 60000) (b_iX_sheetLength : 0 ≤ iX_sheetLength.toInt ∧ iX_sheetLength.toInt ≤ 30000) (b_shl : iX_sheetLength.toInt ≤ ((nX_sheet : Nat) : Int)) (b_fT_tape : ∀ q : Nat, (-128) ≤ (fT_tape q).toInt ∧ (fT_tape q).toInt ≤ 127) (b_nT_tape : 64 ≤ nT_tape ∧ nT_tape ≤ 2560) (b_iT_length : 0 ≤ iT_length.toInt ∧ iT_length.toInt ≤ 1280) (b_iT_at : 0 ≤ iT_at.toInt ∧ iT_at.toInt ≤ 1282) (b_iT_number : 0 ≤ iT_number.toInt ∧ iT_number.toInt ≤ 999999) (b_iT_next : 0 ≤ iT_next.toInt ∧ iT_next.toInt ≤ 1282) (b_len : iT_length.toInt ≤ ((nT_tape : Nat) : Int)) (hl : iT_length.toInt ≤ 1260) (sz : Nat) : Met l yX11_end wsMX11_end ({ frames := 3, cells := 161, slots := 12800, locals := 61 }) (va_Pc [.ref (hX 0), .int p1] (fun U => U.heap.size = sz ∧ va_P (dC, dI) vwCl (WX hX aX kX hT hM fX_ready fX_sheet dX_sheet nX_sheet iX_sheetLength xX_reader xX_solver xX_prover xX_values xX_clauses xX_nets ++ (WT hT aT kT fT_tape dT_tape nT_tape iT_length iT_fault iT_place iT_kind iT_at iT_number jT_name iT_next)) U.heap ∧ va_K (dC, dI) vwCl (tX kX ++ (tT kT)) U ∧ va_D (fun _ => True) (WX hX aX kX hT hM fX_ready fX_sheet dX_sheet nX_sheet iX_sheetLength xX_reader xX_solver xX_prover xX_values xX_clauses xX_nets ++ (WT hT aT kT fT_tape dT_tape nT_tape iT_length iT_fault iT_place iT_kind iT_at iT_number jT_name iT_next)))) (va_Qi (fun (r : Int32) (u : (Nat → Int32) × (Nat → Int32) × (Nat) × (Nat) × (Int32)) => (∀ q : Nat, (-128) ≤ ((u.2.1) q).toInt ∧ ((u.2.1) q).toInt ≤ 127) ∧ (64 ≤ (u.2.2.2.1) ∧ (u.2.2.2.1) ≤ 2560) ∧ (0 ≤ (u.2.2.2.2).toInt ∧ (u.2.2.2.2).toInt ≤ 1280) ∧ ((u.2.2.2.2).toInt ≤ (((u.2.2.2.1) : Nat) : Int)) ∧ (nT_tape ≤ (u.2.2.2.1)) ∧ ((0 ≤ p1.toInt ∧ p1.toInt ≤ 20) → (u.2.2.2.2).toInt = iT_length.toInt + p1.toInt) ∧ ((0 ≤ p1.toInt ∧ p1.toInt ≤ 20) → r.toInt = iT_length.toInt + p1.toInt) ∧ (¬ (0 ≤ p1.toInt ∧ p1.toInt ≤ 20) → (u.2.2.2.2).toInt = iT_length.toInt) ∧ (¬ (0 ≤ p1.toInt ∧ p1.toInt ≤ 20) → r.toInt = -1)) (fun (u : (Nat → Int32) × (Nat → Int32) × (Nat) × (Nat) × (Int32)) t => va_P (dC, dI) vwCl (WX hX aX kX hT hM (u.1) fX_sheet dX_sheet nX_sheet iX_sheetLength xX_reader xX_solver xX_prover xX_values xX_clauses xX_nets ++ (WT hT aT kT (u.2.1) (u.2.2.1) (u.2.2.2.1) (u.2.2.2.2) iT_fault iT_place iT_kind iT_at iT_number jT_name iT_next)) t.heap ∧ va_D (va_A (WX hX aX kX hT hM fX_ready fX_sheet dX_sheet nX_sheet iX_sheetLength xX_reader xX_solver xX_prover xX_values xX_clauses xX_nets ++ (WT hT aT kT fT_tape dT_tape nT_tape iT_length iT_fault iT_place iT_kind iT_at iT_number jT_name iT_next)) sz) (WX hX aX kX hT hM (u.1) fX_sheet dX_sheet nX_sheet iX_sheetLength xX_reader xX_solver xX_prover xX_values xX_clauses xX_nets ++ (WT hT aT kT (u.2.1) (u.2.2.1) (u.2.2.2.1) (u.2.2.2.2) iT_fault iT_place iT_kind iT_at iT_number jT_name iT_next)) ∧ t.heap.size + (nT_tape / 32) ≤ sz + ((u.2.2.2.1) / 32) ∧ nS sz t.heap + (2 * nT_tape) ≤ (2 * (u.2.2.2.1))) (va_A (WX hX aX kX hT hM fX_ready fX_sheet dX_sheet nX_sheet iX_sheetLength xX_reader xX_solver xX_prover xX_values xX_clauses xX_nets ++ (WT hT aT kT fT_tape dT_tape nT_tape iT_length iT_fault iT_place iT_kind iT_at iT_number jT_name iT_next)) sz)) 161 12800 (va_A (WX hX aX kX hT hM fX_ready fX_sheet dX_sheet nX_sheet iX_sheetLength xX_reader xX_solver xX_prover xX_values xX_clauses xX_nets ++ (WT hT aT kT fT_tape dT_tape nT_tape iT_length iT_fault iT_place iT_kind iT_at iT_number jT_name iT_next)) sz) := by
  refine Met.ofW (cc := cX11_end) (maxL := 3) (ret := (some .int)) (by decide) rfl ?_
  intro p e s m args below meth c s₁ B hml hv
  obtain ⟨rfl, hsz, hP, hK, hD0⟩ := hv
  have hx := B.exec
  have hb := B.bytes
  have hr := B.returns
  have hts := atoms_spec (ws := wsMX11_end) B.pre
  have hown : s.vm.findClass RX11 = some m.cls := findClass_of_methodNamed B.named
  have hlocks := B.notSynchronized
  subst hsz
  have hD := hD0.self (sz := s.heap.size)
  generalize hAe : va_A (WX hX aX kX hT hM fX_ready fX_sheet dX_sheet nX_sheet iX_sheetLength xX_reader xX_solver xX_prover xX_values xX_clauses xX_nets ++ (WT hT aT kT fT_tape dT_tape nT_tape iT_length iT_fault iT_place iT_kind iT_at iT_number jT_name iT_next)) s.heap.size = A at hD ⊢
  have hA : ∀ q : Nat, s.heap.size ≤ q → A q := fun q h => by rw [← hAe]; exact Or.inr h
  have hS : va_S A s.heap s.heap [] := va_S.rf
  have hl := lv_entry ([.ref (hX 0), .int p1]) (n := 3) (Nat.le_of_ble_eq_true rfl)
  rw [lg_entry_eq]
  generalize (lg_sl ([.ref (hX 0), .int p1]) ++ List.replicate (3 - (lg_sl ([.ref (hX 0), .int p1])).length) Slot.unset).toArray = ls at hl ⊢
  have hl : lv_has ls 3 [(0, .ref (hX 0)), (1, .int p1)] := hl
  refine W.widen (k := (nT_tape / 32 - (nT_tape / 32))) (n := (2 * nT_tape - (2 * nT_tape))) (Nat.zero_le _) (Nat.zero_le _) ?_
  refine lv_iload_n hx hb dX11_end_0 rfl (lv_at hl 1 rfl) ?_
  refine lv_if_lt (tgt := 25) hx hb dX11_end_1 (by decide) (fun c_1 => ?_) (fun c_1 => ?_)
  · have t_1 : p1.toInt < 0 := toI_lt c_1 rfl (by decide : (0 : Int32).toInt = 0)
    refine lv_iconst (v := (-1)) hx hb dX11_end_25 (by decide) ?_
    refine W.known (fun hz9 hn9 => ?_)
    refine W.widen (k := 161) (n := 12800) (by omega) (by omega) ?_
    exact W.iret (v := (-1)) hx hb hr (fun t9_ ht hW => ⟨⟨((-1) : Int32), (fX_ready, fT_tape, dT_tape, nT_tape, iT_length), rfl, ⟨b_fT_tape, (by (try dsimp only); exact (by first | exact b_nT_tape | with_reducible assumption | exact ⟨by omega, by omega⟩ | assumption)), b_iT_length, (by (try dsimp only); exact (by first | with_reducible assumption | omega | assumption)), (by (try dsimp only); omega), (by (try dsimp only); intro h9; omega), (by (try dsimp only); intro h9; omega), (by (try dsimp only); intro h9; omega), (by (try dsimp only); first | (intro h9; exfalso; omega) | (intro h9; decide))⟩, by rw [ht]; exact hP, hD, by rw [ht]; (try dsimp only); omega, by rw [ht]; (try dsimp only); omega⟩, hS.F ht⟩) hS.2.2 dX11_end_26
  · have t_1 : ¬ p1.toInt < 0 := toI_nlt c_1 rfl (by decide : (0 : Int32).toInt = 0)
    refine lv_iload_n hx hb dX11_end_4 rfl (lv_at hl 1 rfl) ?_
    refine lv_bipush (v := 20) hx hb dX11_end_5 (by decide) ?_
    refine lv_icmp_gt (tgt := 25) hx hb dX11_end_7 (by decide) (fun c_7 => ?_) (fun c_7 => ?_)
    · have t_7 : p1.toInt > 20 := toI_gt c_7 rfl (by decide : (20 : Int32).toInt = 20)
      refine lv_iconst (v := (-1)) hx hb dX11_end_25 (by decide) ?_
      refine W.known (fun hz9 hn9 => ?_)
      refine W.widen (k := 161) (n := 12800) (by omega) (by omega) ?_
      exact W.iret (v := (-1)) hx hb hr (fun t9_ ht hW => ⟨⟨((-1) : Int32), (fX_ready, fT_tape, dT_tape, nT_tape, iT_length), rfl, ⟨b_fT_tape, (by (try dsimp only); exact (by first | exact b_nT_tape | with_reducible assumption | exact ⟨by omega, by omega⟩ | assumption)), b_iT_length, (by (try dsimp only); exact (by first | with_reducible assumption | omega | assumption)), (by (try dsimp only); omega), (by (try dsimp only); intro h9; omega), (by (try dsimp only); intro h9; omega), (by (try dsimp only); intro h9; omega), (by (try dsimp only); first | (intro h9; exfalso; omega) | (intro h9; decide))⟩, by rw [ht]; exact hP, hD, by rw [ht]; (try dsimp only); omega, by rw [ht]; (try dsimp only); omega⟩, hS.F ht⟩) hS.2.2 dX11_end_26
    · have t_7 : ¬ p1.toInt > 20 := toI_ngt c_7 rfl (by decide : (20 : Int32).toInt = 20)
      refine lv_aload_n hx hb dX11_end_10 rfl (lv_at hl 0 rfl) ?_
      refine va_get (D := (dC, dI)) (ci := 11) (v := .ref (hT 0)) (C := RX11) (T := TX11) (N := 11) hx hb hts iwsMX11_end_in11 hown hK hP 0 rfl rfl 1 (by decide) (hts _ hm_m_X11_end_0) (fun _ h9 => h9) rfl dX11_end_11 ?_
      refine va_get (D := (dC, dI)) (ci := 9) (v := .int iT_length) (C := RX9) (T := TX9) (N := 9) hx hb hts iwsMX11_end_in9 hown hK hP 3 rfl rfl 1 (by decide) (hts _ hm_m_X11_end_1) (fun _ h9 => h9) rfl dX11_end_14 ?_
      refine lv_iload_n hx hb dX11_end_17 rfl (lv_at hl 1 rfl) ?_
      refine lv_iadd hx hb dX11_end_18 ?_
      refine lv_topi (fun y1 hy1 => ?_)
      obtain rfl : (iI (iT_length.toInt + p1.toInt)) = y1 := (hy1.trans (iI_add2 (iI_of _) (iI_of _))).symm
      refine lv_sipush (v := 4000) hx hb dX11_end_19 (by decide) ?_
      refine lv_icmp_le (tgt := 27) hx hb dX11_end_22 (by decide) (fun c_22 => ?_) (fun c_22 => ?_)
      · first | (have t_22 : (iT_length.toInt + p1.toInt) ≤ 4000 := toI_le c_22 (iI_t (by omega) (by omega)) (by decide : (4000 : Int32).toInt = 4000)) | skip
        refine lv_iconst (v := 0) hx hb dX11_end_27 (by decide) ?_
        refine lv_istore_n hx hb dX11_end_28 rfl hl (by decide) rfl (fun ls (hl : lv_has ls _ ([(2, .int 0), (0, .ref (hX 0)), (1, .int p1)])) => ?_)
        have hl : lv_has _ _ ([(2, .int 0), (0, .ref (hX 0)), (1, .int p1)]) := lv_sub hl [0, 1, 2] rfl
        refine (fun (loop : ∀ (n9 : Nat) (fT_tape_x29 : Nat → Int32) (dT_tape_x29 : Nat) (nT_tape_x29 : Nat) (iT_length_x29 : Int32) (l2_x29 : Int32) (H : Heap) (locs : List Loc) (ls : Array Slot), (∀ q : Nat, (-128) ≤ (fT_tape_x29 q).toInt ∧ (fT_tape_x29 q).toInt ≤ 127) → (64 ≤ nT_tape_x29 ∧ nT_tape_x29 ≤ 2560) → (0 ≤ iT_length_x29.toInt ∧ iT_length_x29.toInt ≤ 1280) → (0 ≤ l2_x29.toInt ∧ l2_x29.toInt ≤ 20) → (iT_length_x29.toInt ≤ ((nT_tape_x29 : Nat) : Int)) → (iT_length_x29.toInt = iT_length.toInt + l2_x29.toInt) → (l2_x29.toInt ≤ p1.toInt) → (nT_tape ≤ nT_tape_x29) → (20 - l2_x29.toInt < ((n9 : Nat) : Int)) → va_P (dC, dI) vwCl (WX hX aX kX hT hM fX_ready fX_sheet dX_sheet nX_sheet iX_sheetLength xX_reader xX_solver xX_prover xX_values xX_clauses xX_nets ++ (WT hT aT kT fT_tape_x29 dT_tape_x29 nT_tape_x29 iT_length_x29 iT_fault iT_place iT_kind iT_at iT_number jT_name iT_next)) H → va_D A (WX hX aX kX hT hM fX_ready fX_sheet dX_sheet nX_sheet iX_sheetLength xX_reader xX_solver xX_prover xX_values xX_clauses xX_nets ++ (WT hT aT kT fT_tape_x29 dT_tape_x29 nT_tape_x29 iT_length_x29 iT_fault iT_place iT_kind iT_at iT_number jT_name iT_next)) → va_S A s.heap H locs → lv_has ls 3 [(2, .int l2_x29), (0, .ref (hX 0)), (1, .int p1)] → W p l e _ s m _ below meth c H locs (nT_tape_x29 / 32 - (nT_tape / 32)) (2 * nT_tape_x29 - (2 * nT_tape)) _ (F0 m 29 ls [])) => loop (21) fT_tape dT_tape nT_tape iT_length 0 _ _ _ b_fT_tape (by first | exact b_nT_tape | with_reducible assumption | exact ⟨by omega, by omega⟩ | assumption) (b_iT_length) (show 0 ≤ (0 : Int32).toInt ∧ (0 : Int32).toInt ≤ 20 from by decide) (by first | with_reducible assumption | omega | assumption) (show iT_length.toInt = iT_length.toInt + (0 : Int32).toInt from by have h7 : (0 : Int32).toInt = 0 := (by decide); omega) (show (0 : Int32).toInt ≤ p1.toInt from by have h7 : (0 : Int32).toInt = 0 := (by decide); omega) (show nT_tape ≤ nT_tape from by omega) ((by have e9 : (0 : Int32).toInt = 0 := (by decide : (0 : Int32).toInt = 0); omega)) hP hD hS hl) ?_
        intro n9
        induction n9 with
        | zero => intro fT_tape_x29 dT_tape_x29 nT_tape_x29 iT_length_x29 l2_x29 H locs ls b_fT_tape_x29 b_nT_tape_x29 b_iT_length_x29 b_l2_x29 b_len_x29 hil hin hgm0_x29 hf9; exact False.elim (by omega)
        | succ n9 ihx29 =>
          intro fT_tape_x29 dT_tape_x29 nT_tape_x29 iT_length_x29 l2_x29 H locs ls b_fT_tape_x29 b_nT_tape_x29 b_iT_length_x29 b_l2_x29 b_len_x29 hil hin hgm0_x29 hfx29 hP hD hS hl
          refine lv_iload_n hx hb dX11_end_29 rfl (lv_at hl 0 rfl) ?_
          refine lv_iload_n hx hb dX11_end_30 rfl (lv_at hl 2 rfl) ?_
          refine lv_icmp_ge (tgt := 65) hx hb dX11_end_31 (by decide) (fun c_31 => ?_) (fun c_31 => ?_)
          · have t_31 : l2_x29.toInt ≥ p1.toInt := toI_ge c_31 rfl rfl
            refine lv_aload_n hx hb dX11_end_65 rfl (lv_at hl 1 rfl) ?_
            refine va_get (D := (dC, dI)) (ci := 11) (v := .ref (aX 0)) (C := RX11) (T := TX11) (N := 11) hx hb hts iwsMX11_end_in11 hown hK hP 0 rfl rfl 0 (by decide) (hts _ hm_m_X11_end_2) (fun _ h9 => h9) rfl dX11_end_66 ?_
            refine lv_iconst (v := 0) hx hb dX11_end_69 (by decide) ?_
            have hPc : va_P (dC, dI) vwCl (WY (fun _ => 0) (fun _ => aX 0) (fun _ => kX 0) 5 fX_ready) _ := hP.sub [1] rfl
            have hDc : va_D _ (WY (fun _ => 0) (fun _ => aX 0) (fun _ => kX 0) 5 fX_ready) := hD.sub [1] (by decide) rfl
            have hKc : va_K (dC, dI) vwCl (tY (fun _ => kX 0)) _ := hK.sub [0] rfl
            have hFc := va_free (wc := WY (fun _ => 0) (fun _ => aX 0) (fun _ => kX 0) 5 fX_ready) hD hS hA [1] rfl
            refine va_callv (va_runS (As := [.ref (aX 0), .int 0]) (rest := []) ⟨hx, hb, hml, hown, hts⟩ (m_J7_fill_53178 l dC dI (fun _ => 0) (fun _ => aX 0) (fun _ => kX 0) 5 fX_ready 0 (by first | assumption | exact ⟨by omega, by omega⟩) H.size) (va_cwS 2 hts gwsMX11_end_1 rfl rfl rfl (by decide +kernel) ⟨by first | decide +kernel | (dsimp only [headSpec] <;> omega), by first | decide +kernel | (dsimp only [headSpec] <;> omega)⟩) ⟨fun a U g mk q => by obtain ⟨q0, q1, qP, qK, qD⟩ := q; exact ⟨q0, q1, qP, va_K.moved (u := U) (U := U.calling g mk a) (Vm.Alike.refl U.vm) qK, qD⟩, fun U hU9 hW => ⟨rfl, by rw [hU9], by rw [hU9]; exact hPc, va_K.moved hW.alike hKc, hDc.weaken (fun _ _ _ _ => trivial)⟩⟩ rfl rfl hl.1 rfl (lv_room (Nat.le_of_ble_eq_true rfl)) dX11_end_70 ⟨by first | decide +kernel | (dsimp only [headSpec] <;> omega), by first | decide +kernel | (dsimp only [headSpec] <;> omega)⟩) hS (fun q _ h => hFc q h) hFc (fun fY_39 t9_ H locs ht hvm hw9 hB9 hz1 hk1 hS => ?_)
            have f39_0 := hw9
            try dsimp only at f39_0
            obtain ⟨hP, hD⟩ := va_join (wr := [(hX 0, .inr (11, [.ref (aX 0), .ref (hT 0), .ref (hM 0), .ref dX_sheet, .int iX_sheetLength, xX_reader, xX_solver, xX_prover, xX_values, xX_clauses, xX_nets])), (dX_sheet, .inl (kX 1, nX_sheet, .inl fX_sheet)), (hT 0, .inr (9, [.ref dT_tape_x29, .int iT_length_x29, .int iT_fault, .int iT_place, .int iT_kind, .int iT_at, .int iT_number, .long jT_name, .int iT_next])), (dT_tape_x29, .inl (kT 0, nT_tape_x29, .inl fT_tape_x29))]) (w1 := WY (fun _ => 0) (fun _ => aX 0) (fun _ => kX 0) 5 fY_39) hP hD [1] [0, 2, 3, 4] rfl rfl (by decide) (by decide) hk1 hFc (fz_P ht hB9.1) hB9.2
            have hP : va_P (dC, dI) vwCl (WX hX aX kX hT hM fY_39 fX_sheet dX_sheet nX_sheet iX_sheetLength xX_reader xX_solver xX_prover xX_values xX_clauses xX_nets ++ (WT hT aT kT fT_tape_x29 dT_tape_x29 nT_tape_x29 iT_length_x29 iT_fault iT_place iT_kind iT_at iT_number jT_name iT_next)) H := hP.sub [0, 4, 1, 2, 3] rfl
            have hD : va_D A (WX hX aX kX hT hM fY_39 fX_sheet dX_sheet nX_sheet iX_sheetLength xX_reader xX_solver xX_prover xX_values xX_clauses xX_nets ++ (WT hT aT kT fT_tape_x29 dT_tape_x29 nT_tape_x29 iT_length_x29 iT_fault iT_place iT_kind iT_at iT_number jT_name iT_next)) := hD.sub [0, 4, 1, 2, 3] (by decide) rfl
            refine lv_aload_n hx hb dX11_end_73 rfl (lv_at hl 1 rfl) ?_
            refine va_get (D := (dC, dI)) (ci := 11) (v := .ref (hT 0)) (C := RX11) (T := TX11) (N := 11) hx hb hts iwsMX11_end_in11 hown hK hP 0 rfl rfl 1 (by decide) (hts _ hm_m_X11_end_0) (fun _ h9 => h9) rfl dX11_end_74 ?_
            refine va_get (D := (dC, dI)) (ci := 9) (v := .int iT_length_x29) (C := RX9) (T := TX9) (N := 9) hx hb hts iwsMX11_end_in9 hown hK hP 3 rfl rfl 1 (by decide) (hts _ hm_m_X11_end_1) (fun _ h9 => h9) rfl dX11_end_77 ?_
            refine W.known (fun hz9 hn9 => ?_)
            refine W.widen (k := 161) (n := 12800) (by omega) (by omega) ?_
            exact W.iret (v := iT_length_x29) hx hb hr (fun t9_ ht hW => ⟨⟨iT_length_x29, (fY_39, fT_tape_x29, dT_tape_x29, nT_tape_x29, iT_length_x29), rfl, ⟨b_fT_tape_x29, (by (try dsimp only); exact (by first | exact b_nT_tape_x29 | with_reducible assumption | exact ⟨by omega, by omega⟩ | assumption)), b_iT_length_x29, (by (try dsimp only); exact (by first | with_reducible assumption | omega | assumption)), (by (try dsimp only); omega), (by (try dsimp only); intro h9; omega), (by (try dsimp only); intro h9; omega), (by (try dsimp only); intro h9; omega), (by (try dsimp only); first | (intro h9; exfalso; omega) | (intro h9; decide))⟩, by rw [ht]; exact hP, hD, by rw [ht]; (try dsimp only); omega, by rw [ht]; (try dsimp only); omega⟩, hS.F ht⟩) hS.2.2 dX11_end_80
          · have t_31 : ¬ l2_x29.toInt ≥ p1.toInt := toI_nge c_31 rfl rfl
            refine lv_aload_n hx hb dX11_end_34 rfl (lv_at hl 1 rfl) ?_
            refine va_get (D := (dC, dI)) (ci := 11) (v := .ref (hT 0)) (C := RX11) (T := TX11) (N := 11) hx hb hts iwsMX11_end_in11 hown hK hP 0 rfl rfl 1 (by decide) (hts _ hm_m_X11_end_0) (fun _ h9 => h9) rfl dX11_end_35 ?_
            refine lv_aload_n hx hb dX11_end_38 rfl (lv_at hl 1 rfl) ?_
            refine va_get (D := (dC, dI)) (ci := 11) (v := .ref (aX 0)) (C := RX11) (T := TX11) (N := 11) hx hb hts iwsMX11_end_in11 hown hK hP 0 rfl rfl 0 (by decide) (hts _ hm_m_X11_end_2) (fun _ h9 => h9) rfl dX11_end_39 ?_
            refine lv_iload_n hx hb dX11_end_42 rfl (lv_at hl 0 rfl) ?_
            refine lv_iconst (v := 2) hx hb dX11_end_43 (by decide) ?_
            refine lv_ishr hx hb dX11_end_44 ?_
            refine lv_topi (fun v40 hv40 => ?_)
            have b_v40 : v40.toInt = l2_x29.toInt / 4 := by rw [hv40]; exact shr_t (k := 2) (n := 2) (by decide) rfl (by decide)
            clear hv40
            refine va_iald (cA := kX 0) (n := 5) (f := fX_ready) hx hb hK hP 1 0 rfl rfl (vp_in_iff.mpr ⟨(by omega), (by omega)⟩) dX11_end_45 ?_
            refine lv_topi (fun v41 hv41 => ?_)
            clear hv41
            refine lv_bipush (v := 24) hx hb dX11_end_46 (by decide) ?_
            refine lv_bipush (v := 8) hx hb dX11_end_48 (by decide) ?_
            refine lv_iload_n hx hb dX11_end_50 rfl (lv_at hl 0 rfl) ?_
            refine lv_iconst (v := 3) hx hb dX11_end_51 (by decide) ?_
            refine lv_iand hx hb dX11_end_52 ?_
            refine lv_topi (fun v42 hv42 => ?_)
            have b_v42 : 0 ≤ v42.toInt ∧ v42.toInt ≤ 3 := by rw [hv42]; exact and_rng _ (by decide) (by decide)
            clear hv42
            refine lv_imul hx hb dX11_end_53 ?_
            refine lv_topi (fun y43 hy43 => ?_)
            obtain rfl : (iI (8 * v42.toInt)) = y43 := (hy43.trans (iI_mul2 (by decide : (8 : Int32) = iI 8) (iI_of _))).symm
            refine lv_isub hx hb dX11_end_54 ?_
            refine lv_topi (fun y44 hy44 => ?_)
            obtain rfl : (iI (24 - (8 * v42.toInt))) = y44 := (hy44.trans (iI_sub2 (by decide : (24 : Int32) = iI 24) rfl)).symm
            refine lv_iushr hx hb dX11_end_55 rfl ?_
            refine lv_topi (fun v45 hv45 => ?_)
            clear hv45
            refine W.known (fun hz0 hn0 => ?_)
            have hS0 := hS.1
            have p9 := cj_2_1 (WX hX aX kX hT hM fX_ready fX_sheet dX_sheet nX_sheet iX_sheetLength xX_reader xX_solver xX_prover xX_values xX_clauses xX_nets) (WT hT aT kT fT_tape_x29 dT_tape_x29 nT_tape_x29 iT_length_x29 iT_fault iT_place iT_kind iT_at iT_number jT_name iT_next)
            have hPc := hP.mem (fun q h => p9.mem_iff.mpr (List.mem_append_left _ h))
            have hDc := (hD.perm p9).left
            have hKc : va_K (dC, dI) vwCl (tT kT) _ := hK.sub [2] rfl
            have hFc := freeG p9 hD hS hA
            refine va_callv (va_runV (As := [.int v45]) (rest := []) ⟨hx, hb, hml, hown, hts⟩ (Met.sV (m_X9_append l dC dI hT aT kT fT_tape_x29 dT_tape_x29 nT_tape_x29 iT_length_x29 iT_fault iT_place iT_kind iT_at iT_number jT_name iT_next v45 b_fT_tape_x29 (by first | exact b_nT_tape_x29 | with_reducible assumption | exact ⟨by omega, by omega⟩ | assumption) (b_iT_length_x29) (b_iT_at) (b_iT_number) (b_iT_next) (by first | with_reducible assumption | omega | assumption) (by first | with_reducible assumption | omega | (rw [iI_t (by omega) (by omega)]; omega) | decide | assumption) H.size) H) (cwV 1 hts gwsMX11_end_0 rfl rfl rfl (by decide +kernel) ⟨by first | decide +kernel | (dsimp only [headSpec] <;> omega), by first | decide +kernel | (dsimp only [headSpec] <;> omega)⟩) ⟨fun a U g mk q => by obtain ⟨q0, qh, q1, qP, qK, qD⟩ := q; exact ⟨q0, qh, q1, qP, va_K.moved (u := U) (U := U.calling g mk a) (Vm.Alike.refl U.vm) qK, qD⟩, va_recv hK hP (ci := 9) (q0 := 3) rfl rfl, fun U hU9 hW => ⟨rfl, hU9, by rw [hU9], by rw [hU9]; exact hPc, va_K.moved hW.alike hKc, hDc.weaken (fun _ _ _ _ => trivial)⟩⟩ rfl rfl hl.1 rfl (lv_room (Nat.le_of_ble_eq_true rfl)) dX11_end_56 ⟨by first | decide +kernel | (dsimp only [headSpec] <;> omega), by first | decide +kernel | (dsimp only [headSpec] <;> omega)⟩) hS (fun q _ h => hFc q h) hFc (fun u t9_ H locs ht hvm hw9 hB9 hz1 hk1 hS => ?_)
            revert u hw9 hB9
            refine fz_p4 ?_
            intro fT_tape_46 dT_tape_46 nT_tape_46 iT_length_46 hw9 hB9
            try dsimp only at hw9 hB9
            revert hw9
            refine fz_a6 ?_
            intro b_fT_tape_46 b_nT_tape_46 b_iT_length_46 b_len_46 f46_0 f46_1
            have hg1 := hB9.1.2.2.1
            rw [ht] at hg1
            have hg2 := hB9.1.2.2.2
            rw [ht] at hg2
            have hSz := hB9.2
            rw [ht] at hSz
            have p8 := cj_2_1 (WX hX aX kX hT hM fX_ready fX_sheet dX_sheet nX_sheet iX_sheetLength xX_reader xX_solver xX_prover xX_values xX_clauses xX_nets) (WT hT aT kT fT_tape_46 dT_tape_46 nT_tape_46 iT_length_46 iT_fault iT_place iT_kind iT_at iT_number jT_name iT_next)
            obtain ⟨hP, hD⟩ := frameG p9 p8 hP hD hk1 hFc (fz_P ht hB9.1.1) hB9.1.2.1
            have hz9 : H.size ≤ s.heap.size + (nT_tape_46 / 32 - (nT_tape / 32)) := by (try dsimp only at hg1); omega
            have hn9 : nS s.heap.size H ≤ (2 * nT_tape_46 - (2 * nT_tape)) := by rw [hSz.n hS0]; (try dsimp only at hg2); omega
            refine W.tight (cells2 := (nT_tape_46 / 32 - (nT_tape / 32))) (slots2 := (2 * nT_tape_46 - (2 * nT_tape))) hz9 hn9 ?_
            clear hz9 hn9 hz0 hn0 hS0 hSz hg1 hg2
            refine lv_iinc (v := (iI (l2_x29.toInt + 1))) hx hb dX11_end_59 hl (k := 0) rfl (iI_add2 (iI_of _) (by decide : (1 : Int32) = iI 1)) (by decide) rfl (fun ls (hl : lv_has ls _ ([(2, .int (iI (l2_x29.toInt + 1))), (0, .ref (hX 0)), (1, .int p1)])) => ?_)
            refine lv_goto (tgt := 29) hx hb dX11_end_62 (by decide) ?_
            have hl : lv_has _ _ ([(2, .int (iI (l2_x29.toInt + 1))), (0, .ref (hX 0)), (1, .int p1)]) := lv_sub hl [0, 1, 2] rfl
            exact ihx29 fT_tape_46 dT_tape_46 nT_tape_46 iT_length_46 (iI (l2_x29.toInt + 1)) _ _ _ b_fT_tape_46 (by first | exact b_nT_tape_46 | with_reducible assumption | exact ⟨by omega, by omega⟩ | assumption) (b_iT_length_46) (iI_rng (Int.le_trans (by decide) (Int.add_le_add (b_l2_x29.1) (Int.le_refl _))) (by omega) (by decide) (by decide)) (by first | with_reducible assumption | omega | assumption) (show iT_length_46.toInt = iT_length.toInt + (iI (l2_x29.toInt + 1)).toInt from by rw [iI_t (by omega) (by omega)]; omega) (show (iI (l2_x29.toInt + 1)).toInt ≤ p1.toInt from by rw [iI_t (by omega) (by omega)]; omega) (show nT_tape ≤ nT_tape_46 from by omega) (by have e9 : ((iI (l2_x29.toInt + 1))).toInt = (l2_x29.toInt + 1) := (iI_t (Int.le_trans (by decide) (Int.add_le_add (b_l2_x29.1) (Int.le_refl _))) (Int.le_trans (Int.add_le_add (b_l2_x29.2) (Int.le_refl _)) (by decide))); omega) hP hD hS hl
      · first | (have t_22 : ¬ (iT_length.toInt + p1.toInt) ≤ 4000 := toI_nle c_22 (iI_t (by omega) (by omega)) (by decide : (4000 : Int32).toInt = 4000)) | skip
        refine lv_iconst (v := (-1)) hx hb dX11_end_25 (by decide) ?_
        refine W.known (fun hz9 hn9 => ?_)
        refine W.widen (k := 161) (n := 12800) (by omega) (by omega) ?_
        exact W.iret (v := (-1)) hx hb hr (fun t9_ ht hW => ⟨⟨((-1) : Int32), (fX_ready, fT_tape, dT_tape, nT_tape, iT_length), rfl, ⟨b_fT_tape, (by (try dsimp only); exact (by first | exact b_nT_tape | with_reducible assumption | exact ⟨by omega, by omega⟩ | assumption)), b_iT_length, (by (try dsimp only); exact (by first | with_reducible assumption | omega | assumption)), (by (try dsimp only); omega), (by (try dsimp only); intro h9; omega), (by (try dsimp only); intro h9; omega), (by (try dsimp only); intro h9; omega), (by (try dsimp only); first | (intro h9; exfalso; omega) | (intro h9; decide))⟩, by rw [ht]; exact hP, hD, by rw [ht]; (try dsimp only); omega, by rw [ht]; (try dsimp only); omega⟩, hS.F ht⟩) hS.2.2 dX11_end_26
theorem dX11_wipe_0 : decode cX11_wipe 0 = .ok (.aload_n 0, 1) := dk_42 (by decide +kernel)
theorem dX11_wipe_1 : decode cX11_wipe 1 = .ok (.getfield 16, 3) := dk_180 (by decide +kernel)
theorem dX11_wipe_4 : decode cX11_wipe 4 = .ok (.iconst 0, 1) := dk_3 (by decide +kernel)
theorem dX11_wipe_5 : decode cX11_wipe 5 = .ok (.putfield 31, 3) := dk_181 (by decide +kernel)
theorem dX11_wipe_8 : decode cX11_wipe 8 = .ok (.return_, 1) := dk_177 (by decide +kernel)
def wsMX11_wipe : List Cond := .code yX11_wipe cX11_wipe 1 none :: ([.fieldLink RX11 16 "OptimaWorks" "words" "LOptimaWorks$Words;", .fieldLink RX11 31 "OptimaWorks$Words" "length" "I"] ++ wsX90 ++ wsX110)
theorem iwsMX11_wipe_in9 : ∀ w ∈ wsX90, w ∈ wsMX11_wipe := fun _ h => List.mem_cons_of_mem _ (List.mem_append_left _ (List.mem_append_right _ h))
theorem iwsMX11_wipe_in11 : ∀ w ∈ wsX110, w ∈ wsMX11_wipe := fun _ h => List.mem_cons_of_mem _ (List.mem_append_right _ h)
theorem gdwsMX11_wipe : wsMX11_wipe.all goodWord = true := gdC rfl (gdA (gdA (by decide +kernel : ([.fieldLink RX11 16 "OptimaWorks" "words" "LOptimaWorks$Words;", .fieldLink RX11 31 "OptimaWorks$Words" "length" "I"] : List Cond).all goodWord = true) gdwsX90) gdwsX110)
set_option maxHeartbeats 4000000 in
set_option maxRecDepth 100000 in
/-- the tape is wiped -/
theorem m_X11_wipe (l : Launch) (dC : Nat → ClassId) (dI : Nat → Nat → Nat) (hX : Nat → Nat) (aX : Nat → Nat) (kX : Nat → ClassId) (hT : Nat → Nat) (hM : Nat → Nat) (fX_ready : Nat → Int32) (fX_sheet : Nat → Int32) (dX_sheet : Nat) (nX_sheet : Nat) (iX_sheetLength : Int32) (xX_reader : Value) (xX_solver : Value) (xX_prover : Value) (xX_values : Value) (xX_clauses : Value) (xX_nets : Value) (aT : Nat → Nat) (kT : Nat → ClassId) (fT_tape : Nat → Int32) (dT_tape : Nat) (nT_tape : Nat) (iT_length : Int32) (iT_fault : Int32) (iT_place : Int32) (iT_kind : Int32) (iT_at : Int32) (iT_number : Int32) (jT_name : Int64) (iT_next : Int32) (b_fX_sheet : ∀ q : Nat, (-128) ≤ (fX_sheet q).toInt ∧ (fX_sheet q).toInt ≤ 127) (b_nX_sheet : 64 ≤ nX_sheet ∧ nX_sheet ≤ 60000) (b_iX_sheetLength : 0 ≤ iX_sheetLength.toInt ∧ iX_sheetLength.toInt ≤ 30000) (b_shl : iX_sheetLength.toInt ≤ ((nX_sheet : Nat) : Int)) (b_fT_tape : ∀ q : Nat, (-128) ≤ (fT_tape q).toInt ∧ (fT_tape q).toInt ≤ 127) (b_nT_tape : 64 ≤ nT_tape ∧ nT_tape ≤ 2560) (b_iT_length : 0 ≤ iT_length.toInt ∧ iT_length.toInt ≤ 1280) (b_iT_at : 0 ≤ iT_at.toInt ∧ iT_at.toInt ≤ 1282) (b_iT_number : 0 ≤ iT_number.toInt ∧ iT_number.toInt ≤ 999999) (b_iT_next : 0 ≤ iT_next.toInt ∧ iT_next.toInt ≤ 1282) (b_len : iT_length.toInt ≤ ((nT_tape : Nat) : Int)) (sz : Nat) : Met l yX11_wipe wsMX11_wipe ({ frames := 0, cells := 0, slots := 0, locals := 0 }) (va_Pc [.ref (hX 0)] (fun U => U.heap.size = sz ∧ va_P (dC, dI) vwCl (WX hX aX kX hT hM fX_ready fX_sheet dX_sheet nX_sheet iX_sheetLength xX_reader xX_solver xX_prover xX_values xX_clauses xX_nets ++ (WT hT aT kT fT_tape dT_tape nT_tape iT_length iT_fault iT_place iT_kind iT_at iT_number jT_name iT_next)) U.heap ∧ va_K (dC, dI) vwCl (tX kX ++ (tT kT)) U ∧ va_D (fun _ => True) (WX hX aX kX hT hM fX_ready fX_sheet dX_sheet nX_sheet iX_sheetLength xX_reader xX_solver xX_prover xX_values xX_clauses xX_nets ++ (WT hT aT kT fT_tape dT_tape nT_tape iT_length iT_fault iT_place iT_kind iT_at iT_number jT_name iT_next)))) (va_Qv (fun (u : Int32) => (0 ≤ u.toInt ∧ u.toInt ≤ 1280) ∧ (u.toInt ≤ ((nT_tape : Nat) : Int)) ∧ (u.toInt = 0)) (fun (u : Int32) t => va_P (dC, dI) vwCl (WX hX aX kX hT hM fX_ready fX_sheet dX_sheet nX_sheet iX_sheetLength xX_reader xX_solver xX_prover xX_values xX_clauses xX_nets ++ (WT hT aT kT fT_tape dT_tape nT_tape u iT_fault iT_place iT_kind iT_at iT_number jT_name iT_next)) t.heap ∧ va_D (va_A (WX hX aX kX hT hM fX_ready fX_sheet dX_sheet nX_sheet iX_sheetLength xX_reader xX_solver xX_prover xX_values xX_clauses xX_nets ++ (WT hT aT kT fT_tape dT_tape nT_tape iT_length iT_fault iT_place iT_kind iT_at iT_number jT_name iT_next)) sz) (WX hX aX kX hT hM fX_ready fX_sheet dX_sheet nX_sheet iX_sheetLength xX_reader xX_solver xX_prover xX_values xX_clauses xX_nets ++ (WT hT aT kT fT_tape dT_tape nT_tape u iT_fault iT_place iT_kind iT_at iT_number jT_name iT_next))) (va_A (WX hX aX kX hT hM fX_ready fX_sheet dX_sheet nX_sheet iX_sheetLength xX_reader xX_solver xX_prover xX_values xX_clauses xX_nets ++ (WT hT aT kT fT_tape dT_tape nT_tape iT_length iT_fault iT_place iT_kind iT_at iT_number jT_name iT_next)) sz)) 0 0 (va_A (WX hX aX kX hT hM fX_ready fX_sheet dX_sheet nX_sheet iX_sheetLength xX_reader xX_solver xX_prover xX_values xX_clauses xX_nets ++ (WT hT aT kT fT_tape dT_tape nT_tape iT_length iT_fault iT_place iT_kind iT_at iT_number jT_name iT_next)) sz) := by
  refine Met.ofW (cc := cX11_wipe) (maxL := 1) (ret := none) (by decide) rfl ?_
  intro p e s m args below meth c s₁ B hml hv
  obtain ⟨rfl, hsz, hP, hK, hD0⟩ := hv
  have hx := B.exec
  have hb := B.bytes
  have hr := B.returns
  have hts := atoms_spec (ws := wsMX11_wipe) B.pre
  have hown : s.vm.findClass RX11 = some m.cls := findClass_of_methodNamed B.named
  have hlocks := B.notSynchronized
  subst hsz
  have hD := hD0.self (sz := s.heap.size)
  generalize hAe : va_A (WX hX aX kX hT hM fX_ready fX_sheet dX_sheet nX_sheet iX_sheetLength xX_reader xX_solver xX_prover xX_values xX_clauses xX_nets ++ (WT hT aT kT fT_tape dT_tape nT_tape iT_length iT_fault iT_place iT_kind iT_at iT_number jT_name iT_next)) s.heap.size = A at hD ⊢
  have hA : ∀ q : Nat, s.heap.size ≤ q → A q := fun q h => by rw [← hAe]; exact Or.inr h
  have hS : va_S A s.heap s.heap [] := va_S.rf
  have hl := lv_entry ([.ref (hX 0)]) (n := 1) (Nat.le_of_ble_eq_true rfl)
  rw [lg_entry_eq]
  generalize (lg_sl ([.ref (hX 0)]) ++ List.replicate (1 - (lg_sl ([.ref (hX 0)])).length) Slot.unset).toArray = ls at hl ⊢
  have hl : lv_has ls 1 [(0, .ref (hX 0))] := hl
  refine lv_aload_n hx hb dX11_wipe_0 rfl (lv_at hl 0 rfl) ?_
  refine va_get (D := (dC, dI)) (ci := 11) (v := .ref (hT 0)) (C := RX11) (T := TX11) (N := 11) hx hb hts iwsMX11_wipe_in11 hown hK hP 0 rfl rfl 1 (by decide) (hts (.fieldLink RX11 16 "OptimaWorks" "words" "LOptimaWorks$Words;") (by decide +kernel)) (fun _ h9 => h9) rfl dX11_wipe_1 ?_
  refine lv_iconst (v := 0) hx hb dX11_wipe_4 (by decide) ?_
  refine va_put (D := (dC, dI)) (ci := 9) (v := .int 0) (ty := .int) (C := RX9) (T := TX9) (N := 9) hx hb hts iwsMX11_wipe_in9 tyX9 tyX9_ok nmX9 hown hK hP hD hS 3 rfl rfl 1 (by decide) (hts (.fieldLink RX11 31 "OptimaWorks$Words" "length" "I") (by decide +kernel)) (fun _ h9 => h9) rfl (by decide +kernel) rfl rfl (Nat.le_of_ble_eq_true rfl) dX11_wipe_5 (fun H locs hP hD hS => ?_)
  have hP : va_P (dC, dI) vwCl (WX hX aX kX hT hM fX_ready fX_sheet dX_sheet nX_sheet iX_sheetLength xX_reader xX_solver xX_prover xX_values xX_clauses xX_nets ++ (WT hT aT kT fT_tape dT_tape nT_tape 0 iT_fault iT_place iT_kind iT_at iT_number jT_name iT_next)) H := hP
  have hD := fz_sd hP (hD) rfl
  refine W.widen (k := 0) (n := 0) (by decide +kernel) (by decide +kernel) ?_
  exact W.vret hx hb hr (fun t9_ ht hW => ⟨⟨0, rfl, ⟨(by (try dsimp only); exact (show 0 ≤ (0 : Int32).toInt ∧ (0 : Int32).toInt ≤ 1280 from by decide)), (by (try dsimp only); exact (by have h7 : (0 : Int32).toInt = 0 := (by decide); omega)), (by (try dsimp only); first | done | decide)⟩, by rw [ht]; exact hP, hD⟩, hS.F ht⟩) hS.2.2 dX11_wipe_8
theorem dX11_fault_0 : decode cX11_fault 0 = .ok (.iload_n 1, 1) := dk_27 (by decide +kernel)
theorem dX11_fault_1 : decode cX11_fault 1 = .ok (.ifCond .ne 11, 3) := dk_154 (by decide +kernel)
theorem dX11_fault_4 : decode cX11_fault 4 = .ok (.aload_n 0, 1) := dk_42 (by decide +kernel)
theorem dX11_fault_5 : decode cX11_fault 5 = .ok (.getfield 16, 3) := dk_180 (by decide +kernel)
theorem dX11_fault_8 : decode cX11_fault 8 = .ok (.getfield 87, 3) := dk_180 (by decide +kernel)
theorem dX11_fault_11 : decode cX11_fault 11 = .ok (.ireturn, 1) := dk_172 (by decide +kernel)
theorem dX11_fault_12 : decode cX11_fault 12 = .ok (.iload_n 1, 1) := dk_27 (by decide +kernel)
theorem dX11_fault_13 : decode cX11_fault 13 = .ok (.iconst 1, 1) := dk_4 (by decide +kernel)
theorem dX11_fault_14 : decode cX11_fault 14 = .ok (.if_icmp .ne 23, 3) := dk_160 (by decide +kernel)
theorem dX11_fault_17 : decode cX11_fault 17 = .ok (.aload_n 0, 1) := dk_42 (by decide +kernel)
theorem dX11_fault_18 : decode cX11_fault 18 = .ok (.getfield 16, 3) := dk_180 (by decide +kernel)
theorem dX11_fault_21 : decode cX11_fault 21 = .ok (.getfield 87, 3) := dk_180 (by decide +kernel)
theorem dX11_fault_24 : decode cX11_fault 24 = .ok (.ifCond .eq 13, 3) := dk_153 (by decide +kernel)
theorem dX11_fault_27 : decode cX11_fault 27 = .ok (.aload_n 0, 1) := dk_42 (by decide +kernel)
theorem dX11_fault_28 : decode cX11_fault 28 = .ok (.getfield 16, 3) := dk_180 (by decide +kernel)
theorem dX11_fault_31 : decode cX11_fault 31 = .ok (.getfield 90, 3) := dk_180 (by decide +kernel)
theorem dX11_fault_34 : decode cX11_fault 34 = .ok (.goto 4, 3) := dk_167 (by decide +kernel)
theorem dX11_fault_37 : decode cX11_fault 37 = .ok (.iconst (-1), 1) := dk_2 (by decide +kernel)
theorem dX11_fault_38 : decode cX11_fault 38 = .ok (.ireturn, 1) := dk_172 (by decide +kernel)
def wsMX11_fault : List Cond := .code yX11_fault cX11_fault 2 (some .int) :: ([.fieldLink RX11 16 "OptimaWorks" "words" "LOptimaWorks$Words;", .fieldLink RX11 87 "OptimaWorks$Words" "fault" "I", .fieldLink RX11 90 "OptimaWorks$Words" "place" "I"] ++ wsX90 ++ wsX110)
theorem iwsMX11_fault_in9 : ∀ w ∈ wsX90, w ∈ wsMX11_fault := fun _ h => List.mem_cons_of_mem _ (List.mem_append_left _ (List.mem_append_right _ h))
theorem iwsMX11_fault_in11 : ∀ w ∈ wsX110, w ∈ wsMX11_fault := fun _ h => List.mem_cons_of_mem _ (List.mem_append_right _ h)
theorem gdwsMX11_fault : wsMX11_fault.all goodWord = true := gdC rfl (gdA (gdA (by decide +kernel : ([.fieldLink RX11 16 "OptimaWorks" "words" "LOptimaWorks$Words;", .fieldLink RX11 87 "OptimaWorks$Words" "fault" "I", .fieldLink RX11 90 "OptimaWorks$Words" "place" "I"] : List Cond).all goodWord = true) gdwsX90) gdwsX110)
theorem hm_m_X11_fault_0 : (.fieldLink RX11 16 "OptimaWorks" "words" "LOptimaWorks$Words;" : Cond) ∈ wsMX11_fault := by decide +kernel
theorem hm_m_X11_fault_1 : (.fieldLink RX11 87 "OptimaWorks$Words" "fault" "I" : Cond) ∈ wsMX11_fault := by decide +kernel
set_option maxHeartbeats 4000000 in
set_option maxRecDepth 100000 in
/-- the fault -/
theorem m_X11_fault (l : Launch) (dC : Nat → ClassId) (dI : Nat → Nat → Nat) (hX : Nat → Nat) (aX : Nat → Nat) (kX : Nat → ClassId) (hT : Nat → Nat) (hM : Nat → Nat) (fX_ready : Nat → Int32) (fX_sheet : Nat → Int32) (dX_sheet : Nat) (nX_sheet : Nat) (iX_sheetLength : Int32) (xX_reader : Value) (xX_solver : Value) (xX_prover : Value) (xX_values : Value) (xX_clauses : Value) (xX_nets : Value) (aT : Nat → Nat) (kT : Nat → ClassId) (fT_tape : Nat → Int32) (dT_tape : Nat) (nT_tape : Nat) (iT_length : Int32) (iT_fault : Int32) (iT_place : Int32) (iT_kind : Int32) (iT_at : Int32) (iT_number : Int32) (jT_name : Int64) (iT_next : Int32) (p1 : Int32) (b_fX_sheet : ∀ q : Nat, (-128) ≤ (fX_sheet q).toInt ∧ (fX_sheet q).toInt ≤ 127) (b_nX_sheet : 64 ≤ nX_sheet ∧ nX_sheet ≤ 60000) (b_iX_sheetLength : 0 ≤ iX_sheetLength.toInt ∧ iX_sheetLength.toInt ≤ 30000) (b_shl : iX_sheetLength.toInt ≤ ((nX_sheet : Nat) : Int)) (b_fT_tape : ∀ q : Nat, (-128) ≤ (fT_tape q).toInt ∧ (fT_tape q).toInt ≤ 127) (b_nT_tape : 64 ≤ nT_tape ∧ nT_tape ≤ 2560) (b_iT_length : 0 ≤ iT_length.toInt ∧ iT_length.toInt ≤ 1280) (b_iT_at : 0 ≤ iT_at.toInt ∧ iT_at.toInt ≤ 1282) (b_iT_number : 0 ≤ iT_number.toInt ∧ iT_number.toInt ≤ 999999) (b_iT_next : 0 ≤ iT_next.toInt ∧ iT_next.toInt ≤ 1282) (b_len : iT_length.toInt ≤ ((nT_tape : Nat) : Int)) (sz : Nat) : Met l yX11_fault wsMX11_fault ({ frames := 0, cells := 0, slots := 0, locals := 0 }) (va_Pc [.ref (hX 0), .int p1] (fun U => U.heap.size = sz ∧ va_P (dC, dI) vwCl (WX hX aX kX hT hM fX_ready fX_sheet dX_sheet nX_sheet iX_sheetLength xX_reader xX_solver xX_prover xX_values xX_clauses xX_nets ++ (WT hT aT kT fT_tape dT_tape nT_tape iT_length iT_fault iT_place iT_kind iT_at iT_number jT_name iT_next)) U.heap ∧ va_K (dC, dI) vwCl (tX kX ++ (tT kT)) U ∧ va_D (fun _ => True) (WX hX aX kX hT hM fX_ready fX_sheet dX_sheet nX_sheet iX_sheetLength xX_reader xX_solver xX_prover xX_values xX_clauses xX_nets ++ (WT hT aT kT fT_tape dT_tape nT_tape iT_length iT_fault iT_place iT_kind iT_at iT_number jT_name iT_next)))) (va_Qi (fun (r : Int32) (u : Unit) => True) (fun (u : Unit) t => va_P (dC, dI) vwCl (WX hX aX kX hT hM fX_ready fX_sheet dX_sheet nX_sheet iX_sheetLength xX_reader xX_solver xX_prover xX_values xX_clauses xX_nets ++ (WT hT aT kT fT_tape dT_tape nT_tape iT_length iT_fault iT_place iT_kind iT_at iT_number jT_name iT_next)) t.heap ∧ va_D (va_A (WX hX aX kX hT hM fX_ready fX_sheet dX_sheet nX_sheet iX_sheetLength xX_reader xX_solver xX_prover xX_values xX_clauses xX_nets ++ (WT hT aT kT fT_tape dT_tape nT_tape iT_length iT_fault iT_place iT_kind iT_at iT_number jT_name iT_next)) sz) (WX hX aX kX hT hM fX_ready fX_sheet dX_sheet nX_sheet iX_sheetLength xX_reader xX_solver xX_prover xX_values xX_clauses xX_nets ++ (WT hT aT kT fT_tape dT_tape nT_tape iT_length iT_fault iT_place iT_kind iT_at iT_number jT_name iT_next))) (va_A (WX hX aX kX hT hM fX_ready fX_sheet dX_sheet nX_sheet iX_sheetLength xX_reader xX_solver xX_prover xX_values xX_clauses xX_nets ++ (WT hT aT kT fT_tape dT_tape nT_tape iT_length iT_fault iT_place iT_kind iT_at iT_number jT_name iT_next)) sz)) 0 0 (va_A (WX hX aX kX hT hM fX_ready fX_sheet dX_sheet nX_sheet iX_sheetLength xX_reader xX_solver xX_prover xX_values xX_clauses xX_nets ++ (WT hT aT kT fT_tape dT_tape nT_tape iT_length iT_fault iT_place iT_kind iT_at iT_number jT_name iT_next)) sz) := by
  refine Met.ofW (cc := cX11_fault) (maxL := 2) (ret := (some .int)) (by decide) rfl ?_
  intro p e s m args below meth c s₁ B hml hv
  obtain ⟨rfl, hsz, hP, hK, hD0⟩ := hv
  have hx := B.exec
  have hb := B.bytes
  have hr := B.returns
  have hts := atoms_spec (ws := wsMX11_fault) B.pre
  have hown : s.vm.findClass RX11 = some m.cls := findClass_of_methodNamed B.named
  have hlocks := B.notSynchronized
  subst hsz
  have hD := hD0.self (sz := s.heap.size)
  generalize hAe : va_A (WX hX aX kX hT hM fX_ready fX_sheet dX_sheet nX_sheet iX_sheetLength xX_reader xX_solver xX_prover xX_values xX_clauses xX_nets ++ (WT hT aT kT fT_tape dT_tape nT_tape iT_length iT_fault iT_place iT_kind iT_at iT_number jT_name iT_next)) s.heap.size = A at hD ⊢
  have hA : ∀ q : Nat, s.heap.size ≤ q → A q := fun q h => by rw [← hAe]; exact Or.inr h
  have hS : va_S A s.heap s.heap [] := va_S.rf
  have hl := lv_entry ([.ref (hX 0), .int p1]) (n := 2) (Nat.le_of_ble_eq_true rfl)
  rw [lg_entry_eq]
  generalize (lg_sl ([.ref (hX 0), .int p1]) ++ List.replicate (2 - (lg_sl ([.ref (hX 0), .int p1])).length) Slot.unset).toArray = ls at hl ⊢
  have hl : lv_has ls 2 [(0, .ref (hX 0)), (1, .int p1)] := hl
  refine lv_iload_n hx hb dX11_fault_0 rfl (lv_at hl 1 rfl) ?_
  refine lv_if_ne (tgt := 12) hx hb dX11_fault_1 (by decide) (fun c_1 => ?_) (fun c_1 => ?_)
  · have t_1 : p1.toInt ≠ 0 := toI_ne c_1 rfl (by decide : (0 : Int32).toInt = 0)
    refine lv_iload_n hx hb dX11_fault_12 rfl (lv_at hl 1 rfl) ?_
    refine lv_iconst (v := 1) hx hb dX11_fault_13 (by decide) ?_
    refine W.cut (pc := 38) (fun H locs ls stk => ∃ (k0_j2 : Int32),  stk = [.int k0_j2] ∧ va_P (dC, dI) vwCl (WX hX aX kX hT hM fX_ready fX_sheet dX_sheet nX_sheet iX_sheetLength xX_reader xX_solver xX_prover xX_values xX_clauses xX_nets ++ (WT hT aT kT fT_tape dT_tape nT_tape iT_length iT_fault iT_place iT_kind iT_at iT_number jT_name iT_next)) H ∧ va_D A (WX hX aX kX hT hM fX_ready fX_sheet dX_sheet nX_sheet iX_sheetLength xX_reader xX_solver xX_prover xX_values xX_clauses xX_nets ++ (WT hT aT kT fT_tape dT_tape nT_tape iT_length iT_fault iT_place iT_kind iT_at iT_number jT_name iT_next)) ∧ va_S A s.heap H locs ∧ lv_has ls 2 [(0, .ref (hX 0)), (1, .int p1)]) (fun join2 => ?_) ?_
    · refine lv_icmp_ne (tgt := 37) hx hb dX11_fault_14 (by decide) (fun c_14 => ?_) (fun c_14 => ?_)
      · have t_14 : p1.toInt ≠ 1 := toI_ne c_14 rfl (by decide : (1 : Int32).toInt = 1)
        refine lv_iconst (v := (-1)) hx hb dX11_fault_37 (by decide) ?_
        have hl : lv_has _ _ ([(0, .ref (hX 0)), (1, .int p1)]) := lv_sub hl [0, 1] rfl
        exact join2 _ _ _ _ ⟨(-1), rfl, hP, hD, hS, hl⟩
      · have t_14 : p1.toInt = 1 := toI_nne c_14 rfl (by decide : (1 : Int32).toInt = 1)
        refine lv_aload_n hx hb dX11_fault_17 rfl (lv_at hl 0 rfl) ?_
        refine va_get (D := (dC, dI)) (ci := 11) (v := .ref (hT 0)) (C := RX11) (T := TX11) (N := 11) hx hb hts iwsMX11_fault_in11 hown hK hP 0 rfl rfl 1 (by decide) (hts _ hm_m_X11_fault_0) (fun _ h9 => h9) rfl dX11_fault_18 ?_
        refine va_get (D := (dC, dI)) (ci := 9) (v := .int iT_fault) (C := RX9) (T := TX9) (N := 9) hx hb hts iwsMX11_fault_in9 hown hK hP 3 rfl rfl 2 (by decide) (hts _ hm_m_X11_fault_1) (fun _ h9 => h9) rfl dX11_fault_21 ?_
        refine lv_if_eq (tgt := 37) hx hb dX11_fault_24 (by decide) (fun c_24 => ?_) (fun c_24 => ?_)
        · have t_24 : iT_fault.toInt = 0 := toI_eq c_24 rfl (by decide : (0 : Int32).toInt = 0)
          refine lv_iconst (v := (-1)) hx hb dX11_fault_37 (by decide) ?_
          have hl : lv_has _ _ ([(0, .ref (hX 0)), (1, .int p1)]) := lv_sub hl [0, 1] rfl
          exact join2 _ _ _ _ ⟨(-1), rfl, hP, hD, hS, hl⟩
        · have t_24 : ¬ iT_fault.toInt = 0 := toI_neq c_24 rfl (by decide : (0 : Int32).toInt = 0)
          refine lv_aload_n hx hb dX11_fault_27 rfl (lv_at hl 0 rfl) ?_
          refine va_get (D := (dC, dI)) (ci := 11) (v := .ref (hT 0)) (C := RX11) (T := TX11) (N := 11) hx hb hts iwsMX11_fault_in11 hown hK hP 0 rfl rfl 1 (by decide) (hts _ hm_m_X11_fault_0) (fun _ h9 => h9) rfl dX11_fault_28 ?_
          refine va_get (D := (dC, dI)) (ci := 9) (v := .int iT_place) (C := RX9) (T := TX9) (N := 9) hx hb hts iwsMX11_fault_in9 hown hK hP 3 rfl rfl 3 (by decide) (hts (.fieldLink RX11 90 "OptimaWorks$Words" "place" "I") (by decide +kernel)) (fun _ h9 => h9) rfl dX11_fault_31 ?_
          refine lv_goto (tgt := 38) hx hb dX11_fault_34 (by decide) ?_
          have hl : lv_has _ _ ([(0, .ref (hX 0)), (1, .int p1)]) := lv_sub hl [0, 1] rfl
          exact join2 _ _ _ _ ⟨iT_place, rfl, hP, hD, hS, hl⟩
    · rintro H locs ls stk ⟨k0_j2, rfl, hP, hD, hS, hl⟩
      refine W.widen (k := 0) (n := 0) (by decide +kernel) (by decide +kernel) ?_
      exact W.iret (v := k0_j2) hx hb hr (fun t9_ ht hW => ⟨⟨k0_j2, (), rfl, trivial, by rw [ht]; exact hP, hD⟩, hS.F ht⟩) hS.2.2 dX11_fault_38
  · have t_1 : p1.toInt = 0 := toI_nne c_1 rfl (by decide : (0 : Int32).toInt = 0)
    refine lv_aload_n hx hb dX11_fault_4 rfl (lv_at hl 0 rfl) ?_
    refine va_get (D := (dC, dI)) (ci := 11) (v := .ref (hT 0)) (C := RX11) (T := TX11) (N := 11) hx hb hts iwsMX11_fault_in11 hown hK hP 0 rfl rfl 1 (by decide) (hts _ hm_m_X11_fault_0) (fun _ h9 => h9) rfl dX11_fault_5 ?_
    refine va_get (D := (dC, dI)) (ci := 9) (v := .int iT_fault) (C := RX9) (T := TX9) (N := 9) hx hb hts iwsMX11_fault_in9 hown hK hP 3 rfl rfl 2 (by decide) (hts _ hm_m_X11_fault_1) (fun _ h9 => h9) rfl dX11_fault_8 ?_
    refine W.widen (k := 0) (n := 0) (by decide +kernel) (by decide +kernel) ?_
    exact W.iret (v := iT_fault) hx hb hr (fun t9_ ht hW => ⟨⟨iT_fault, (), rfl, trivial, by rw [ht]; exact hP, hD⟩, hS.F ht⟩) hS.2.2 dX11_fault_11
theorem dX11_variable_0 : decode cX11_variable 0 = .ok (.iload_n 1, 1) := dk_27 (by decide +kernel)
theorem dX11_variable_1 : decode cX11_variable 1 = .ok (.ifCond .lt 14, 3) := dk_155 (by decide +kernel)
theorem dX11_variable_4 : decode cX11_variable 4 = .ok (.iload_n 1, 1) := dk_27 (by decide +kernel)
theorem dX11_variable_5 : decode cX11_variable 5 = .ok (.aload_n 0, 1) := dk_42 (by decide +kernel)
theorem dX11_variable_6 : decode cX11_variable 6 = .ok (.getfield 23, 3) := dk_180 (by decide +kernel)
theorem dX11_variable_9 : decode cX11_variable 9 = .ok (.getfield 84, 3) := dk_180 (by decide +kernel)
theorem dX11_variable_12 : decode cX11_variable 12 = .ok (.if_icmp .lt 11, 3) := dk_161 (by decide +kernel)
theorem dX11_variable_15 : decode cX11_variable 15 = .ok (.new 93, 3) := dk_187 (by decide +kernel)
theorem dX11_variable_18 : decode cX11_variable 18 = .ok (.dup, 1) := dk_89 (by decide +kernel)
theorem dX11_variable_19 : decode cX11_variable 19 = .ok (.invokespecial 95, 3) := dk_183 (by decide +kernel)
theorem dX11_variable_22 : decode cX11_variable 22 = .ok (.athrow, 1) := dk_191 (by decide +kernel)
theorem dX11_variable_23 : decode cX11_variable 23 = .ok (.iload_n 2, 1) := dk_28 (by decide +kernel)
theorem dX11_variable_24 : decode cX11_variable 24 = .ok (.tableswitch 66 0 2 #[28, 38, 48], 28) := by decide +kernel
theorem dX11_variable_52 : decode cX11_variable 52 = .ok (.aload_n 0, 1) := dk_42 (by decide +kernel)
theorem dX11_variable_53 : decode cX11_variable 53 = .ok (.getfield 23, 3) := dk_180 (by decide +kernel)
theorem dX11_variable_56 : decode cX11_variable 56 = .ok (.getfield 96, 3) := dk_180 (by decide +kernel)
theorem dX11_variable_59 : decode cX11_variable 59 = .ok (.iload_n 1, 1) := dk_27 (by decide +kernel)
theorem dX11_variable_60 : decode cX11_variable 60 = .ok (.iaload, 1) := dk_46 (by decide +kernel)
theorem dX11_variable_61 : decode cX11_variable 61 = .ok (.ireturn, 1) := dk_172 (by decide +kernel)
theorem dX11_variable_62 : decode cX11_variable 62 = .ok (.aload_n 0, 1) := dk_42 (by decide +kernel)
theorem dX11_variable_63 : decode cX11_variable 63 = .ok (.getfield 23, 3) := dk_180 (by decide +kernel)
theorem dX11_variable_66 : decode cX11_variable 66 = .ok (.getfield 99, 3) := dk_180 (by decide +kernel)
theorem dX11_variable_69 : decode cX11_variable 69 = .ok (.iload_n 1, 1) := dk_27 (by decide +kernel)
theorem dX11_variable_70 : decode cX11_variable 70 = .ok (.iaload, 1) := dk_46 (by decide +kernel)
theorem dX11_variable_71 : decode cX11_variable 71 = .ok (.ireturn, 1) := dk_172 (by decide +kernel)
theorem dX11_variable_72 : decode cX11_variable 72 = .ok (.aload_n 0, 1) := dk_42 (by decide +kernel)
theorem dX11_variable_73 : decode cX11_variable 73 = .ok (.getfield 23, 3) := dk_180 (by decide +kernel)
theorem dX11_variable_76 : decode cX11_variable 76 = .ok (.getfield 102, 3) := dk_180 (by decide +kernel)
theorem dX11_variable_79 : decode cX11_variable 79 = .ok (.iload_n 1, 1) := dk_27 (by decide +kernel)
theorem dX11_variable_80 : decode cX11_variable 80 = .ok (.baload, 1) := dk_51 (by decide +kernel)
theorem dX11_variable_81 : decode cX11_variable 81 = .ok (.ifCond .eq 7, 3) := dk_153 (by decide +kernel)
theorem dX11_variable_84 : decode cX11_variable 84 = .ok (.iconst 1, 1) := dk_4 (by decide +kernel)
theorem dX11_variable_85 : decode cX11_variable 85 = .ok (.goto 4, 3) := dk_167 (by decide +kernel)
theorem dX11_variable_88 : decode cX11_variable 88 = .ok (.iconst 0, 1) := dk_3 (by decide +kernel)
theorem dX11_variable_89 : decode cX11_variable 89 = .ok (.ireturn, 1) := dk_172 (by decide +kernel)
theorem dX11_variable_90 : decode cX11_variable 90 = .ok (.iconst (-1), 1) := dk_2 (by decide +kernel)
theorem dX11_variable_91 : decode cX11_variable 91 = .ok (.ireturn, 1) := dk_172 (by decide +kernel)
def wsMX11_variable : List Cond := .code yX11_variable cX11_variable 3 (some .int) :: ([.classLink RX11 93 "java/lang/IndexOutOfBoundsException", .initialized "java/lang/IndexOutOfBoundsException", .fieldLink RX11 23 "OptimaWorks" "model" "LOptimaWorks$Model;", .fieldLink RX11 84 "OptimaWorks$Model" "variables" "I", .fieldLink RX11 96 "OptimaWorks$Model" "from" "[I", .fieldLink RX11 99 "OptimaWorks$Model" "to" "[I", .fieldLink RX11 102 "OptimaWorks$Model" "whole" "[Z"] ++ wsX10 ++ wsX110 ++ ((vx_at0 RX11 95 "java/lang/IndexOutOfBoundsException" ["java/lang/RuntimeException", "java/lang/Exception"]).filter goodWord))
theorem iwsMX11_variable_in1 : ∀ w ∈ wsX10, w ∈ wsMX11_variable := fun _ h => List.mem_cons_of_mem _ (List.mem_append_left _ (List.mem_append_left _ (List.mem_append_right _ h)))
theorem iwsMX11_variable_in11 : ∀ w ∈ wsX110, w ∈ wsMX11_variable := fun _ h => List.mem_cons_of_mem _ (List.mem_append_left _ (List.mem_append_right _ h))
theorem gdwsMX11_variable : wsMX11_variable.all goodWord = true := gdC rfl (gdA (gdA (gdA (by decide +kernel : ([.classLink RX11 93 "java/lang/IndexOutOfBoundsException", .initialized "java/lang/IndexOutOfBoundsException", .fieldLink RX11 23 "OptimaWorks" "model" "LOptimaWorks$Model;", .fieldLink RX11 84 "OptimaWorks$Model" "variables" "I", .fieldLink RX11 96 "OptimaWorks$Model" "from" "[I", .fieldLink RX11 99 "OptimaWorks$Model" "to" "[I", .fieldLink RX11 102 "OptimaWorks$Model" "whole" "[Z"] : List Cond).all goodWord = true) gdwsX10) gdwsX110) (gdF _))
theorem hm_m_X11_variable_0 : (.classLink RX11 93 "java/lang/IndexOutOfBoundsException" : Cond) ∈ wsMX11_variable := by decide +kernel
theorem hm_m_X11_variable_1 : (.initialized "java/lang/IndexOutOfBoundsException" : Cond) ∈ wsMX11_variable := by decide +kernel
theorem hm_m_X11_variable_2 : (.fieldLink RX11 23 "OptimaWorks" "model" "LOptimaWorks$Model;" : Cond) ∈ wsMX11_variable := by decide +kernel
set_option maxHeartbeats 4000000 in
set_option maxRecDepth 100000 in
/-- a variable -/
theorem m_X11_variable (l : Launch) (hst : l.stackTraces = false) (dC : Nat → ClassId) (dI : Nat → Nat → Nat) (hX : Nat → Nat) (aX : Nat → Nat) (kX : Nat → ClassId) (hT : Nat → Nat) (hM : Nat → Nat) (fX_ready : Nat → Int32) (fX_sheet : Nat → Int32) (dX_sheet : Nat) (nX_sheet : Nat) (iX_sheetLength : Int32) (xX_reader : Value) (xX_solver : Value) (xX_prover : Value) (xX_values : Value) (xX_clauses : Value) (xX_nets : Value) (aM : Nat → Nat) (kM : Nat → ClassId) (iM_stands : Int32) (iM_variables : Int32) (iM_rows : Int32) (iM_goals : Int32) (iM_differents : Int32) (iM_cases : Int32) (fM_from : Nat → Int32) (fM_to : Nat → Int32) (fM_whole : Nat → Int32) (fM_ways : Nat → Int32) (iM_plainRows : Int32) (fM_plainRow : Nat → Int32) (fM_kept : Nat → Int32) (fM_goalOver : Nat → Int32) (fM_goalUnder : Nat → Int32) (fM_goalMax : Nat → Int32) (fM_different : Nat → Int32) (p1 : Int32) (p2 : Int32) (b_fX_sheet : ∀ q : Nat, (-128) ≤ (fX_sheet q).toInt ∧ (fX_sheet q).toInt ≤ 127) (b_nX_sheet : 64 ≤ nX_sheet ∧ nX_sheet ≤ 60000) (b_iX_sheetLength : 0 ≤ iX_sheetLength.toInt ∧ iX_sheetLength.toInt ≤ 30000) (b_shl : iX_sheetLength.toInt ≤ ((nX_sheet : Nat) : Int)) (b_iM_stands : 0 ≤ iM_stands.toInt ∧ iM_stands.toInt ≤ 1) (b_iM_variables : 0 ≤ iM_variables.toInt ∧ iM_variables.toInt ≤ 8) (b_iM_rows : 0 ≤ iM_rows.toInt ∧ iM_rows.toInt ≤ 12) (b_iM_goals : 0 ≤ iM_goals.toInt ∧ iM_goals.toInt ≤ 3) (b_iM_differents : 0 ≤ iM_differents.toInt ∧ iM_differents.toInt ≤ 8) (b_iM_cases : 0 ≤ iM_cases.toInt ∧ iM_cases.toInt ≤ 200000) (b_fM_ways : ∀ q : Nat, 0 ≤ (fM_ways q).toInt ∧ (fM_ways q).toInt ≤ 3) (b_iM_plainRows : 0 ≤ iM_plainRows.toInt ∧ iM_plainRows.toInt ≤ 12) (b_fM_plainRow : ∀ q : Nat, 0 ≤ (fM_plainRow q).toInt ∧ (fM_plainRow q).toInt ≤ 11) (b_pr : iM_plainRows.toInt ≤ iM_rows.toInt) (sz : Nat) : vx_Met l yX11_variable wsMX11_variable ({ frames := 6, cells := 1, slots := 6, locals := 81 }) (va_Pc [.ref (hX 0), .int p1, .int p2] (fun U => U.heap.size = sz ∧ va_P (dC, dI) vwCl (WX hX aX kX hT hM fX_ready fX_sheet dX_sheet nX_sheet iX_sheetLength xX_reader xX_solver xX_prover xX_values xX_clauses xX_nets ++ (WM hM aM kM iM_stands iM_variables iM_rows iM_goals iM_differents iM_cases fM_from fM_to fM_whole fM_ways iM_plainRows fM_plainRow fM_kept fM_goalOver fM_goalUnder fM_goalMax fM_different)) U.heap ∧ va_K (dC, dI) vwCl (tX kX ++ (tM kM)) U ∧ va_D (fun _ => True) (WX hX aX kX hT hM fX_ready fX_sheet dX_sheet nX_sheet iX_sheetLength xX_reader xX_solver xX_prover xX_values xX_clauses xX_nets ++ (WM hM aM kM iM_stands iM_variables iM_rows iM_goals iM_differents iM_cases fM_from fM_to fM_whole fM_ways iM_plainRows fM_plainRow fM_kept fM_goalOver fM_goalUnder fM_goalMax fM_different)) ∧ CE (va_A (WX hX aX kX hT hM fX_ready fX_sheet dX_sheet nX_sheet iX_sheetLength xX_reader xX_solver xX_prover xX_values xX_clauses xX_nets ++ (WM hM aM kM iM_stands iM_variables iM_rows iM_goals iM_differents iM_cases fM_from fM_to fM_whole fM_ways iM_plainRows fM_plainRow fM_kept fM_goalOver fM_goalUnder fM_goalMax fM_different)) sz) U U.heap)) (va_Qi (fun (r : Int32) (u : Unit) => True) (fun (u : Unit) t => va_P (dC, dI) vwCl (WX hX aX kX hT hM fX_ready fX_sheet dX_sheet nX_sheet iX_sheetLength xX_reader xX_solver xX_prover xX_values xX_clauses xX_nets ++ (WM hM aM kM iM_stands iM_variables iM_rows iM_goals iM_differents iM_cases fM_from fM_to fM_whole fM_ways iM_plainRows fM_plainRow fM_kept fM_goalOver fM_goalUnder fM_goalMax fM_different)) t.heap ∧ va_D (va_A (WX hX aX kX hT hM fX_ready fX_sheet dX_sheet nX_sheet iX_sheetLength xX_reader xX_solver xX_prover xX_values xX_clauses xX_nets ++ (WM hM aM kM iM_stands iM_variables iM_rows iM_goals iM_differents iM_cases fM_from fM_to fM_whole fM_ways iM_plainRows fM_plainRow fM_kept fM_goalOver fM_goalUnder fM_goalMax fM_different)) sz) (WX hX aX kX hT hM fX_ready fX_sheet dX_sheet nX_sheet iX_sheetLength xX_reader xX_solver xX_prover xX_values xX_clauses xX_nets ++ (WM hM aM kM iM_stands iM_variables iM_rows iM_goals iM_differents iM_cases fM_from fM_to fM_whole fM_ways iM_plainRows fM_plainRow fM_kept fM_goalOver fM_goalUnder fM_goalMax fM_different)) ∧ t.heap.size = sz) (va_A (WX hX aX kX hT hM fX_ready fX_sheet dX_sheet nX_sheet iX_sheetLength xX_reader xX_solver xX_prover xX_values xX_clauses xX_nets ++ (WM hM aM kM iM_stands iM_variables iM_rows iM_goals iM_differents iM_cases fM_from fM_to fM_whole fM_ways iM_plainRows fM_plainRow fM_kept fM_goalOver fM_goalUnder fM_goalMax fM_different)) sz)) (vx_X (fun (u : Unit) => True) (fun E (u : Unit) t => (E = "java/lang/IndexOutOfBoundsException") ∧ va_P (dC, dI) vwCl (WX hX aX kX hT hM fX_ready fX_sheet dX_sheet nX_sheet iX_sheetLength xX_reader xX_solver xX_prover xX_values xX_clauses xX_nets ++ (WM hM aM kM iM_stands iM_variables iM_rows iM_goals iM_differents iM_cases fM_from fM_to fM_whole fM_ways iM_plainRows fM_plainRow fM_kept fM_goalOver fM_goalUnder fM_goalMax fM_different)) t.heap ∧ va_D (va_A (WX hX aX kX hT hM fX_ready fX_sheet dX_sheet nX_sheet iX_sheetLength xX_reader xX_solver xX_prover xX_values xX_clauses xX_nets ++ (WM hM aM kM iM_stands iM_variables iM_rows iM_goals iM_differents iM_cases fM_from fM_to fM_whole fM_ways iM_plainRows fM_plainRow fM_kept fM_goalOver fM_goalUnder fM_goalMax fM_different)) sz) (WX hX aX kX hT hM fX_ready fX_sheet dX_sheet nX_sheet iX_sheetLength xX_reader xX_solver xX_prover xX_values xX_clauses xX_nets ++ (WM hM aM kM iM_stands iM_variables iM_rows iM_goals iM_differents iM_cases fM_from fM_to fM_whole fM_ways iM_plainRows fM_plainRow fM_kept fM_goalOver fM_goalUnder fM_goalMax fM_different))) (va_A (WX hX aX kX hT hM fX_ready fX_sheet dX_sheet nX_sheet iX_sheetLength xX_reader xX_solver xX_prover xX_values xX_clauses xX_nets ++ (WM hM aM kM iM_stands iM_variables iM_rows iM_goals iM_differents iM_cases fM_from fM_to fM_whole fM_ways iM_plainRows fM_plainRow fM_kept fM_goalOver fM_goalUnder fM_goalMax fM_different)) sz)) 1 6 (va_A (WX hX aX kX hT hM fX_ready fX_sheet dX_sheet nX_sheet iX_sheetLength xX_reader xX_solver xX_prover xX_values xX_clauses xX_nets ++ (WM hM aM kM iM_stands iM_variables iM_rows iM_goals iM_differents iM_cases fM_from fM_to fM_whole fM_ways iM_plainRows fM_plainRow fM_kept fM_goalOver fM_goalUnder fM_goalMax fM_different)) sz) := by
  refine vx_ofW (cc := cX11_variable) (maxL := 3) (ret := (some .int)) (by decide) rfl ?_
  intro p e s m args below meth c s₁ B hml htab hv
  obtain ⟨rfl, hsz, hP, hK, hD0, hE⟩ := hv
  have hx := B.exec
  have hb := B.bytes
  have hr := B.returns
  have hts := atoms_spec (ws := wsMX11_variable) B.pre
  have hown : s.vm.findClass RX11 = some m.cls := findClass_of_methodNamed B.named
  have hlocks := B.notSynchronized
  subst hsz
  have hD := hD0.self (sz := s.heap.size)
  generalize hAe : va_A (WX hX aX kX hT hM fX_ready fX_sheet dX_sheet nX_sheet iX_sheetLength xX_reader xX_solver xX_prover xX_values xX_clauses xX_nets ++ (WM hM aM kM iM_stands iM_variables iM_rows iM_goals iM_differents iM_cases fM_from fM_to fM_whole fM_ways iM_plainRows fM_plainRow fM_kept fM_goalOver fM_goalUnder fM_goalMax fM_different)) s.heap.size = A at hD hE ⊢
  have hA : ∀ q : Nat, s.heap.size ≤ q → A q := fun q h => by rw [← hAe]; exact Or.inr h
  have hS : va_S A s.heap s.heap [] := va_S.rf
  have hl := lv_entry ([.ref (hX 0), .int p1, .int p2]) (n := 3) (Nat.le_of_ble_eq_true rfl)
  rw [lg_entry_eq]
  generalize (lg_sl ([.ref (hX 0), .int p1, .int p2]) ++ List.replicate (3 - (lg_sl ([.ref (hX 0), .int p1, .int p2])).length) Slot.unset).toArray = ls at hl ⊢
  have hl : lv_has ls 3 [(0, .ref (hX 0)), (1, .int p1), (2, .int p2)] := hl
  refine lv_iload_n hx hb dX11_variable_0 rfl (lv_at hl 1 rfl) ?_
  refine lv_if_lt (tgt := 15) hx hb dX11_variable_1 (by decide) (fun c_1 => ?_) (fun c_1 => ?_)
  · have t_1 : p1.toInt < 0 := toI_lt c_1 rfl (by decide : (0 : Int32).toInt = 0)
    exact vx_throw0 (own := RX11) (cls := "java/lang/IndexOutOfBoundsException") (names := ["java/lang/RuntimeException", "java/lang/Exception"]) (ik := 93) (ic := 95) (A := A) hx hb hst hown (by decide +kernel) (by decide +kernel) (hts _ hm_m_X11_variable_0) (hts _ hm_m_X11_variable_1) (vx_hat (B := ngX11_95) (fun w h => hts w (List.mem_cons_of_mem _ (List.mem_append_right _ h))) (fun _ h => h) (fun w h => va_Nw.use (ngX11_95_ot w h) (hE.2.2.1.2.2.2.1 w h))) (by decide +kernel) hE.2.1.1 hE.2.1.2 hS (by rw [hml]; exact hl.1) dX11_variable_15 dX11_variable_18 dX11_variable_19 dX11_variable_22 (fun x hx9 => (htab x hx9).elim) (by decide +kernel) (Nat.le_of_ble_eq_true rfl) (by decide +kernel) (by decide +kernel) hlocks (fun t hvm hz hk => ⟨(), trivial, ⟨rfl, hP.kept (fun k q h => hk q.1 ((hP k q h).lt)), hD⟩, ⟨Nat.le_trans hS.1 hz, fun q h1 h2 => (hk q (Nat.lt_of_lt_of_le h1 hS.1)).trans (hS.2.1 q h1 h2)⟩⟩) hS.2.2 (by decide +kernel) (by decide +kernel)
  · have t_1 : ¬ p1.toInt < 0 := toI_nlt c_1 rfl (by decide : (0 : Int32).toInt = 0)
    refine lv_iload_n hx hb dX11_variable_4 rfl (lv_at hl 1 rfl) ?_
    refine lv_aload_n hx hb dX11_variable_5 rfl (lv_at hl 0 rfl) ?_
    refine va_get (D := (dC, dI)) (ci := 11) (v := .ref (hM 0)) (C := RX11) (T := TX11) (N := 11) hx hb hts iwsMX11_variable_in11 hown hK hP 0 rfl rfl 2 (by decide) (hts _ hm_m_X11_variable_2) (fun _ h9 => h9) rfl dX11_variable_6 ?_
    refine va_get (D := (dC, dI)) (ci := 1) (v := .int iM_variables) (C := RX1) (T := TX1) (N := 17) hx hb hts iwsMX11_variable_in1 hown hK hP 3 rfl rfl 1 (by decide) (hts (.fieldLink RX11 84 "OptimaWorks$Model" "variables" "I") (by decide +kernel)) (fun _ h9 => h9) rfl dX11_variable_9 ?_
    refine lv_icmp_lt (tgt := 23) hx hb dX11_variable_12 (by decide) (fun c_12 => ?_) (fun c_12 => ?_)
    · have t_12 : p1.toInt < iM_variables.toInt := toI_lt c_12 rfl rfl
      refine lv_iload_n hx hb dX11_variable_23 rfl (lv_at hl 2 rfl) ?_
      by_cases s_24_0 : p2 = 0
      · have ts_24_0 : p2.toInt = 0 := toI_eq s_24_0 rfl (by decide)
        refine lv_tableIn (off := 28) (tgt := 52) hx hb dX11_variable_24 (by rw [s_24_0]; decide) (by rw [s_24_0]; decide) (by rw [s_24_0]; decide) (by decide) ?_
        refine lv_aload_n hx hb dX11_variable_52 rfl (lv_at hl 0 rfl) ?_
        refine va_get (D := (dC, dI)) (ci := 11) (v := .ref (hM 0)) (C := RX11) (T := TX11) (N := 11) hx hb hts iwsMX11_variable_in11 hown hK hP 0 rfl rfl 2 (by decide) (hts _ hm_m_X11_variable_2) (fun _ h9 => h9) rfl dX11_variable_53 ?_
        refine va_get (D := (dC, dI)) (ci := 1) (v := .ref (aM 0)) (C := RX1) (T := TX1) (N := 17) hx hb hts iwsMX11_variable_in1 hown hK hP 3 rfl rfl 6 (by decide) (hts (.fieldLink RX11 96 "OptimaWorks$Model" "from" "[I") (by decide +kernel)) (fun _ h9 => h9) rfl dX11_variable_56 ?_
        refine lv_iload_n hx hb dX11_variable_59 rfl (lv_at hl 1 rfl) ?_
        refine va_iald (cA := kM 0) (n := 8) (f := fM_from) hx hb hK hP 4 2 rfl rfl (vp_in_iff.mpr ⟨(by omega), (by omega)⟩) dX11_variable_60 ?_
        refine lv_topi (fun v1 hv1 => ?_)
        clear hv1
        refine vx_ret ?_
        refine W.known (fun hz9 _ => ?_)
        refine W.widen (k := 1) (n := 6) (by decide +kernel) (by decide +kernel) ?_
        exact W.iret (v := v1) hx hb hr (fun t9_ ht hW => ⟨⟨v1, (), rfl, trivial, by rw [ht]; exact hP, hD, by rw [ht]; first | done | exact Nat.le_antisymm hz9 hS.1⟩, hS.F ht⟩) hS.2.2 dX11_variable_61
      · have ts_24_0 : ¬ p2.toInt = 0 := toI_neq s_24_0 rfl (by decide)
        by_cases s_24_1 : p2 = 1
        · have ts_24_1 : p2.toInt = 1 := toI_eq s_24_1 rfl (by decide)
          refine lv_tableIn (off := 38) (tgt := 62) hx hb dX11_variable_24 (by rw [s_24_1]; decide) (by rw [s_24_1]; decide) (by rw [s_24_1]; decide) (by decide) ?_
          refine lv_aload_n hx hb dX11_variable_62 rfl (lv_at hl 0 rfl) ?_
          refine va_get (D := (dC, dI)) (ci := 11) (v := .ref (hM 0)) (C := RX11) (T := TX11) (N := 11) hx hb hts iwsMX11_variable_in11 hown hK hP 0 rfl rfl 2 (by decide) (hts _ hm_m_X11_variable_2) (fun _ h9 => h9) rfl dX11_variable_63 ?_
          refine va_get (D := (dC, dI)) (ci := 1) (v := .ref (aM 1)) (C := RX1) (T := TX1) (N := 17) hx hb hts iwsMX11_variable_in1 hown hK hP 3 rfl rfl 7 (by decide) (hts (.fieldLink RX11 99 "OptimaWorks$Model" "to" "[I") (by decide +kernel)) (fun _ h9 => h9) rfl dX11_variable_66 ?_
          refine lv_iload_n hx hb dX11_variable_69 rfl (lv_at hl 1 rfl) ?_
          refine va_iald (cA := kM 1) (n := 8) (f := fM_to) hx hb hK hP 5 3 rfl rfl (vp_in_iff.mpr ⟨(by omega), (by omega)⟩) dX11_variable_70 ?_
          refine lv_topi (fun v2 hv2 => ?_)
          clear hv2
          refine vx_ret ?_
          refine W.known (fun hz9 _ => ?_)
          refine W.widen (k := 1) (n := 6) (by decide +kernel) (by decide +kernel) ?_
          exact W.iret (v := v2) hx hb hr (fun t9_ ht hW => ⟨⟨v2, (), rfl, trivial, by rw [ht]; exact hP, hD, by rw [ht]; first | done | exact Nat.le_antisymm hz9 hS.1⟩, hS.F ht⟩) hS.2.2 dX11_variable_71
        · have ts_24_1 : ¬ p2.toInt = 1 := toI_neq s_24_1 rfl (by decide)
          by_cases s_24_2 : p2 = 2
          · have ts_24_2 : p2.toInt = 2 := toI_eq s_24_2 rfl (by decide)
            refine lv_tableIn (off := 48) (tgt := 72) hx hb dX11_variable_24 (by rw [s_24_2]; decide) (by rw [s_24_2]; decide) (by rw [s_24_2]; decide) (by decide) ?_
            refine lv_aload_n hx hb dX11_variable_72 rfl (lv_at hl 0 rfl) ?_
            refine va_get (D := (dC, dI)) (ci := 11) (v := .ref (hM 0)) (C := RX11) (T := TX11) (N := 11) hx hb hts iwsMX11_variable_in11 hown hK hP 0 rfl rfl 2 (by decide) (hts _ hm_m_X11_variable_2) (fun _ h9 => h9) rfl dX11_variable_73 ?_
            refine va_get (D := (dC, dI)) (ci := 1) (v := .ref (aM 2)) (C := RX1) (T := TX1) (N := 17) hx hb hts iwsMX11_variable_in1 hown hK hP 3 rfl rfl 8 (by decide) (hts (.fieldLink RX11 102 "OptimaWorks$Model" "whole" "[Z") (by decide +kernel)) (fun _ h9 => h9) rfl dX11_variable_76 ?_
            refine lv_iload_n hx hb dX11_variable_79 rfl (lv_at hl 1 rfl) ?_
            refine va_zald (cA := kM 2) (n := 8) (f := fM_whole) hx hb hK hP 6 4 rfl rfl (vp_in_iff.mpr ⟨(by omega), (by omega)⟩) dX11_variable_80 ?_
            refine lv_topi (fun v3 hv3 => ?_)
            clear hv3
            refine lv_if_eq (tgt := 88) hx hb dX11_variable_81 (by decide) (fun c_81 => ?_) (fun c_81 => ?_)
            · have t_81 : v3.toInt = 0 := toI_eq c_81 rfl (by decide : (0 : Int32).toInt = 0)
              refine lv_iconst (v := 0) hx hb dX11_variable_88 (by decide) ?_
              refine vx_ret ?_
              refine W.known (fun hz9 _ => ?_)
              refine W.widen (k := 1) (n := 6) (by decide +kernel) (by decide +kernel) ?_
              exact W.iret (v := 0) hx hb hr (fun t9_ ht hW => ⟨⟨(0 : Int32), (), rfl, trivial, by rw [ht]; exact hP, hD, by rw [ht]; first | done | exact Nat.le_antisymm hz9 hS.1⟩, hS.F ht⟩) hS.2.2 dX11_variable_89
            · have t_81 : ¬ v3.toInt = 0 := toI_neq c_81 rfl (by decide : (0 : Int32).toInt = 0)
              refine lv_iconst (v := 1) hx hb dX11_variable_84 (by decide) ?_
              refine lv_goto (tgt := 89) hx hb dX11_variable_85 (by decide) ?_
              refine vx_ret ?_
              refine W.known (fun hz9 _ => ?_)
              refine W.widen (k := 1) (n := 6) (by decide +kernel) (by decide +kernel) ?_
              exact W.iret (v := 1) hx hb hr (fun t9_ ht hW => ⟨⟨(1 : Int32), (), rfl, trivial, by rw [ht]; exact hP, hD, by rw [ht]; first | done | exact Nat.le_antisymm hz9 hS.1⟩, hS.F ht⟩) hS.2.2 dX11_variable_89
          · have ts_24_2 : ¬ p2.toInt = 2 := toI_neq s_24_2 rfl (by decide)
            refine lv_tableOut (tgt := 90) hx hb dX11_variable_24 (by have := lv_neT s_24_0 (show Int32.toInt 0 = 0 by decide); have := lv_neT s_24_1 (show Int32.toInt 1 = 1 by decide); have := lv_neT s_24_2 (show Int32.toInt 2 = 2 by decide); omega) (by decide) ?_
            refine lv_iconst (v := (-1)) hx hb dX11_variable_90 (by decide) ?_
            refine vx_ret ?_
            refine W.known (fun hz9 _ => ?_)
            refine W.widen (k := 1) (n := 6) (by decide +kernel) (by decide +kernel) ?_
            exact W.iret (v := (-1)) hx hb hr (fun t9_ ht hW => ⟨⟨((-1) : Int32), (), rfl, trivial, by rw [ht]; exact hP, hD, by rw [ht]; first | done | exact Nat.le_antisymm hz9 hS.1⟩, hS.F ht⟩) hS.2.2 dX11_variable_91
    · have t_12 : ¬ p1.toInt < iM_variables.toInt := toI_nlt c_12 rfl rfl
      exact vx_throw0 (own := RX11) (cls := "java/lang/IndexOutOfBoundsException") (names := ["java/lang/RuntimeException", "java/lang/Exception"]) (ik := 93) (ic := 95) (A := A) hx hb hst hown (by decide +kernel) (by decide +kernel) (hts _ hm_m_X11_variable_0) (hts _ hm_m_X11_variable_1) (vx_hat (B := ngX11_95) (fun w h => hts w (List.mem_cons_of_mem _ (List.mem_append_right _ h))) (fun _ h => h) (fun w h => va_Nw.use (ngX11_95_ot w h) (hE.2.2.1.2.2.2.1 w h))) (by decide +kernel) hE.2.1.1 hE.2.1.2 hS (by rw [hml]; exact hl.1) dX11_variable_15 dX11_variable_18 dX11_variable_19 dX11_variable_22 (fun x hx9 => (htab x hx9).elim) (by decide +kernel) (Nat.le_of_ble_eq_true rfl) (by decide +kernel) (by decide +kernel) hlocks (fun t hvm hz hk => ⟨(), trivial, ⟨rfl, hP.kept (fun k q h => hk q.1 ((hP k q h).lt)), hD⟩, ⟨Nat.le_trans hS.1 hz, fun q h1 h2 => (hk q (Nat.lt_of_lt_of_le h1 hS.1)).trans (hS.2.1 q h1 h2)⟩⟩) hS.2.2 (by decide +kernel) (by decide +kernel)
theorem dX11_row_0 : decode cX11_row 0 = .ok (.iload_n 1, 1) := dk_27 (by decide +kernel)
theorem dX11_row_1 : decode cX11_row 1 = .ok (.ifCond .lt 14, 3) := dk_155 (by decide +kernel)
theorem dX11_row_4 : decode cX11_row 4 = .ok (.iload_n 1, 1) := dk_27 (by decide +kernel)
theorem dX11_row_5 : decode cX11_row 5 = .ok (.aload_n 0, 1) := dk_42 (by decide +kernel)
theorem dX11_row_6 : decode cX11_row 6 = .ok (.getfield 23, 3) := dk_180 (by decide +kernel)
theorem dX11_row_9 : decode cX11_row 9 = .ok (.getfield 106, 3) := dk_180 (by decide +kernel)
theorem dX11_row_12 : decode cX11_row 12 = .ok (.if_icmp .lt 11, 3) := dk_161 (by decide +kernel)
theorem dX11_row_15 : decode cX11_row 15 = .ok (.new 93, 3) := dk_187 (by decide +kernel)
theorem dX11_row_18 : decode cX11_row 18 = .ok (.dup, 1) := dk_89 (by decide +kernel)
theorem dX11_row_19 : decode cX11_row 19 = .ok (.invokespecial 95, 3) := dk_183 (by decide +kernel)
theorem dX11_row_22 : decode cX11_row 22 = .ok (.athrow, 1) := dk_191 (by decide +kernel)
theorem dX11_row_23 : decode cX11_row 23 = .ok (.iload_n 3, 1) := dk_29 (by decide +kernel)
theorem dX11_row_24 : decode cX11_row 24 = .ok (.bipush (-3), 2) := dk_16 (by decide +kernel)
theorem dX11_row_26 : decode cX11_row 26 = .ok (.if_icmp .ne 13, 3) := dk_160 (by decide +kernel)
theorem dX11_row_29 : decode cX11_row 29 = .ok (.aload_n 0, 1) := dk_42 (by decide +kernel)
theorem dX11_row_30 : decode cX11_row 30 = .ok (.getfield 23, 3) := dk_180 (by decide +kernel)
theorem dX11_row_33 : decode cX11_row 33 = .ok (.getfield 109, 3) := dk_180 (by decide +kernel)
theorem dX11_row_36 : decode cX11_row 36 = .ok (.iload_n 1, 1) := dk_27 (by decide +kernel)
theorem dX11_row_37 : decode cX11_row 37 = .ok (.iaload, 1) := dk_46 (by decide +kernel)
theorem dX11_row_38 : decode cX11_row 38 = .ok (.ireturn, 1) := dk_172 (by decide +kernel)
theorem dX11_row_39 : decode cX11_row 39 = .ok (.iload_n 2, 1) := dk_28 (by decide +kernel)
theorem dX11_row_40 : decode cX11_row 40 = .ok (.ifCond .lt 33, 3) := dk_155 (by decide +kernel)
theorem dX11_row_43 : decode cX11_row 43 = .ok (.iload_n 2, 1) := dk_28 (by decide +kernel)
theorem dX11_row_44 : decode cX11_row 44 = .ok (.aload_n 0, 1) := dk_42 (by decide +kernel)
theorem dX11_row_45 : decode cX11_row 45 = .ok (.getfield 23, 3) := dk_180 (by decide +kernel)
theorem dX11_row_48 : decode cX11_row 48 = .ok (.getfield 109, 3) := dk_180 (by decide +kernel)
theorem dX11_row_51 : decode cX11_row 51 = .ok (.iload_n 1, 1) := dk_27 (by decide +kernel)
theorem dX11_row_52 : decode cX11_row 52 = .ok (.iaload, 1) := dk_46 (by decide +kernel)
theorem dX11_row_53 : decode cX11_row 53 = .ok (.if_icmp .ge 20, 3) := dk_162 (by decide +kernel)
theorem dX11_row_56 : decode cX11_row 56 = .ok (.iload_n 3, 1) := dk_29 (by decide +kernel)
theorem dX11_row_57 : decode cX11_row 57 = .ok (.bipush (-2), 2) := dk_16 (by decide +kernel)
theorem dX11_row_59 : decode cX11_row 59 = .ok (.if_icmp .lt 14, 3) := dk_161 (by decide +kernel)
theorem dX11_row_62 : decode cX11_row 62 = .ok (.iload_n 3, 1) := dk_29 (by decide +kernel)
theorem dX11_row_63 : decode cX11_row 63 = .ok (.aload_n 0, 1) := dk_42 (by decide +kernel)
theorem dX11_row_64 : decode cX11_row 64 = .ok (.getfield 23, 3) := dk_180 (by decide +kernel)
theorem dX11_row_67 : decode cX11_row 67 = .ok (.getfield 84, 3) := dk_180 (by decide +kernel)
theorem dX11_row_70 : decode cX11_row 70 = .ok (.if_icmp .lt 11, 3) := dk_161 (by decide +kernel)
theorem dX11_row_73 : decode cX11_row 73 = .ok (.new 93, 3) := dk_187 (by decide +kernel)
theorem dX11_row_76 : decode cX11_row 76 = .ok (.dup, 1) := dk_89 (by decide +kernel)
theorem dX11_row_77 : decode cX11_row 77 = .ok (.invokespecial 95, 3) := dk_183 (by decide +kernel)
theorem dX11_row_80 : decode cX11_row 80 = .ok (.athrow, 1) := dk_191 (by decide +kernel)
theorem dX11_row_81 : decode cX11_row 81 = .ok (.iload_n 3, 1) := dk_29 (by decide +kernel)
theorem dX11_row_82 : decode cX11_row 82 = .ok (.iconst (-1), 1) := dk_2 (by decide +kernel)
theorem dX11_row_83 : decode cX11_row 83 = .ok (.if_icmp .ne 13, 3) := dk_160 (by decide +kernel)
theorem dX11_row_86 : decode cX11_row 86 = .ok (.aload_n 0, 1) := dk_42 (by decide +kernel)
theorem dX11_row_87 : decode cX11_row 87 = .ok (.getfield 23, 3) := dk_180 (by decide +kernel)
theorem dX11_row_90 : decode cX11_row 90 = .ok (.iload_n 1, 1) := dk_27 (by decide +kernel)
theorem dX11_row_91 : decode cX11_row 91 = .ok (.iload_n 2, 1) := dk_28 (by decide +kernel)
theorem dX11_row_92 : decode cX11_row 92 = .ok (.invokevirtual 112, 3) := dk_182 (by decide +kernel)
theorem dX11_row_95 : decode cX11_row 95 = .ok (.ireturn, 1) := dk_172 (by decide +kernel)
theorem dX11_row_96 : decode cX11_row 96 = .ok (.iload_n 3, 1) := dk_29 (by decide +kernel)
theorem dX11_row_97 : decode cX11_row 97 = .ok (.bipush (-2), 2) := dk_16 (by decide +kernel)
theorem dX11_row_99 : decode cX11_row 99 = .ok (.if_icmp .ne 15, 3) := dk_160 (by decide +kernel)
theorem dX11_row_102 : decode cX11_row 102 = .ok (.aload_n 0, 1) := dk_42 (by decide +kernel)
theorem dX11_row_103 : decode cX11_row 103 = .ok (.getfield 23, 3) := dk_180 (by decide +kernel)
theorem dX11_row_106 : decode cX11_row 106 = .ok (.iload_n 1, 1) := dk_27 (by decide +kernel)
theorem dX11_row_107 : decode cX11_row 107 = .ok (.iload_n 2, 1) := dk_28 (by decide +kernel)
theorem dX11_row_108 : decode cX11_row 108 = .ok (.invokevirtual 116, 3) := dk_182 (by decide +kernel)
theorem dX11_row_111 : decode cX11_row 111 = .ok (.goto 13, 3) := dk_167 (by decide +kernel)
theorem dX11_row_114 : decode cX11_row 114 = .ok (.aload_n 0, 1) := dk_42 (by decide +kernel)
theorem dX11_row_115 : decode cX11_row 115 = .ok (.getfield 23, 3) := dk_180 (by decide +kernel)
theorem dX11_row_118 : decode cX11_row 118 = .ok (.iload_n 1, 1) := dk_27 (by decide +kernel)
theorem dX11_row_119 : decode cX11_row 119 = .ok (.iload_n 2, 1) := dk_28 (by decide +kernel)
theorem dX11_row_120 : decode cX11_row 120 = .ok (.iload_n 3, 1) := dk_29 (by decide +kernel)
theorem dX11_row_121 : decode cX11_row 121 = .ok (.invokevirtual 119, 3) := dk_182 (by decide +kernel)
theorem dX11_row_124 : decode cX11_row 124 = .ok (.ireturn, 1) := dk_172 (by decide +kernel)
def wsMX11_row : List Cond := .code yX11_row cX11_row 4 (some .int) :: ([.classLink RX11 93 "java/lang/IndexOutOfBoundsException", .initialized "java/lang/IndexOutOfBoundsException", .fieldLink RX11 23 "OptimaWorks" "model" "LOptimaWorks$Model;", .fieldLink RX11 106 "OptimaWorks$Model" "rows" "I", .fieldLink RX11 109 "OptimaWorks$Model" "ways" "[I", .fieldLink RX11 84 "OptimaWorks$Model" "variables" "I"] ++ wsX10 ++ wsX110 ++ ((vx_at0 RX11 95 "java/lang/IndexOutOfBoundsException" ["java/lang/RuntimeException", "java/lang/Exception"]).filter goodWord) ++ (wsV RX11 119 RX1 yX1_number wsMX1_number) ++ (wsV RX11 116 RX1 yX1_sign wsMX1_sign) ++ (wsV RX11 112 RX1 yX1_rightSide wsMX1_rightSide))
theorem iwsMX11_row_in1 : ∀ w ∈ wsX10, w ∈ wsMX11_row := fun _ h => List.mem_cons_of_mem _ (List.mem_append_left _ (List.mem_append_left _ (List.mem_append_left _ (List.mem_append_left _ (List.mem_append_left _ (List.mem_append_right _ h))))))
theorem iwsMX11_row_in11 : ∀ w ∈ wsX110, w ∈ wsMX11_row := fun _ h => List.mem_cons_of_mem _ (List.mem_append_left _ (List.mem_append_left _ (List.mem_append_left _ (List.mem_append_left _ (List.mem_append_right _ h)))))
theorem gwsMX11_row_1 : GoodIn wsMX11_row (wsV RX11 119 RX1 yX1_number wsMX1_number) := goodIn_sub (fun _ h => List.mem_cons_of_mem _ (List.mem_append_left _ (List.mem_append_left _ (List.mem_append_right _ h)))) (gdV (by decide +kernel) gdwsMX1_number)
theorem gwsMX11_row_2 : GoodIn wsMX11_row (wsV RX11 116 RX1 yX1_sign wsMX1_sign) := goodIn_sub (fun _ h => List.mem_cons_of_mem _ (List.mem_append_left _ (List.mem_append_right _ h))) (gdV (by decide +kernel) gdwsMX1_sign)
theorem gwsMX11_row_3 : GoodIn wsMX11_row (wsV RX11 112 RX1 yX1_rightSide wsMX1_rightSide) := goodIn_sub (fun _ h => List.mem_cons_of_mem _ (List.mem_append_right _ h)) (gdV (by decide +kernel) gdwsMX1_rightSide)
theorem gdwsMX11_row : wsMX11_row.all goodWord = true := gdC rfl (gdA (gdA (gdA (gdA (gdA (gdA (by decide +kernel : ([.classLink RX11 93 "java/lang/IndexOutOfBoundsException", .initialized "java/lang/IndexOutOfBoundsException", .fieldLink RX11 23 "OptimaWorks" "model" "LOptimaWorks$Model;", .fieldLink RX11 106 "OptimaWorks$Model" "rows" "I", .fieldLink RX11 109 "OptimaWorks$Model" "ways" "[I", .fieldLink RX11 84 "OptimaWorks$Model" "variables" "I"] : List Cond).all goodWord = true) gdwsX10) gdwsX110) (gdF _)) (gdV (by decide +kernel) gdwsMX1_number)) (gdV (by decide +kernel) gdwsMX1_sign)) (gdV (by decide +kernel) gdwsMX1_rightSide))
theorem hm_m_X11_row_0 : (.classLink RX11 93 "java/lang/IndexOutOfBoundsException" : Cond) ∈ wsMX11_row := by decide +kernel
theorem hm_m_X11_row_1 : (.initialized "java/lang/IndexOutOfBoundsException" : Cond) ∈ wsMX11_row := by decide +kernel
theorem hm_m_X11_row_2 : (.fieldLink RX11 23 "OptimaWorks" "model" "LOptimaWorks$Model;" : Cond) ∈ wsMX11_row := by decide +kernel
theorem hm_m_X11_row_3 : (.fieldLink RX11 109 "OptimaWorks$Model" "ways" "[I" : Cond) ∈ wsMX11_row := by decide +kernel
set_option maxHeartbeats 4000000 in
set_option maxRecDepth 100000 in
/-- a row -/
theorem m_X11_row (l : Launch) (hst : l.stackTraces = false) (dC : Nat → ClassId) (dI : Nat → Nat → Nat) (hX : Nat → Nat) (aX : Nat → Nat) (kX : Nat → ClassId) (hT : Nat → Nat) (hM : Nat → Nat) (fX_ready : Nat → Int32) (fX_sheet : Nat → Int32) (dX_sheet : Nat) (nX_sheet : Nat) (iX_sheetLength : Int32) (xX_reader : Value) (xX_solver : Value) (xX_prover : Value) (xX_values : Value) (xX_clauses : Value) (xX_nets : Value) (aM : Nat → Nat) (kM : Nat → ClassId) (iM_stands : Int32) (iM_variables : Int32) (iM_rows : Int32) (iM_goals : Int32) (iM_differents : Int32) (iM_cases : Int32) (fM_from : Nat → Int32) (fM_to : Nat → Int32) (fM_whole : Nat → Int32) (fM_ways : Nat → Int32) (iM_plainRows : Int32) (fM_plainRow : Nat → Int32) (fM_kept : Nat → Int32) (fM_goalOver : Nat → Int32) (fM_goalUnder : Nat → Int32) (fM_goalMax : Nat → Int32) (fM_different : Nat → Int32) (p1 : Int32) (p2 : Int32) (p3 : Int32) (b_fX_sheet : ∀ q : Nat, (-128) ≤ (fX_sheet q).toInt ∧ (fX_sheet q).toInt ≤ 127) (b_nX_sheet : 64 ≤ nX_sheet ∧ nX_sheet ≤ 60000) (b_iX_sheetLength : 0 ≤ iX_sheetLength.toInt ∧ iX_sheetLength.toInt ≤ 30000) (b_shl : iX_sheetLength.toInt ≤ ((nX_sheet : Nat) : Int)) (b_iM_stands : 0 ≤ iM_stands.toInt ∧ iM_stands.toInt ≤ 1) (b_iM_variables : 0 ≤ iM_variables.toInt ∧ iM_variables.toInt ≤ 8) (b_iM_rows : 0 ≤ iM_rows.toInt ∧ iM_rows.toInt ≤ 12) (b_iM_goals : 0 ≤ iM_goals.toInt ∧ iM_goals.toInt ≤ 3) (b_iM_differents : 0 ≤ iM_differents.toInt ∧ iM_differents.toInt ≤ 8) (b_iM_cases : 0 ≤ iM_cases.toInt ∧ iM_cases.toInt ≤ 200000) (b_fM_ways : ∀ q : Nat, 0 ≤ (fM_ways q).toInt ∧ (fM_ways q).toInt ≤ 3) (b_iM_plainRows : 0 ≤ iM_plainRows.toInt ∧ iM_plainRows.toInt ≤ 12) (b_fM_plainRow : ∀ q : Nat, 0 ≤ (fM_plainRow q).toInt ∧ (fM_plainRow q).toInt ≤ 11) (b_pr : iM_plainRows.toInt ≤ iM_rows.toInt) (sz : Nat) : vx_Met l yX11_row wsMX11_row ({ frames := 6, cells := 1, slots := 6, locals := 81 }) (va_Pc [.ref (hX 0), .int p1, .int p2, .int p3] (fun U => U.heap.size = sz ∧ va_P (dC, dI) vwCl (WX hX aX kX hT hM fX_ready fX_sheet dX_sheet nX_sheet iX_sheetLength xX_reader xX_solver xX_prover xX_values xX_clauses xX_nets ++ (WM hM aM kM iM_stands iM_variables iM_rows iM_goals iM_differents iM_cases fM_from fM_to fM_whole fM_ways iM_plainRows fM_plainRow fM_kept fM_goalOver fM_goalUnder fM_goalMax fM_different)) U.heap ∧ va_K (dC, dI) vwCl (tX kX ++ (tM kM)) U ∧ va_D (fun _ => True) (WX hX aX kX hT hM fX_ready fX_sheet dX_sheet nX_sheet iX_sheetLength xX_reader xX_solver xX_prover xX_values xX_clauses xX_nets ++ (WM hM aM kM iM_stands iM_variables iM_rows iM_goals iM_differents iM_cases fM_from fM_to fM_whole fM_ways iM_plainRows fM_plainRow fM_kept fM_goalOver fM_goalUnder fM_goalMax fM_different)) ∧ CE (va_A (WX hX aX kX hT hM fX_ready fX_sheet dX_sheet nX_sheet iX_sheetLength xX_reader xX_solver xX_prover xX_values xX_clauses xX_nets ++ (WM hM aM kM iM_stands iM_variables iM_rows iM_goals iM_differents iM_cases fM_from fM_to fM_whole fM_ways iM_plainRows fM_plainRow fM_kept fM_goalOver fM_goalUnder fM_goalMax fM_different)) sz) U U.heap)) (va_Qi (fun (r : Int32) (u : Unit) => True) (fun (u : Unit) t => va_P (dC, dI) vwCl (WX hX aX kX hT hM fX_ready fX_sheet dX_sheet nX_sheet iX_sheetLength xX_reader xX_solver xX_prover xX_values xX_clauses xX_nets ++ (WM hM aM kM iM_stands iM_variables iM_rows iM_goals iM_differents iM_cases fM_from fM_to fM_whole fM_ways iM_plainRows fM_plainRow fM_kept fM_goalOver fM_goalUnder fM_goalMax fM_different)) t.heap ∧ va_D (va_A (WX hX aX kX hT hM fX_ready fX_sheet dX_sheet nX_sheet iX_sheetLength xX_reader xX_solver xX_prover xX_values xX_clauses xX_nets ++ (WM hM aM kM iM_stands iM_variables iM_rows iM_goals iM_differents iM_cases fM_from fM_to fM_whole fM_ways iM_plainRows fM_plainRow fM_kept fM_goalOver fM_goalUnder fM_goalMax fM_different)) sz) (WX hX aX kX hT hM fX_ready fX_sheet dX_sheet nX_sheet iX_sheetLength xX_reader xX_solver xX_prover xX_values xX_clauses xX_nets ++ (WM hM aM kM iM_stands iM_variables iM_rows iM_goals iM_differents iM_cases fM_from fM_to fM_whole fM_ways iM_plainRows fM_plainRow fM_kept fM_goalOver fM_goalUnder fM_goalMax fM_different)) ∧ t.heap.size = sz) (va_A (WX hX aX kX hT hM fX_ready fX_sheet dX_sheet nX_sheet iX_sheetLength xX_reader xX_solver xX_prover xX_values xX_clauses xX_nets ++ (WM hM aM kM iM_stands iM_variables iM_rows iM_goals iM_differents iM_cases fM_from fM_to fM_whole fM_ways iM_plainRows fM_plainRow fM_kept fM_goalOver fM_goalUnder fM_goalMax fM_different)) sz)) (vx_X (fun (u : Unit) => True) (fun E (u : Unit) t => (E = "java/lang/IndexOutOfBoundsException") ∧ va_P (dC, dI) vwCl (WX hX aX kX hT hM fX_ready fX_sheet dX_sheet nX_sheet iX_sheetLength xX_reader xX_solver xX_prover xX_values xX_clauses xX_nets ++ (WM hM aM kM iM_stands iM_variables iM_rows iM_goals iM_differents iM_cases fM_from fM_to fM_whole fM_ways iM_plainRows fM_plainRow fM_kept fM_goalOver fM_goalUnder fM_goalMax fM_different)) t.heap ∧ va_D (va_A (WX hX aX kX hT hM fX_ready fX_sheet dX_sheet nX_sheet iX_sheetLength xX_reader xX_solver xX_prover xX_values xX_clauses xX_nets ++ (WM hM aM kM iM_stands iM_variables iM_rows iM_goals iM_differents iM_cases fM_from fM_to fM_whole fM_ways iM_plainRows fM_plainRow fM_kept fM_goalOver fM_goalUnder fM_goalMax fM_different)) sz) (WX hX aX kX hT hM fX_ready fX_sheet dX_sheet nX_sheet iX_sheetLength xX_reader xX_solver xX_prover xX_values xX_clauses xX_nets ++ (WM hM aM kM iM_stands iM_variables iM_rows iM_goals iM_differents iM_cases fM_from fM_to fM_whole fM_ways iM_plainRows fM_plainRow fM_kept fM_goalOver fM_goalUnder fM_goalMax fM_different))) (va_A (WX hX aX kX hT hM fX_ready fX_sheet dX_sheet nX_sheet iX_sheetLength xX_reader xX_solver xX_prover xX_values xX_clauses xX_nets ++ (WM hM aM kM iM_stands iM_variables iM_rows iM_goals iM_differents iM_cases fM_from fM_to fM_whole fM_ways iM_plainRows fM_plainRow fM_kept fM_goalOver fM_goalUnder fM_goalMax fM_different)) sz)) 1 6 (va_A (WX hX aX kX hT hM fX_ready fX_sheet dX_sheet nX_sheet iX_sheetLength xX_reader xX_solver xX_prover xX_values xX_clauses xX_nets ++ (WM hM aM kM iM_stands iM_variables iM_rows iM_goals iM_differents iM_cases fM_from fM_to fM_whole fM_ways iM_plainRows fM_plainRow fM_kept fM_goalOver fM_goalUnder fM_goalMax fM_different)) sz) := by
  refine vx_ofW (cc := cX11_row) (maxL := 4) (ret := (some .int)) (by decide) rfl ?_
  intro p e s m args below meth c s₁ B hml htab hv
  obtain ⟨rfl, hsz, hP, hK, hD0, hE⟩ := hv
  have hx := B.exec
  have hb := B.bytes
  have hr := B.returns
  have hts := atoms_spec (ws := wsMX11_row) B.pre
  have hown : s.vm.findClass RX11 = some m.cls := findClass_of_methodNamed B.named
  have hlocks := B.notSynchronized
  subst hsz
  have hD := hD0.self (sz := s.heap.size)
  generalize hAe : va_A (WX hX aX kX hT hM fX_ready fX_sheet dX_sheet nX_sheet iX_sheetLength xX_reader xX_solver xX_prover xX_values xX_clauses xX_nets ++ (WM hM aM kM iM_stands iM_variables iM_rows iM_goals iM_differents iM_cases fM_from fM_to fM_whole fM_ways iM_plainRows fM_plainRow fM_kept fM_goalOver fM_goalUnder fM_goalMax fM_different)) s.heap.size = A at hD hE ⊢
  have hA : ∀ q : Nat, s.heap.size ≤ q → A q := fun q h => by rw [← hAe]; exact Or.inr h
  have hS : va_S A s.heap s.heap [] := va_S.rf
  have hl := lv_entry ([.ref (hX 0), .int p1, .int p2, .int p3]) (n := 4) (Nat.le_of_ble_eq_true rfl)
  rw [lg_entry_eq]
  generalize (lg_sl ([.ref (hX 0), .int p1, .int p2, .int p3]) ++ List.replicate (4 - (lg_sl ([.ref (hX 0), .int p1, .int p2, .int p3])).length) Slot.unset).toArray = ls at hl ⊢
  have hl : lv_has ls 4 [(0, .ref (hX 0)), (1, .int p1), (2, .int p2), (3, .int p3)] := hl
  refine lv_iload_n hx hb dX11_row_0 rfl (lv_at hl 1 rfl) ?_
  refine lv_if_lt (tgt := 15) hx hb dX11_row_1 (by decide) (fun c_1 => ?_) (fun c_1 => ?_)
  · have t_1 : p1.toInt < 0 := toI_lt c_1 rfl (by decide : (0 : Int32).toInt = 0)
    exact vx_throw0 (own := RX11) (cls := "java/lang/IndexOutOfBoundsException") (names := ["java/lang/RuntimeException", "java/lang/Exception"]) (ik := 93) (ic := 95) (A := A) hx hb hst hown (by decide +kernel) (by decide +kernel) (hts _ hm_m_X11_row_0) (hts _ hm_m_X11_row_1) (vx_hat (B := ngX11_95) (fun w h => hts w (List.mem_cons_of_mem _ (List.mem_append_left _ (List.mem_append_left _ (List.mem_append_left _ (List.mem_append_right _ h)))))) (fun _ h => h) (fun w h => va_Nw.use (ngX11_95_ot w h) (hE.2.2.1.2.2.2.1 w h))) (by decide +kernel) hE.2.1.1 hE.2.1.2 hS (by rw [hml]; exact hl.1) dX11_row_15 dX11_row_18 dX11_row_19 dX11_row_22 (fun x hx9 => (htab x hx9).elim) (by decide +kernel) (Nat.le_of_ble_eq_true rfl) (by decide +kernel) (by decide +kernel) hlocks (fun t hvm hz hk => ⟨(), trivial, ⟨rfl, hP.kept (fun k q h => hk q.1 ((hP k q h).lt)), hD⟩, ⟨Nat.le_trans hS.1 hz, fun q h1 h2 => (hk q (Nat.lt_of_lt_of_le h1 hS.1)).trans (hS.2.1 q h1 h2)⟩⟩) hS.2.2 (by decide +kernel) (by decide +kernel)
  · have t_1 : ¬ p1.toInt < 0 := toI_nlt c_1 rfl (by decide : (0 : Int32).toInt = 0)
    refine lv_iload_n hx hb dX11_row_4 rfl (lv_at hl 1 rfl) ?_
    refine lv_aload_n hx hb dX11_row_5 rfl (lv_at hl 0 rfl) ?_
    refine va_get (D := (dC, dI)) (ci := 11) (v := .ref (hM 0)) (C := RX11) (T := TX11) (N := 11) hx hb hts iwsMX11_row_in11 hown hK hP 0 rfl rfl 2 (by decide) (hts _ hm_m_X11_row_2) (fun _ h9 => h9) rfl dX11_row_6 ?_
    refine va_get (D := (dC, dI)) (ci := 1) (v := .int iM_rows) (C := RX1) (T := TX1) (N := 17) hx hb hts iwsMX11_row_in1 hown hK hP 3 rfl rfl 2 (by decide) (hts (.fieldLink RX11 106 "OptimaWorks$Model" "rows" "I") (by decide +kernel)) (fun _ h9 => h9) rfl dX11_row_9 ?_
    refine lv_icmp_lt (tgt := 23) hx hb dX11_row_12 (by decide) (fun c_12 => ?_) (fun c_12 => ?_)
    · have t_12 : p1.toInt < iM_rows.toInt := toI_lt c_12 rfl rfl
      refine lv_iload_n hx hb dX11_row_23 rfl (lv_at hl 3 rfl) ?_
      refine lv_bipush (v := (-3)) hx hb dX11_row_24 (by decide) ?_
      refine lv_icmp_ne (tgt := 39) hx hb dX11_row_26 (by decide) (fun c_26 => ?_) (fun c_26 => ?_)
      · have t_26 : p3.toInt ≠ (-3) := toI_ne c_26 rfl (by decide : ((-3) : Int32).toInt = (-3))
        refine lv_iload_n hx hb dX11_row_39 rfl (lv_at hl 2 rfl) ?_
        refine lv_if_lt (tgt := 73) hx hb dX11_row_40 (by decide) (fun c_40 => ?_) (fun c_40 => ?_)
        · have t_40 : p2.toInt < 0 := toI_lt c_40 rfl (by decide : (0 : Int32).toInt = 0)
          exact vx_throw0 (own := RX11) (cls := "java/lang/IndexOutOfBoundsException") (names := ["java/lang/RuntimeException", "java/lang/Exception"]) (ik := 93) (ic := 95) (A := A) hx hb hst hown (by decide +kernel) (by decide +kernel) (hts _ hm_m_X11_row_0) (hts _ hm_m_X11_row_1) (vx_hat (B := ngX11_95) (fun w h => hts w (List.mem_cons_of_mem _ (List.mem_append_left _ (List.mem_append_left _ (List.mem_append_left _ (List.mem_append_right _ h)))))) (fun _ h => h) (fun w h => va_Nw.use (ngX11_95_ot w h) (hE.2.2.1.2.2.2.1 w h))) (by decide +kernel) hE.2.1.1 hE.2.1.2 hS (by rw [hml]; exact hl.1) dX11_row_73 dX11_row_76 dX11_row_77 dX11_row_80 (fun x hx9 => (htab x hx9).elim) (by decide +kernel) (Nat.le_of_ble_eq_true rfl) (by decide +kernel) (by decide +kernel) hlocks (fun t hvm hz hk => ⟨(), trivial, ⟨rfl, hP.kept (fun k q h => hk q.1 ((hP k q h).lt)), hD⟩, ⟨Nat.le_trans hS.1 hz, fun q h1 h2 => (hk q (Nat.lt_of_lt_of_le h1 hS.1)).trans (hS.2.1 q h1 h2)⟩⟩) hS.2.2 (by decide +kernel) (by decide +kernel)
        · have t_40 : ¬ p2.toInt < 0 := toI_nlt c_40 rfl (by decide : (0 : Int32).toInt = 0)
          refine lv_iload_n hx hb dX11_row_43 rfl (lv_at hl 2 rfl) ?_
          refine lv_aload_n hx hb dX11_row_44 rfl (lv_at hl 0 rfl) ?_
          refine va_get (D := (dC, dI)) (ci := 11) (v := .ref (hM 0)) (C := RX11) (T := TX11) (N := 11) hx hb hts iwsMX11_row_in11 hown hK hP 0 rfl rfl 2 (by decide) (hts _ hm_m_X11_row_2) (fun _ h9 => h9) rfl dX11_row_45 ?_
          refine va_get (D := (dC, dI)) (ci := 1) (v := .ref (aM 3)) (C := RX1) (T := TX1) (N := 17) hx hb hts iwsMX11_row_in1 hown hK hP 3 rfl rfl 9 (by decide) (hts _ hm_m_X11_row_3) (fun _ h9 => h9) rfl dX11_row_48 ?_
          refine lv_iload_n hx hb dX11_row_51 rfl (lv_at hl 1 rfl) ?_
          refine va_iald (cA := kM 3) (n := 12) (f := fM_ways) hx hb hK hP 7 5 rfl rfl (vp_in_iff.mpr ⟨(by omega), (by omega)⟩) dX11_row_52 ?_
          refine lv_topi (fun v1 hv1 => ?_)
          have b_v1 : 0 ≤ v1.toInt ∧ v1.toInt ≤ 3 := by rw [hv1]; exact b_fM_ways _
          clear hv1
          refine lv_icmp_ge (tgt := 73) hx hb dX11_row_53 (by decide) (fun c_53 => ?_) (fun c_53 => ?_)
          · have t_53 : p2.toInt ≥ v1.toInt := toI_ge c_53 rfl rfl
            exact vx_throw0 (own := RX11) (cls := "java/lang/IndexOutOfBoundsException") (names := ["java/lang/RuntimeException", "java/lang/Exception"]) (ik := 93) (ic := 95) (A := A) hx hb hst hown (by decide +kernel) (by decide +kernel) (hts _ hm_m_X11_row_0) (hts _ hm_m_X11_row_1) (vx_hat (B := ngX11_95) (fun w h => hts w (List.mem_cons_of_mem _ (List.mem_append_left _ (List.mem_append_left _ (List.mem_append_left _ (List.mem_append_right _ h)))))) (fun _ h => h) (fun w h => va_Nw.use (ngX11_95_ot w h) (hE.2.2.1.2.2.2.1 w h))) (by decide +kernel) hE.2.1.1 hE.2.1.2 hS (by rw [hml]; exact hl.1) dX11_row_73 dX11_row_76 dX11_row_77 dX11_row_80 (fun x hx9 => (htab x hx9).elim) (by decide +kernel) (Nat.le_of_ble_eq_true rfl) (by decide +kernel) (by decide +kernel) hlocks (fun t hvm hz hk => ⟨(), trivial, ⟨rfl, hP.kept (fun k q h => hk q.1 ((hP k q h).lt)), hD⟩, ⟨Nat.le_trans hS.1 hz, fun q h1 h2 => (hk q (Nat.lt_of_lt_of_le h1 hS.1)).trans (hS.2.1 q h1 h2)⟩⟩) hS.2.2 (by decide +kernel) (by decide +kernel)
          · have t_53 : ¬ p2.toInt ≥ v1.toInt := toI_nge c_53 rfl rfl
            refine lv_iload_n hx hb dX11_row_56 rfl (lv_at hl 3 rfl) ?_
            refine lv_bipush (v := (-2)) hx hb dX11_row_57 (by decide) ?_
            refine lv_icmp_lt (tgt := 73) hx hb dX11_row_59 (by decide) (fun c_59 => ?_) (fun c_59 => ?_)
            · have t_59 : p3.toInt < (-2) := toI_lt c_59 rfl (by decide : ((-2) : Int32).toInt = (-2))
              exact vx_throw0 (own := RX11) (cls := "java/lang/IndexOutOfBoundsException") (names := ["java/lang/RuntimeException", "java/lang/Exception"]) (ik := 93) (ic := 95) (A := A) hx hb hst hown (by decide +kernel) (by decide +kernel) (hts _ hm_m_X11_row_0) (hts _ hm_m_X11_row_1) (vx_hat (B := ngX11_95) (fun w h => hts w (List.mem_cons_of_mem _ (List.mem_append_left _ (List.mem_append_left _ (List.mem_append_left _ (List.mem_append_right _ h)))))) (fun _ h => h) (fun w h => va_Nw.use (ngX11_95_ot w h) (hE.2.2.1.2.2.2.1 w h))) (by decide +kernel) hE.2.1.1 hE.2.1.2 hS (by rw [hml]; exact hl.1) dX11_row_73 dX11_row_76 dX11_row_77 dX11_row_80 (fun x hx9 => (htab x hx9).elim) (by decide +kernel) (Nat.le_of_ble_eq_true rfl) (by decide +kernel) (by decide +kernel) hlocks (fun t hvm hz hk => ⟨(), trivial, ⟨rfl, hP.kept (fun k q h => hk q.1 ((hP k q h).lt)), hD⟩, ⟨Nat.le_trans hS.1 hz, fun q h1 h2 => (hk q (Nat.lt_of_lt_of_le h1 hS.1)).trans (hS.2.1 q h1 h2)⟩⟩) hS.2.2 (by decide +kernel) (by decide +kernel)
            · have t_59 : ¬ p3.toInt < (-2) := toI_nlt c_59 rfl (by decide : ((-2) : Int32).toInt = (-2))
              refine lv_iload_n hx hb dX11_row_62 rfl (lv_at hl 3 rfl) ?_
              refine lv_aload_n hx hb dX11_row_63 rfl (lv_at hl 0 rfl) ?_
              refine va_get (D := (dC, dI)) (ci := 11) (v := .ref (hM 0)) (C := RX11) (T := TX11) (N := 11) hx hb hts iwsMX11_row_in11 hown hK hP 0 rfl rfl 2 (by decide) (hts _ hm_m_X11_row_2) (fun _ h9 => h9) rfl dX11_row_64 ?_
              refine va_get (D := (dC, dI)) (ci := 1) (v := .int iM_variables) (C := RX1) (T := TX1) (N := 17) hx hb hts iwsMX11_row_in1 hown hK hP 3 rfl rfl 1 (by decide) (hts (.fieldLink RX11 84 "OptimaWorks$Model" "variables" "I") (by decide +kernel)) (fun _ h9 => h9) rfl dX11_row_67 ?_
              refine lv_icmp_lt (tgt := 81) hx hb dX11_row_70 (by decide) (fun c_70 => ?_) (fun c_70 => ?_)
              · have t_70 : p3.toInt < iM_variables.toInt := toI_lt c_70 rfl rfl
                refine lv_iload_n hx hb dX11_row_81 rfl (lv_at hl 3 rfl) ?_
                refine lv_iconst (v := (-1)) hx hb dX11_row_82 (by decide) ?_
                refine lv_icmp_ne (tgt := 96) hx hb dX11_row_83 (by decide) (fun c_83 => ?_) (fun c_83 => ?_)
                · have t_83 : p3.toInt ≠ (-1) := toI_ne c_83 rfl (by decide : ((-1) : Int32).toInt = (-1))
                  refine lv_iload_n hx hb dX11_row_96 rfl (lv_at hl 3 rfl) ?_
                  refine lv_bipush (v := (-2)) hx hb dX11_row_97 (by decide) ?_
                  refine W.cut (pc := 124) (fun H locs ls stk => ∃ (k0_j2 : Int32),  stk = [.int k0_j2] ∧ va_P (dC, dI) vwCl (WX hX aX kX hT hM fX_ready fX_sheet dX_sheet nX_sheet iX_sheetLength xX_reader xX_solver xX_prover xX_values xX_clauses xX_nets ++ (WM hM aM kM iM_stands iM_variables iM_rows iM_goals iM_differents iM_cases fM_from fM_to fM_whole fM_ways iM_plainRows fM_plainRow fM_kept fM_goalOver fM_goalUnder fM_goalMax fM_different)) H ∧ va_D A (WX hX aX kX hT hM fX_ready fX_sheet dX_sheet nX_sheet iX_sheetLength xX_reader xX_solver xX_prover xX_values xX_clauses xX_nets ++ (WM hM aM kM iM_stands iM_variables iM_rows iM_goals iM_differents iM_cases fM_from fM_to fM_whole fM_ways iM_plainRows fM_plainRow fM_kept fM_goalOver fM_goalUnder fM_goalMax fM_different)) ∧ va_S A s.heap H locs ∧ lv_has ls 4 [(0, .ref (hX 0)), (1, .int p1), (2, .int p2), (3, .int p3)]) (fun join2 => ?_) ?_
                  · refine lv_icmp_ne (tgt := 114) hx hb dX11_row_99 (by decide) (fun c_99 => ?_) (fun c_99 => ?_)
                    · have t_99 : p3.toInt ≠ (-2) := toI_ne c_99 rfl (by decide : ((-2) : Int32).toInt = (-2))
                      refine lv_aload_n hx hb dX11_row_114 rfl (lv_at hl 0 rfl) ?_
                      refine va_get (D := (dC, dI)) (ci := 11) (v := .ref (hM 0)) (C := RX11) (T := TX11) (N := 11) hx hb hts iwsMX11_row_in11 hown hK hP 0 rfl rfl 2 (by decide) (hts _ hm_m_X11_row_2) (fun _ h9 => h9) rfl dX11_row_115 ?_
                      refine lv_iload_n hx hb dX11_row_118 rfl (lv_at hl 1 rfl) ?_
                      refine lv_iload_n hx hb dX11_row_119 rfl (lv_at hl 2 rfl) ?_
                      refine lv_iload_n hx hb dX11_row_120 rfl (lv_at hl 3 rfl) ?_
                      have p9 := cj_2_1 (WX hX aX kX hT hM fX_ready fX_sheet dX_sheet nX_sheet iX_sheetLength xX_reader xX_solver xX_prover xX_values xX_clauses xX_nets) (WM hM aM kM iM_stands iM_variables iM_rows iM_goals iM_differents iM_cases fM_from fM_to fM_whole fM_ways iM_plainRows fM_plainRow fM_kept fM_goalOver fM_goalUnder fM_goalMax fM_different)
                      have hPc := hP.mem (fun q h => p9.mem_iff.mpr (List.mem_append_left _ h))
                      have hDc := (hD.perm p9).left
                      have hKc : va_K (dC, dI) vwCl (tM kM) _ := hK.sub [2, 3, 4, 5, 6, 7, 8, 9, 10, 11] rfl
                      have hFc := freeG p9 hD hS hA
                      refine va_calli (va_runV (As := [.int p1, .int p2, .int p3]) (rest := []) ⟨hx, hb, hml, hown, hts⟩ (m_X1_number l dC dI hM aM kM iM_stands iM_variables iM_rows iM_goals iM_differents iM_cases fM_from fM_to fM_whole fM_ways iM_plainRows fM_plainRow fM_kept fM_goalOver fM_goalUnder fM_goalMax fM_different p1 p2 p3 (b_iM_stands) (b_iM_variables) (b_iM_rows) (b_iM_goals) (b_iM_differents) (b_iM_cases) b_fM_ways (b_iM_plainRows) b_fM_plainRow (by first | with_reducible assumption | omega | assumption) (by first | exact b_p1 | with_reducible assumption | exact ⟨by omega, by omega⟩ | assumption) (by first | exact b_p2 | with_reducible assumption | exact ⟨by omega, by omega⟩ | assumption) (by first | exact b_p3 | with_reducible assumption | exact ⟨by omega, by omega⟩ | assumption) s.heap.size) (cwV 3 hts gwsMX11_row_1 rfl rfl rfl hd_yX1_number_RX1 (by decide +kernel)) (fz_pre (va_recv hK hP (ci := 1) (q0 := 3) rfl rfl) hPc hKc hDc) rfl rfl hl.1 rfl (lv_room (Nat.le_of_ble_eq_true rfl)) dX11_row_121 (by decide +kernel)) hS (fun q _ h => hFc q h) hFc (fun r4 u t9_ H locs ht hvm hw9 hB9 hz1 hk1 hS => ?_)
                      clear hw9
                      have p8 := p9
                      obtain ⟨hP, hD⟩ := frameG p9 p8 hP hD hk1 hFc (fz_P ht hB9.1) hB9.2
                      have hl : lv_has _ _ ([(0, .ref (hX 0)), (1, .int p1), (2, .int p2), (3, .int p3)]) := lv_sub hl [0, 1, 2, 3] rfl
                      exact join2 _ _ _ _ ⟨r4, rfl, hP, hD, hS, hl⟩
                    · have t_99 : p3.toInt = (-2) := toI_nne c_99 rfl (by decide : ((-2) : Int32).toInt = (-2))
                      refine lv_aload_n hx hb dX11_row_102 rfl (lv_at hl 0 rfl) ?_
                      refine va_get (D := (dC, dI)) (ci := 11) (v := .ref (hM 0)) (C := RX11) (T := TX11) (N := 11) hx hb hts iwsMX11_row_in11 hown hK hP 0 rfl rfl 2 (by decide) (hts _ hm_m_X11_row_2) (fun _ h9 => h9) rfl dX11_row_103 ?_
                      refine lv_iload_n hx hb dX11_row_106 rfl (lv_at hl 1 rfl) ?_
                      refine lv_iload_n hx hb dX11_row_107 rfl (lv_at hl 2 rfl) ?_
                      have p9 := cj_2_1 (WX hX aX kX hT hM fX_ready fX_sheet dX_sheet nX_sheet iX_sheetLength xX_reader xX_solver xX_prover xX_values xX_clauses xX_nets) (WM hM aM kM iM_stands iM_variables iM_rows iM_goals iM_differents iM_cases fM_from fM_to fM_whole fM_ways iM_plainRows fM_plainRow fM_kept fM_goalOver fM_goalUnder fM_goalMax fM_different)
                      have hPc := hP.mem (fun q h => p9.mem_iff.mpr (List.mem_append_left _ h))
                      have hDc := (hD.perm p9).left
                      have hKc : va_K (dC, dI) vwCl (tM kM) _ := hK.sub [2, 3, 4, 5, 6, 7, 8, 9, 10, 11] rfl
                      have hFc := freeG p9 hD hS hA
                      refine va_calli (va_runV (As := [.int p1, .int p2]) (rest := []) ⟨hx, hb, hml, hown, hts⟩ (m_X1_sign l dC dI hM aM kM iM_stands iM_variables iM_rows iM_goals iM_differents iM_cases fM_from fM_to fM_whole fM_ways iM_plainRows fM_plainRow fM_kept fM_goalOver fM_goalUnder fM_goalMax fM_different p1 p2 (b_iM_stands) (b_iM_variables) (b_iM_rows) (b_iM_goals) (b_iM_differents) (b_iM_cases) b_fM_ways (b_iM_plainRows) b_fM_plainRow (by first | with_reducible assumption | omega | assumption) (by first | exact b_p1 | with_reducible assumption | exact ⟨by omega, by omega⟩ | assumption) (by first | exact b_p2 | with_reducible assumption | exact ⟨by omega, by omega⟩ | assumption) s.heap.size) (cwV 2 hts gwsMX11_row_2 rfl rfl rfl hd_yX1_sign_RX1 (by decide +kernel)) (fz_pre (va_recv hK hP (ci := 1) (q0 := 3) rfl rfl) hPc hKc hDc) rfl rfl hl.1 rfl (lv_room (Nat.le_of_ble_eq_true rfl)) dX11_row_108 (by decide +kernel)) hS (fun q _ h => hFc q h) hFc (fun r5 u t9_ H locs ht hvm hw9 hB9 hz1 hk1 hS => ?_)
                      clear hw9
                      have p8 := p9
                      obtain ⟨hP, hD⟩ := frameG p9 p8 hP hD hk1 hFc (fz_P ht hB9.1) hB9.2
                      refine lv_goto (tgt := 124) hx hb dX11_row_111 (by decide) ?_
                      have hl : lv_has _ _ ([(0, .ref (hX 0)), (1, .int p1), (2, .int p2), (3, .int p3)]) := lv_sub hl [0, 1, 2, 3] rfl
                      exact join2 _ _ _ _ ⟨r5, rfl, hP, hD, hS, hl⟩
                  · rintro H locs ls stk ⟨k0_j2, rfl, hP, hD, hS, hl⟩
                    refine vx_ret ?_
                    refine W.known (fun hz9 _ => ?_)
                    refine W.widen (k := 1) (n := 6) (by decide +kernel) (by decide +kernel) ?_
                    exact W.iret (v := k0_j2) hx hb hr (fun t9_ ht hW => ⟨⟨k0_j2, (), rfl, trivial, by rw [ht]; exact hP, hD, by rw [ht]; first | done | exact Nat.le_antisymm hz9 hS.1⟩, hS.F ht⟩) hS.2.2 dX11_row_124
                · have t_83 : p3.toInt = (-1) := toI_nne c_83 rfl (by decide : ((-1) : Int32).toInt = (-1))
                  refine lv_aload_n hx hb dX11_row_86 rfl (lv_at hl 0 rfl) ?_
                  refine va_get (D := (dC, dI)) (ci := 11) (v := .ref (hM 0)) (C := RX11) (T := TX11) (N := 11) hx hb hts iwsMX11_row_in11 hown hK hP 0 rfl rfl 2 (by decide) (hts _ hm_m_X11_row_2) (fun _ h9 => h9) rfl dX11_row_87 ?_
                  refine lv_iload_n hx hb dX11_row_90 rfl (lv_at hl 1 rfl) ?_
                  refine lv_iload_n hx hb dX11_row_91 rfl (lv_at hl 2 rfl) ?_
                  have p9 := cj_2_1 (WX hX aX kX hT hM fX_ready fX_sheet dX_sheet nX_sheet iX_sheetLength xX_reader xX_solver xX_prover xX_values xX_clauses xX_nets) (WM hM aM kM iM_stands iM_variables iM_rows iM_goals iM_differents iM_cases fM_from fM_to fM_whole fM_ways iM_plainRows fM_plainRow fM_kept fM_goalOver fM_goalUnder fM_goalMax fM_different)
                  have hPc := hP.mem (fun q h => p9.mem_iff.mpr (List.mem_append_left _ h))
                  have hDc := (hD.perm p9).left
                  have hKc : va_K (dC, dI) vwCl (tM kM) _ := hK.sub [2, 3, 4, 5, 6, 7, 8, 9, 10, 11] rfl
                  have hFc := freeG p9 hD hS hA
                  refine va_calli (va_runV (As := [.int p1, .int p2]) (rest := []) ⟨hx, hb, hml, hown, hts⟩ (m_X1_rightSide l dC dI hM aM kM iM_stands iM_variables iM_rows iM_goals iM_differents iM_cases fM_from fM_to fM_whole fM_ways iM_plainRows fM_plainRow fM_kept fM_goalOver fM_goalUnder fM_goalMax fM_different p1 p2 (b_iM_stands) (b_iM_variables) (b_iM_rows) (b_iM_goals) (b_iM_differents) (b_iM_cases) b_fM_ways (b_iM_plainRows) b_fM_plainRow (by first | with_reducible assumption | omega | assumption) (by first | exact b_p1 | with_reducible assumption | exact ⟨by omega, by omega⟩ | assumption) (by first | exact b_p2 | with_reducible assumption | exact ⟨by omega, by omega⟩ | assumption) s.heap.size) (cwV 2 hts gwsMX11_row_3 rfl rfl rfl hd_yX1_rightSide_RX1 (by decide +kernel)) (fz_pre (va_recv hK hP (ci := 1) (q0 := 3) rfl rfl) hPc hKc hDc) rfl rfl hl.1 rfl (lv_room (Nat.le_of_ble_eq_true rfl)) dX11_row_92 (by decide +kernel)) hS (fun q _ h => hFc q h) hFc (fun r6 u t9_ H locs ht hvm hw9 hB9 hz1 hk1 hS => ?_)
                  clear hw9
                  have p8 := p9
                  obtain ⟨hP, hD⟩ := frameG p9 p8 hP hD hk1 hFc (fz_P ht hB9.1) hB9.2
                  refine vx_ret ?_
                  refine W.known (fun hz9 _ => ?_)
                  refine W.widen (k := 1) (n := 6) (by decide +kernel) (by decide +kernel) ?_
                  exact W.iret (v := r6) hx hb hr (fun t9_ ht hW => ⟨⟨r6, (), rfl, trivial, by rw [ht]; exact hP, hD, by rw [ht]; first | done | exact Nat.le_antisymm hz9 hS.1⟩, hS.F ht⟩) hS.2.2 dX11_row_95
              · have t_70 : ¬ p3.toInt < iM_variables.toInt := toI_nlt c_70 rfl rfl
                exact vx_throw0 (own := RX11) (cls := "java/lang/IndexOutOfBoundsException") (names := ["java/lang/RuntimeException", "java/lang/Exception"]) (ik := 93) (ic := 95) (A := A) hx hb hst hown (by decide +kernel) (by decide +kernel) (hts _ hm_m_X11_row_0) (hts _ hm_m_X11_row_1) (vx_hat (B := ngX11_95) (fun w h => hts w (List.mem_cons_of_mem _ (List.mem_append_left _ (List.mem_append_left _ (List.mem_append_left _ (List.mem_append_right _ h)))))) (fun _ h => h) (fun w h => va_Nw.use (ngX11_95_ot w h) (hE.2.2.1.2.2.2.1 w h))) (by decide +kernel) hE.2.1.1 hE.2.1.2 hS (by rw [hml]; exact hl.1) dX11_row_73 dX11_row_76 dX11_row_77 dX11_row_80 (fun x hx9 => (htab x hx9).elim) (by decide +kernel) (Nat.le_of_ble_eq_true rfl) (by decide +kernel) (by decide +kernel) hlocks (fun t hvm hz hk => ⟨(), trivial, ⟨rfl, hP.kept (fun k q h => hk q.1 ((hP k q h).lt)), hD⟩, ⟨Nat.le_trans hS.1 hz, fun q h1 h2 => (hk q (Nat.lt_of_lt_of_le h1 hS.1)).trans (hS.2.1 q h1 h2)⟩⟩) hS.2.2 (by decide +kernel) (by decide +kernel)
      · have t_26 : p3.toInt = (-3) := toI_nne c_26 rfl (by decide : ((-3) : Int32).toInt = (-3))
        refine lv_aload_n hx hb dX11_row_29 rfl (lv_at hl 0 rfl) ?_
        refine va_get (D := (dC, dI)) (ci := 11) (v := .ref (hM 0)) (C := RX11) (T := TX11) (N := 11) hx hb hts iwsMX11_row_in11 hown hK hP 0 rfl rfl 2 (by decide) (hts _ hm_m_X11_row_2) (fun _ h9 => h9) rfl dX11_row_30 ?_
        refine va_get (D := (dC, dI)) (ci := 1) (v := .ref (aM 3)) (C := RX1) (T := TX1) (N := 17) hx hb hts iwsMX11_row_in1 hown hK hP 3 rfl rfl 9 (by decide) (hts _ hm_m_X11_row_3) (fun _ h9 => h9) rfl dX11_row_33 ?_
        refine lv_iload_n hx hb dX11_row_36 rfl (lv_at hl 1 rfl) ?_
        refine va_iald (cA := kM 3) (n := 12) (f := fM_ways) hx hb hK hP 7 5 rfl rfl (vp_in_iff.mpr ⟨(by omega), (by omega)⟩) dX11_row_37 ?_
        refine lv_topi (fun v7 hv7 => ?_)
        have b_v7 : 0 ≤ v7.toInt ∧ v7.toInt ≤ 3 := by rw [hv7]; exact b_fM_ways _
        clear hv7
        refine vx_ret ?_
        refine W.known (fun hz9 _ => ?_)
        refine W.widen (k := 1) (n := 6) (by decide +kernel) (by decide +kernel) ?_
        exact W.iret (v := v7) hx hb hr (fun t9_ ht hW => ⟨⟨v7, (), rfl, trivial, by rw [ht]; exact hP, hD, by rw [ht]; first | done | exact Nat.le_antisymm hz9 hS.1⟩, hS.F ht⟩) hS.2.2 dX11_row_38
    · have t_12 : ¬ p1.toInt < iM_rows.toInt := toI_nlt c_12 rfl rfl
      exact vx_throw0 (own := RX11) (cls := "java/lang/IndexOutOfBoundsException") (names := ["java/lang/RuntimeException", "java/lang/Exception"]) (ik := 93) (ic := 95) (A := A) hx hb hst hown (by decide +kernel) (by decide +kernel) (hts _ hm_m_X11_row_0) (hts _ hm_m_X11_row_1) (vx_hat (B := ngX11_95) (fun w h => hts w (List.mem_cons_of_mem _ (List.mem_append_left _ (List.mem_append_left _ (List.mem_append_left _ (List.mem_append_right _ h)))))) (fun _ h => h) (fun w h => va_Nw.use (ngX11_95_ot w h) (hE.2.2.1.2.2.2.1 w h))) (by decide +kernel) hE.2.1.1 hE.2.1.2 hS (by rw [hml]; exact hl.1) dX11_row_15 dX11_row_18 dX11_row_19 dX11_row_22 (fun x hx9 => (htab x hx9).elim) (by decide +kernel) (Nat.le_of_ble_eq_true rfl) (by decide +kernel) (by decide +kernel) hlocks (fun t hvm hz hk => ⟨(), trivial, ⟨rfl, hP.kept (fun k q h => hk q.1 ((hP k q h).lt)), hD⟩, ⟨Nat.le_trans hS.1 hz, fun q h1 h2 => (hk q (Nat.lt_of_lt_of_le h1 hS.1)).trans (hS.2.1 q h1 h2)⟩⟩) hS.2.2 (by decide +kernel) (by decide +kernel)
theorem dX11_goal_0 : decode cX11_goal 0 = .ok (.iload_n 1, 1) := dk_27 (by decide +kernel)
theorem dX11_goal_1 : decode cX11_goal 1 = .ok (.ifCond .lt 31, 3) := dk_155 (by decide +kernel)
theorem dX11_goal_4 : decode cX11_goal 4 = .ok (.iload_n 1, 1) := dk_27 (by decide +kernel)
theorem dX11_goal_5 : decode cX11_goal 5 = .ok (.aload_n 0, 1) := dk_42 (by decide +kernel)
theorem dX11_goal_6 : decode cX11_goal 6 = .ok (.getfield 23, 3) := dk_180 (by decide +kernel)
theorem dX11_goal_9 : decode cX11_goal 9 = .ok (.getfield 123, 3) := dk_180 (by decide +kernel)
theorem dX11_goal_12 : decode cX11_goal 12 = .ok (.if_icmp .ge 20, 3) := dk_162 (by decide +kernel)
theorem dX11_goal_15 : decode cX11_goal 15 = .ok (.iload_n 2, 1) := dk_28 (by decide +kernel)
theorem dX11_goal_16 : decode cX11_goal 16 = .ok (.bipush (-2), 2) := dk_16 (by decide +kernel)
theorem dX11_goal_18 : decode cX11_goal 18 = .ok (.if_icmp .lt 14, 3) := dk_161 (by decide +kernel)
theorem dX11_goal_21 : decode cX11_goal 21 = .ok (.iload_n 2, 1) := dk_28 (by decide +kernel)
theorem dX11_goal_22 : decode cX11_goal 22 = .ok (.aload_n 0, 1) := dk_42 (by decide +kernel)
theorem dX11_goal_23 : decode cX11_goal 23 = .ok (.getfield 23, 3) := dk_180 (by decide +kernel)
theorem dX11_goal_26 : decode cX11_goal 26 = .ok (.getfield 84, 3) := dk_180 (by decide +kernel)
theorem dX11_goal_29 : decode cX11_goal 29 = .ok (.if_icmp .lt 11, 3) := dk_161 (by decide +kernel)
theorem dX11_goal_32 : decode cX11_goal 32 = .ok (.new 93, 3) := dk_187 (by decide +kernel)
theorem dX11_goal_35 : decode cX11_goal 35 = .ok (.dup, 1) := dk_89 (by decide +kernel)
theorem dX11_goal_36 : decode cX11_goal 36 = .ok (.invokespecial 95, 3) := dk_183 (by decide +kernel)
theorem dX11_goal_39 : decode cX11_goal 39 = .ok (.athrow, 1) := dk_191 (by decide +kernel)
theorem dX11_goal_40 : decode cX11_goal 40 = .ok (.iload_n 2, 1) := dk_28 (by decide +kernel)
theorem dX11_goal_41 : decode cX11_goal 41 = .ok (.bipush (-2), 2) := dk_16 (by decide +kernel)
theorem dX11_goal_43 : decode cX11_goal 43 = .ok (.if_icmp .ne 21, 3) := dk_160 (by decide +kernel)
theorem dX11_goal_46 : decode cX11_goal 46 = .ok (.aload_n 0, 1) := dk_42 (by decide +kernel)
theorem dX11_goal_47 : decode cX11_goal 47 = .ok (.getfield 23, 3) := dk_180 (by decide +kernel)
theorem dX11_goal_50 : decode cX11_goal 50 = .ok (.getfield 126, 3) := dk_180 (by decide +kernel)
theorem dX11_goal_53 : decode cX11_goal 53 = .ok (.iload_n 1, 1) := dk_27 (by decide +kernel)
theorem dX11_goal_54 : decode cX11_goal 54 = .ok (.baload, 1) := dk_51 (by decide +kernel)
theorem dX11_goal_55 : decode cX11_goal 55 = .ok (.ifCond .eq 7, 3) := dk_153 (by decide +kernel)
theorem dX11_goal_58 : decode cX11_goal 58 = .ok (.iconst 1, 1) := dk_4 (by decide +kernel)
theorem dX11_goal_59 : decode cX11_goal 59 = .ok (.goto 4, 3) := dk_167 (by decide +kernel)
theorem dX11_goal_62 : decode cX11_goal 62 = .ok (.iconst 0, 1) := dk_3 (by decide +kernel)
theorem dX11_goal_63 : decode cX11_goal 63 = .ok (.ireturn, 1) := dk_172 (by decide +kernel)
theorem dX11_goal_64 : decode cX11_goal 64 = .ok (.iload_n 1, 1) := dk_27 (by decide +kernel)
theorem dX11_goal_65 : decode cX11_goal 65 = .ok (.bipush 9, 2) := dk_16 (by decide +kernel)
theorem dX11_goal_67 : decode cX11_goal 67 = .ok (.imul, 1) := dk_104 (by decide +kernel)
theorem dX11_goal_68 : decode cX11_goal 68 = .ok (.iload_n 2, 1) := dk_28 (by decide +kernel)
theorem dX11_goal_69 : decode cX11_goal 69 = .ok (.iadd, 1) := dk_96 (by decide +kernel)
theorem dX11_goal_70 : decode cX11_goal 70 = .ok (.iconst 1, 1) := dk_4 (by decide +kernel)
theorem dX11_goal_71 : decode cX11_goal 71 = .ok (.iadd, 1) := dk_96 (by decide +kernel)
theorem dX11_goal_72 : decode cX11_goal 72 = .ok (.istore 4, 2) := dk_54 (by decide +kernel)
theorem dX11_goal_74 : decode cX11_goal 74 = .ok (.iload_n 3, 1) := dk_29 (by decide +kernel)
theorem dX11_goal_75 : decode cX11_goal 75 = .ok (.ifCond .eq 16, 3) := dk_153 (by decide +kernel)
theorem dX11_goal_78 : decode cX11_goal 78 = .ok (.aload_n 0, 1) := dk_42 (by decide +kernel)
theorem dX11_goal_79 : decode cX11_goal 79 = .ok (.getfield 23, 3) := dk_180 (by decide +kernel)
theorem dX11_goal_82 : decode cX11_goal 82 = .ok (.getfield 129, 3) := dk_180 (by decide +kernel)
theorem dX11_goal_85 : decode cX11_goal 85 = .ok (.iload 4, 2) := dk_21 (by decide +kernel)
theorem dX11_goal_87 : decode cX11_goal 87 = .ok (.iaload, 1) := dk_46 (by decide +kernel)
theorem dX11_goal_88 : decode cX11_goal 88 = .ok (.goto 13, 3) := dk_167 (by decide +kernel)
theorem dX11_goal_91 : decode cX11_goal 91 = .ok (.aload_n 0, 1) := dk_42 (by decide +kernel)
theorem dX11_goal_92 : decode cX11_goal 92 = .ok (.getfield 23, 3) := dk_180 (by decide +kernel)
theorem dX11_goal_95 : decode cX11_goal 95 = .ok (.getfield 132, 3) := dk_180 (by decide +kernel)
theorem dX11_goal_98 : decode cX11_goal 98 = .ok (.iload 4, 2) := dk_21 (by decide +kernel)
theorem dX11_goal_100 : decode cX11_goal 100 = .ok (.iaload, 1) := dk_46 (by decide +kernel)
theorem dX11_goal_101 : decode cX11_goal 101 = .ok (.ireturn, 1) := dk_172 (by decide +kernel)
def wsMX11_goal : List Cond := .code yX11_goal cX11_goal 5 (some .int) :: ([.classLink RX11 93 "java/lang/IndexOutOfBoundsException", .initialized "java/lang/IndexOutOfBoundsException", .fieldLink RX11 23 "OptimaWorks" "model" "LOptimaWorks$Model;", .fieldLink RX11 123 "OptimaWorks$Model" "goals" "I", .fieldLink RX11 84 "OptimaWorks$Model" "variables" "I", .fieldLink RX11 132 "OptimaWorks$Model" "goalOver" "[I", .fieldLink RX11 129 "OptimaWorks$Model" "goalUnder" "[I", .fieldLink RX11 126 "OptimaWorks$Model" "goalMax" "[Z"] ++ wsX10 ++ wsX110 ++ ((vx_at0 RX11 95 "java/lang/IndexOutOfBoundsException" ["java/lang/RuntimeException", "java/lang/Exception"]).filter goodWord))
theorem iwsMX11_goal_in1 : ∀ w ∈ wsX10, w ∈ wsMX11_goal := fun _ h => List.mem_cons_of_mem _ (List.mem_append_left _ (List.mem_append_left _ (List.mem_append_right _ h)))
theorem iwsMX11_goal_in11 : ∀ w ∈ wsX110, w ∈ wsMX11_goal := fun _ h => List.mem_cons_of_mem _ (List.mem_append_left _ (List.mem_append_right _ h))
theorem gdwsMX11_goal : wsMX11_goal.all goodWord = true := gdC rfl (gdA (gdA (gdA (by decide +kernel : ([.classLink RX11 93 "java/lang/IndexOutOfBoundsException", .initialized "java/lang/IndexOutOfBoundsException", .fieldLink RX11 23 "OptimaWorks" "model" "LOptimaWorks$Model;", .fieldLink RX11 123 "OptimaWorks$Model" "goals" "I", .fieldLink RX11 84 "OptimaWorks$Model" "variables" "I", .fieldLink RX11 132 "OptimaWorks$Model" "goalOver" "[I", .fieldLink RX11 129 "OptimaWorks$Model" "goalUnder" "[I", .fieldLink RX11 126 "OptimaWorks$Model" "goalMax" "[Z"] : List Cond).all goodWord = true) gdwsX10) gdwsX110) (gdF _))
theorem hm_m_X11_goal_0 : (.classLink RX11 93 "java/lang/IndexOutOfBoundsException" : Cond) ∈ wsMX11_goal := by decide +kernel
theorem hm_m_X11_goal_1 : (.initialized "java/lang/IndexOutOfBoundsException" : Cond) ∈ wsMX11_goal := by decide +kernel
theorem hm_m_X11_goal_2 : (.fieldLink RX11 23 "OptimaWorks" "model" "LOptimaWorks$Model;" : Cond) ∈ wsMX11_goal := by decide +kernel
set_option maxHeartbeats 4000000 in
set_option maxRecDepth 100000 in
/-- a goal -/
theorem m_X11_goal (l : Launch) (hst : l.stackTraces = false) (dC : Nat → ClassId) (dI : Nat → Nat → Nat) (hX : Nat → Nat) (aX : Nat → Nat) (kX : Nat → ClassId) (hT : Nat → Nat) (hM : Nat → Nat) (fX_ready : Nat → Int32) (fX_sheet : Nat → Int32) (dX_sheet : Nat) (nX_sheet : Nat) (iX_sheetLength : Int32) (xX_reader : Value) (xX_solver : Value) (xX_prover : Value) (xX_values : Value) (xX_clauses : Value) (xX_nets : Value) (aM : Nat → Nat) (kM : Nat → ClassId) (iM_stands : Int32) (iM_variables : Int32) (iM_rows : Int32) (iM_goals : Int32) (iM_differents : Int32) (iM_cases : Int32) (fM_from : Nat → Int32) (fM_to : Nat → Int32) (fM_whole : Nat → Int32) (fM_ways : Nat → Int32) (iM_plainRows : Int32) (fM_plainRow : Nat → Int32) (fM_kept : Nat → Int32) (fM_goalOver : Nat → Int32) (fM_goalUnder : Nat → Int32) (fM_goalMax : Nat → Int32) (fM_different : Nat → Int32) (p1 : Int32) (p2 : Int32) (p3 : Int32) (b_fX_sheet : ∀ q : Nat, (-128) ≤ (fX_sheet q).toInt ∧ (fX_sheet q).toInt ≤ 127) (b_nX_sheet : 64 ≤ nX_sheet ∧ nX_sheet ≤ 60000) (b_iX_sheetLength : 0 ≤ iX_sheetLength.toInt ∧ iX_sheetLength.toInt ≤ 30000) (b_shl : iX_sheetLength.toInt ≤ ((nX_sheet : Nat) : Int)) (b_iM_stands : 0 ≤ iM_stands.toInt ∧ iM_stands.toInt ≤ 1) (b_iM_variables : 0 ≤ iM_variables.toInt ∧ iM_variables.toInt ≤ 8) (b_iM_rows : 0 ≤ iM_rows.toInt ∧ iM_rows.toInt ≤ 12) (b_iM_goals : 0 ≤ iM_goals.toInt ∧ iM_goals.toInt ≤ 3) (b_iM_differents : 0 ≤ iM_differents.toInt ∧ iM_differents.toInt ≤ 8) (b_iM_cases : 0 ≤ iM_cases.toInt ∧ iM_cases.toInt ≤ 200000) (b_fM_ways : ∀ q : Nat, 0 ≤ (fM_ways q).toInt ∧ (fM_ways q).toInt ≤ 3) (b_iM_plainRows : 0 ≤ iM_plainRows.toInt ∧ iM_plainRows.toInt ≤ 12) (b_fM_plainRow : ∀ q : Nat, 0 ≤ (fM_plainRow q).toInt ∧ (fM_plainRow q).toInt ≤ 11) (b_pr : iM_plainRows.toInt ≤ iM_rows.toInt) (sz : Nat) : vx_Met l yX11_goal wsMX11_goal ({ frames := 6, cells := 1, slots := 6, locals := 81 }) (va_Pc [.ref (hX 0), .int p1, .int p2, .int p3] (fun U => U.heap.size = sz ∧ va_P (dC, dI) vwCl (WX hX aX kX hT hM fX_ready fX_sheet dX_sheet nX_sheet iX_sheetLength xX_reader xX_solver xX_prover xX_values xX_clauses xX_nets ++ (WM hM aM kM iM_stands iM_variables iM_rows iM_goals iM_differents iM_cases fM_from fM_to fM_whole fM_ways iM_plainRows fM_plainRow fM_kept fM_goalOver fM_goalUnder fM_goalMax fM_different)) U.heap ∧ va_K (dC, dI) vwCl (tX kX ++ (tM kM)) U ∧ va_D (fun _ => True) (WX hX aX kX hT hM fX_ready fX_sheet dX_sheet nX_sheet iX_sheetLength xX_reader xX_solver xX_prover xX_values xX_clauses xX_nets ++ (WM hM aM kM iM_stands iM_variables iM_rows iM_goals iM_differents iM_cases fM_from fM_to fM_whole fM_ways iM_plainRows fM_plainRow fM_kept fM_goalOver fM_goalUnder fM_goalMax fM_different)) ∧ CE (va_A (WX hX aX kX hT hM fX_ready fX_sheet dX_sheet nX_sheet iX_sheetLength xX_reader xX_solver xX_prover xX_values xX_clauses xX_nets ++ (WM hM aM kM iM_stands iM_variables iM_rows iM_goals iM_differents iM_cases fM_from fM_to fM_whole fM_ways iM_plainRows fM_plainRow fM_kept fM_goalOver fM_goalUnder fM_goalMax fM_different)) sz) U U.heap)) (va_Qi (fun (r : Int32) (u : Unit) => True) (fun (u : Unit) t => va_P (dC, dI) vwCl (WX hX aX kX hT hM fX_ready fX_sheet dX_sheet nX_sheet iX_sheetLength xX_reader xX_solver xX_prover xX_values xX_clauses xX_nets ++ (WM hM aM kM iM_stands iM_variables iM_rows iM_goals iM_differents iM_cases fM_from fM_to fM_whole fM_ways iM_plainRows fM_plainRow fM_kept fM_goalOver fM_goalUnder fM_goalMax fM_different)) t.heap ∧ va_D (va_A (WX hX aX kX hT hM fX_ready fX_sheet dX_sheet nX_sheet iX_sheetLength xX_reader xX_solver xX_prover xX_values xX_clauses xX_nets ++ (WM hM aM kM iM_stands iM_variables iM_rows iM_goals iM_differents iM_cases fM_from fM_to fM_whole fM_ways iM_plainRows fM_plainRow fM_kept fM_goalOver fM_goalUnder fM_goalMax fM_different)) sz) (WX hX aX kX hT hM fX_ready fX_sheet dX_sheet nX_sheet iX_sheetLength xX_reader xX_solver xX_prover xX_values xX_clauses xX_nets ++ (WM hM aM kM iM_stands iM_variables iM_rows iM_goals iM_differents iM_cases fM_from fM_to fM_whole fM_ways iM_plainRows fM_plainRow fM_kept fM_goalOver fM_goalUnder fM_goalMax fM_different)) ∧ t.heap.size = sz) (va_A (WX hX aX kX hT hM fX_ready fX_sheet dX_sheet nX_sheet iX_sheetLength xX_reader xX_solver xX_prover xX_values xX_clauses xX_nets ++ (WM hM aM kM iM_stands iM_variables iM_rows iM_goals iM_differents iM_cases fM_from fM_to fM_whole fM_ways iM_plainRows fM_plainRow fM_kept fM_goalOver fM_goalUnder fM_goalMax fM_different)) sz)) (vx_X (fun (u : Unit) => True) (fun E (u : Unit) t => (E = "java/lang/IndexOutOfBoundsException") ∧ va_P (dC, dI) vwCl (WX hX aX kX hT hM fX_ready fX_sheet dX_sheet nX_sheet iX_sheetLength xX_reader xX_solver xX_prover xX_values xX_clauses xX_nets ++ (WM hM aM kM iM_stands iM_variables iM_rows iM_goals iM_differents iM_cases fM_from fM_to fM_whole fM_ways iM_plainRows fM_plainRow fM_kept fM_goalOver fM_goalUnder fM_goalMax fM_different)) t.heap ∧ va_D (va_A (WX hX aX kX hT hM fX_ready fX_sheet dX_sheet nX_sheet iX_sheetLength xX_reader xX_solver xX_prover xX_values xX_clauses xX_nets ++ (WM hM aM kM iM_stands iM_variables iM_rows iM_goals iM_differents iM_cases fM_from fM_to fM_whole fM_ways iM_plainRows fM_plainRow fM_kept fM_goalOver fM_goalUnder fM_goalMax fM_different)) sz) (WX hX aX kX hT hM fX_ready fX_sheet dX_sheet nX_sheet iX_sheetLength xX_reader xX_solver xX_prover xX_values xX_clauses xX_nets ++ (WM hM aM kM iM_stands iM_variables iM_rows iM_goals iM_differents iM_cases fM_from fM_to fM_whole fM_ways iM_plainRows fM_plainRow fM_kept fM_goalOver fM_goalUnder fM_goalMax fM_different))) (va_A (WX hX aX kX hT hM fX_ready fX_sheet dX_sheet nX_sheet iX_sheetLength xX_reader xX_solver xX_prover xX_values xX_clauses xX_nets ++ (WM hM aM kM iM_stands iM_variables iM_rows iM_goals iM_differents iM_cases fM_from fM_to fM_whole fM_ways iM_plainRows fM_plainRow fM_kept fM_goalOver fM_goalUnder fM_goalMax fM_different)) sz)) 1 6 (va_A (WX hX aX kX hT hM fX_ready fX_sheet dX_sheet nX_sheet iX_sheetLength xX_reader xX_solver xX_prover xX_values xX_clauses xX_nets ++ (WM hM aM kM iM_stands iM_variables iM_rows iM_goals iM_differents iM_cases fM_from fM_to fM_whole fM_ways iM_plainRows fM_plainRow fM_kept fM_goalOver fM_goalUnder fM_goalMax fM_different)) sz) := by
  refine vx_ofW (cc := cX11_goal) (maxL := 5) (ret := (some .int)) (by decide) rfl ?_
  intro p e s m args below meth c s₁ B hml htab hv
  obtain ⟨rfl, hsz, hP, hK, hD0, hE⟩ := hv
  have hx := B.exec
  have hb := B.bytes
  have hr := B.returns
  have hts := atoms_spec (ws := wsMX11_goal) B.pre
  have hown : s.vm.findClass RX11 = some m.cls := findClass_of_methodNamed B.named
  have hlocks := B.notSynchronized
  subst hsz
  have hD := hD0.self (sz := s.heap.size)
  generalize hAe : va_A (WX hX aX kX hT hM fX_ready fX_sheet dX_sheet nX_sheet iX_sheetLength xX_reader xX_solver xX_prover xX_values xX_clauses xX_nets ++ (WM hM aM kM iM_stands iM_variables iM_rows iM_goals iM_differents iM_cases fM_from fM_to fM_whole fM_ways iM_plainRows fM_plainRow fM_kept fM_goalOver fM_goalUnder fM_goalMax fM_different)) s.heap.size = A at hD hE ⊢
  have hA : ∀ q : Nat, s.heap.size ≤ q → A q := fun q h => by rw [← hAe]; exact Or.inr h
  have hS : va_S A s.heap s.heap [] := va_S.rf
  have hl := lv_entry ([.ref (hX 0), .int p1, .int p2, .int p3]) (n := 5) (Nat.le_of_ble_eq_true rfl)
  rw [lg_entry_eq]
  generalize (lg_sl ([.ref (hX 0), .int p1, .int p2, .int p3]) ++ List.replicate (5 - (lg_sl ([.ref (hX 0), .int p1, .int p2, .int p3])).length) Slot.unset).toArray = ls at hl ⊢
  have hl : lv_has ls 5 [(0, .ref (hX 0)), (1, .int p1), (2, .int p2), (3, .int p3)] := hl
  refine lv_iload_n hx hb dX11_goal_0 rfl (lv_at hl 1 rfl) ?_
  refine lv_if_lt (tgt := 32) hx hb dX11_goal_1 (by decide) (fun c_1 => ?_) (fun c_1 => ?_)
  · have t_1 : p1.toInt < 0 := toI_lt c_1 rfl (by decide : (0 : Int32).toInt = 0)
    exact vx_throw0 (own := RX11) (cls := "java/lang/IndexOutOfBoundsException") (names := ["java/lang/RuntimeException", "java/lang/Exception"]) (ik := 93) (ic := 95) (A := A) hx hb hst hown (by decide +kernel) (by decide +kernel) (hts _ hm_m_X11_goal_0) (hts _ hm_m_X11_goal_1) (vx_hat (B := ngX11_95) (fun w h => hts w (List.mem_cons_of_mem _ (List.mem_append_right _ h))) (fun _ h => h) (fun w h => va_Nw.use (ngX11_95_ot w h) (hE.2.2.1.2.2.2.1 w h))) (by decide +kernel) hE.2.1.1 hE.2.1.2 hS (by rw [hml]; exact hl.1) dX11_goal_32 dX11_goal_35 dX11_goal_36 dX11_goal_39 (fun x hx9 => (htab x hx9).elim) (by decide +kernel) (Nat.le_of_ble_eq_true rfl) (by decide +kernel) (by decide +kernel) hlocks (fun t hvm hz hk => ⟨(), trivial, ⟨rfl, hP.kept (fun k q h => hk q.1 ((hP k q h).lt)), hD⟩, ⟨Nat.le_trans hS.1 hz, fun q h1 h2 => (hk q (Nat.lt_of_lt_of_le h1 hS.1)).trans (hS.2.1 q h1 h2)⟩⟩) hS.2.2 (by decide +kernel) (by decide +kernel)
  · have t_1 : ¬ p1.toInt < 0 := toI_nlt c_1 rfl (by decide : (0 : Int32).toInt = 0)
    refine lv_iload_n hx hb dX11_goal_4 rfl (lv_at hl 1 rfl) ?_
    refine lv_aload_n hx hb dX11_goal_5 rfl (lv_at hl 0 rfl) ?_
    refine va_get (D := (dC, dI)) (ci := 11) (v := .ref (hM 0)) (C := RX11) (T := TX11) (N := 11) hx hb hts iwsMX11_goal_in11 hown hK hP 0 rfl rfl 2 (by decide) (hts _ hm_m_X11_goal_2) (fun _ h9 => h9) rfl dX11_goal_6 ?_
    refine va_get (D := (dC, dI)) (ci := 1) (v := .int iM_goals) (C := RX1) (T := TX1) (N := 17) hx hb hts iwsMX11_goal_in1 hown hK hP 3 rfl rfl 3 (by decide) (hts (.fieldLink RX11 123 "OptimaWorks$Model" "goals" "I") (by decide +kernel)) (fun _ h9 => h9) rfl dX11_goal_9 ?_
    refine lv_icmp_ge (tgt := 32) hx hb dX11_goal_12 (by decide) (fun c_12 => ?_) (fun c_12 => ?_)
    · have t_12 : p1.toInt ≥ iM_goals.toInt := toI_ge c_12 rfl rfl
      exact vx_throw0 (own := RX11) (cls := "java/lang/IndexOutOfBoundsException") (names := ["java/lang/RuntimeException", "java/lang/Exception"]) (ik := 93) (ic := 95) (A := A) hx hb hst hown (by decide +kernel) (by decide +kernel) (hts _ hm_m_X11_goal_0) (hts _ hm_m_X11_goal_1) (vx_hat (B := ngX11_95) (fun w h => hts w (List.mem_cons_of_mem _ (List.mem_append_right _ h))) (fun _ h => h) (fun w h => va_Nw.use (ngX11_95_ot w h) (hE.2.2.1.2.2.2.1 w h))) (by decide +kernel) hE.2.1.1 hE.2.1.2 hS (by rw [hml]; exact hl.1) dX11_goal_32 dX11_goal_35 dX11_goal_36 dX11_goal_39 (fun x hx9 => (htab x hx9).elim) (by decide +kernel) (Nat.le_of_ble_eq_true rfl) (by decide +kernel) (by decide +kernel) hlocks (fun t hvm hz hk => ⟨(), trivial, ⟨rfl, hP.kept (fun k q h => hk q.1 ((hP k q h).lt)), hD⟩, ⟨Nat.le_trans hS.1 hz, fun q h1 h2 => (hk q (Nat.lt_of_lt_of_le h1 hS.1)).trans (hS.2.1 q h1 h2)⟩⟩) hS.2.2 (by decide +kernel) (by decide +kernel)
    · have t_12 : ¬ p1.toInt ≥ iM_goals.toInt := toI_nge c_12 rfl rfl
      refine lv_iload_n hx hb dX11_goal_15 rfl (lv_at hl 2 rfl) ?_
      refine lv_bipush (v := (-2)) hx hb dX11_goal_16 (by decide) ?_
      refine lv_icmp_lt (tgt := 32) hx hb dX11_goal_18 (by decide) (fun c_18 => ?_) (fun c_18 => ?_)
      · have t_18 : p2.toInt < (-2) := toI_lt c_18 rfl (by decide : ((-2) : Int32).toInt = (-2))
        exact vx_throw0 (own := RX11) (cls := "java/lang/IndexOutOfBoundsException") (names := ["java/lang/RuntimeException", "java/lang/Exception"]) (ik := 93) (ic := 95) (A := A) hx hb hst hown (by decide +kernel) (by decide +kernel) (hts _ hm_m_X11_goal_0) (hts _ hm_m_X11_goal_1) (vx_hat (B := ngX11_95) (fun w h => hts w (List.mem_cons_of_mem _ (List.mem_append_right _ h))) (fun _ h => h) (fun w h => va_Nw.use (ngX11_95_ot w h) (hE.2.2.1.2.2.2.1 w h))) (by decide +kernel) hE.2.1.1 hE.2.1.2 hS (by rw [hml]; exact hl.1) dX11_goal_32 dX11_goal_35 dX11_goal_36 dX11_goal_39 (fun x hx9 => (htab x hx9).elim) (by decide +kernel) (Nat.le_of_ble_eq_true rfl) (by decide +kernel) (by decide +kernel) hlocks (fun t hvm hz hk => ⟨(), trivial, ⟨rfl, hP.kept (fun k q h => hk q.1 ((hP k q h).lt)), hD⟩, ⟨Nat.le_trans hS.1 hz, fun q h1 h2 => (hk q (Nat.lt_of_lt_of_le h1 hS.1)).trans (hS.2.1 q h1 h2)⟩⟩) hS.2.2 (by decide +kernel) (by decide +kernel)
      · have t_18 : ¬ p2.toInt < (-2) := toI_nlt c_18 rfl (by decide : ((-2) : Int32).toInt = (-2))
        refine lv_iload_n hx hb dX11_goal_21 rfl (lv_at hl 2 rfl) ?_
        refine lv_aload_n hx hb dX11_goal_22 rfl (lv_at hl 0 rfl) ?_
        refine va_get (D := (dC, dI)) (ci := 11) (v := .ref (hM 0)) (C := RX11) (T := TX11) (N := 11) hx hb hts iwsMX11_goal_in11 hown hK hP 0 rfl rfl 2 (by decide) (hts _ hm_m_X11_goal_2) (fun _ h9 => h9) rfl dX11_goal_23 ?_
        refine va_get (D := (dC, dI)) (ci := 1) (v := .int iM_variables) (C := RX1) (T := TX1) (N := 17) hx hb hts iwsMX11_goal_in1 hown hK hP 3 rfl rfl 1 (by decide) (hts (.fieldLink RX11 84 "OptimaWorks$Model" "variables" "I") (by decide +kernel)) (fun _ h9 => h9) rfl dX11_goal_26 ?_
        refine lv_icmp_lt (tgt := 40) hx hb dX11_goal_29 (by decide) (fun c_29 => ?_) (fun c_29 => ?_)
        · have t_29 : p2.toInt < iM_variables.toInt := toI_lt c_29 rfl rfl
          refine lv_iload_n hx hb dX11_goal_40 rfl (lv_at hl 2 rfl) ?_
          refine lv_bipush (v := (-2)) hx hb dX11_goal_41 (by decide) ?_
          refine lv_icmp_ne (tgt := 64) hx hb dX11_goal_43 (by decide) (fun c_43 => ?_) (fun c_43 => ?_)
          · have t_43 : p2.toInt ≠ (-2) := toI_ne c_43 rfl (by decide : ((-2) : Int32).toInt = (-2))
            refine lv_iload_n hx hb dX11_goal_64 rfl (lv_at hl 1 rfl) ?_
            refine lv_bipush (v := 9) hx hb dX11_goal_65 (by decide) ?_
            refine lv_imul hx hb dX11_goal_67 ?_
            refine lv_topi (fun y1 hy1 => ?_)
            obtain rfl : (iI (p1.toInt * 9)) = y1 := (hy1.trans (iI_mul2 (iI_of _) (by decide : (9 : Int32) = iI 9))).symm
            refine lv_iload_n hx hb dX11_goal_68 rfl (lv_at hl 2 rfl) ?_
            refine lv_iadd hx hb dX11_goal_69 ?_
            refine lv_topi (fun y2 hy2 => ?_)
            obtain rfl : (iI ((p1.toInt * 9) + p2.toInt)) = y2 := (hy2.trans (iI_add2 rfl (iI_of _))).symm
            refine lv_iconst (v := 1) hx hb dX11_goal_70 (by decide) ?_
            refine lv_iadd hx hb dX11_goal_71 ?_
            refine lv_topi (fun y3 hy3 => ?_)
            obtain rfl : (iI (((p1.toInt * 9) + p2.toInt) + 1)) = y3 := (hy3.trans (iI_add2 rfl (by decide : (1 : Int32) = iI 1))).symm
            refine lv_istore hx hb dX11_goal_72 hl (by decide) rfl (fun ls (hl : lv_has ls _ ([(4, .int (iI (((p1.toInt * 9) + p2.toInt) + 1))), (0, .ref (hX 0)), (1, .int p1), (2, .int p2), (3, .int p3)])) => ?_)
            refine lv_iload_n hx hb dX11_goal_74 rfl (lv_at hl 4 rfl) ?_
            refine W.cut (pc := 101) (fun H locs ls stk => ∃ (k0_j2 : Int32),  stk = [.int k0_j2] ∧ va_P (dC, dI) vwCl (WX hX aX kX hT hM fX_ready fX_sheet dX_sheet nX_sheet iX_sheetLength xX_reader xX_solver xX_prover xX_values xX_clauses xX_nets ++ (WM hM aM kM iM_stands iM_variables iM_rows iM_goals iM_differents iM_cases fM_from fM_to fM_whole fM_ways iM_plainRows fM_plainRow fM_kept fM_goalOver fM_goalUnder fM_goalMax fM_different)) H ∧ va_D A (WX hX aX kX hT hM fX_ready fX_sheet dX_sheet nX_sheet iX_sheetLength xX_reader xX_solver xX_prover xX_values xX_clauses xX_nets ++ (WM hM aM kM iM_stands iM_variables iM_rows iM_goals iM_differents iM_cases fM_from fM_to fM_whole fM_ways iM_plainRows fM_plainRow fM_kept fM_goalOver fM_goalUnder fM_goalMax fM_different)) ∧ va_S A s.heap H locs ∧ lv_has ls 5 [(4, .int (iI (((p1.toInt * 9) + p2.toInt) + 1))), (0, .ref (hX 0)), (1, .int p1), (2, .int p2), (3, .int p3)]) (fun join2 => ?_) ?_
            · refine lv_if_eq (tgt := 91) hx hb dX11_goal_75 (by decide) (fun c_75 => ?_) (fun c_75 => ?_)
              · have t_75 : p3.toInt = 0 := toI_eq c_75 rfl (by decide : (0 : Int32).toInt = 0)
                refine lv_aload_n hx hb dX11_goal_91 rfl (lv_at hl 1 rfl) ?_
                refine va_get (D := (dC, dI)) (ci := 11) (v := .ref (hM 0)) (C := RX11) (T := TX11) (N := 11) hx hb hts iwsMX11_goal_in11 hown hK hP 0 rfl rfl 2 (by decide) (hts _ hm_m_X11_goal_2) (fun _ h9 => h9) rfl dX11_goal_92 ?_
                refine va_get (D := (dC, dI)) (ci := 1) (v := .ref (aM 6)) (C := RX1) (T := TX1) (N := 17) hx hb hts iwsMX11_goal_in1 hown hK hP 3 rfl rfl 13 (by decide) (hts (.fieldLink RX11 132 "OptimaWorks$Model" "goalOver" "[I") (by decide +kernel)) (fun _ h9 => h9) rfl dX11_goal_95 ?_
                refine lv_iload hx hb dX11_goal_98 (lv_at hl 0 rfl) ?_
                refine va_iald (cA := kM 6) (n := 27) (f := fM_goalOver) hx hb hK hP 10 8 rfl rfl (vp_iI (by omega) (by omega) (by decide)) dX11_goal_100 ?_
                refine lv_topi (fun v6 hv6 => ?_)
                clear hv6
                have hl : lv_has _ _ ([(4, .int (iI (((p1.toInt * 9) + p2.toInt) + 1))), (0, .ref (hX 0)), (1, .int p1), (2, .int p2), (3, .int p3)]) := lv_sub hl [0, 1, 2, 3, 4] rfl
                exact join2 _ _ _ _ ⟨v6, rfl, hP, hD, hS, hl⟩
              · have t_75 : ¬ p3.toInt = 0 := toI_neq c_75 rfl (by decide : (0 : Int32).toInt = 0)
                refine lv_aload_n hx hb dX11_goal_78 rfl (lv_at hl 1 rfl) ?_
                refine va_get (D := (dC, dI)) (ci := 11) (v := .ref (hM 0)) (C := RX11) (T := TX11) (N := 11) hx hb hts iwsMX11_goal_in11 hown hK hP 0 rfl rfl 2 (by decide) (hts _ hm_m_X11_goal_2) (fun _ h9 => h9) rfl dX11_goal_79 ?_
                refine va_get (D := (dC, dI)) (ci := 1) (v := .ref (aM 7)) (C := RX1) (T := TX1) (N := 17) hx hb hts iwsMX11_goal_in1 hown hK hP 3 rfl rfl 14 (by decide) (hts (.fieldLink RX11 129 "OptimaWorks$Model" "goalUnder" "[I") (by decide +kernel)) (fun _ h9 => h9) rfl dX11_goal_82 ?_
                refine lv_iload hx hb dX11_goal_85 (lv_at hl 0 rfl) ?_
                refine va_iald (cA := kM 7) (n := 27) (f := fM_goalUnder) hx hb hK hP 11 9 rfl rfl (vp_iI (by omega) (by omega) (by decide)) dX11_goal_87 ?_
                refine lv_topi (fun v7 hv7 => ?_)
                clear hv7
                refine lv_goto (tgt := 101) hx hb dX11_goal_88 (by decide) ?_
                have hl : lv_has _ _ ([(4, .int (iI (((p1.toInt * 9) + p2.toInt) + 1))), (0, .ref (hX 0)), (1, .int p1), (2, .int p2), (3, .int p3)]) := lv_sub hl [0, 1, 2, 3, 4] rfl
                exact join2 _ _ _ _ ⟨v7, rfl, hP, hD, hS, hl⟩
            · rintro H locs ls stk ⟨k0_j2, rfl, hP, hD, hS, hl⟩
              refine vx_ret ?_
              refine W.known (fun hz9 _ => ?_)
              refine W.widen (k := 1) (n := 6) (by decide +kernel) (by decide +kernel) ?_
              exact W.iret (v := k0_j2) hx hb hr (fun t9_ ht hW => ⟨⟨k0_j2, (), rfl, trivial, by rw [ht]; exact hP, hD, by rw [ht]; first | done | exact Nat.le_antisymm hz9 hS.1⟩, hS.F ht⟩) hS.2.2 dX11_goal_101
          · have t_43 : p2.toInt = (-2) := toI_nne c_43 rfl (by decide : ((-2) : Int32).toInt = (-2))
            refine lv_aload_n hx hb dX11_goal_46 rfl (lv_at hl 0 rfl) ?_
            refine va_get (D := (dC, dI)) (ci := 11) (v := .ref (hM 0)) (C := RX11) (T := TX11) (N := 11) hx hb hts iwsMX11_goal_in11 hown hK hP 0 rfl rfl 2 (by decide) (hts _ hm_m_X11_goal_2) (fun _ h9 => h9) rfl dX11_goal_47 ?_
            refine va_get (D := (dC, dI)) (ci := 1) (v := .ref (aM 8)) (C := RX1) (T := TX1) (N := 17) hx hb hts iwsMX11_goal_in1 hown hK hP 3 rfl rfl 15 (by decide) (hts (.fieldLink RX11 126 "OptimaWorks$Model" "goalMax" "[Z") (by decide +kernel)) (fun _ h9 => h9) rfl dX11_goal_50 ?_
            refine lv_iload_n hx hb dX11_goal_53 rfl (lv_at hl 1 rfl) ?_
            refine va_zald (cA := kM 8) (n := 3) (f := fM_goalMax) hx hb hK hP 12 10 rfl rfl (vp_in_iff.mpr ⟨(by omega), (by omega)⟩) dX11_goal_54 ?_
            refine lv_topi (fun v8 hv8 => ?_)
            clear hv8
            refine lv_if_eq (tgt := 62) hx hb dX11_goal_55 (by decide) (fun c_55 => ?_) (fun c_55 => ?_)
            · have t_55 : v8.toInt = 0 := toI_eq c_55 rfl (by decide : (0 : Int32).toInt = 0)
              refine lv_iconst (v := 0) hx hb dX11_goal_62 (by decide) ?_
              refine vx_ret ?_
              refine W.known (fun hz9 _ => ?_)
              refine W.widen (k := 1) (n := 6) (by decide +kernel) (by decide +kernel) ?_
              exact W.iret (v := 0) hx hb hr (fun t9_ ht hW => ⟨⟨(0 : Int32), (), rfl, trivial, by rw [ht]; exact hP, hD, by rw [ht]; first | done | exact Nat.le_antisymm hz9 hS.1⟩, hS.F ht⟩) hS.2.2 dX11_goal_63
            · have t_55 : ¬ v8.toInt = 0 := toI_neq c_55 rfl (by decide : (0 : Int32).toInt = 0)
              refine lv_iconst (v := 1) hx hb dX11_goal_58 (by decide) ?_
              refine lv_goto (tgt := 63) hx hb dX11_goal_59 (by decide) ?_
              refine vx_ret ?_
              refine W.known (fun hz9 _ => ?_)
              refine W.widen (k := 1) (n := 6) (by decide +kernel) (by decide +kernel) ?_
              exact W.iret (v := 1) hx hb hr (fun t9_ ht hW => ⟨⟨(1 : Int32), (), rfl, trivial, by rw [ht]; exact hP, hD, by rw [ht]; first | done | exact Nat.le_antisymm hz9 hS.1⟩, hS.F ht⟩) hS.2.2 dX11_goal_63
        · have t_29 : ¬ p2.toInt < iM_variables.toInt := toI_nlt c_29 rfl rfl
          exact vx_throw0 (own := RX11) (cls := "java/lang/IndexOutOfBoundsException") (names := ["java/lang/RuntimeException", "java/lang/Exception"]) (ik := 93) (ic := 95) (A := A) hx hb hst hown (by decide +kernel) (by decide +kernel) (hts _ hm_m_X11_goal_0) (hts _ hm_m_X11_goal_1) (vx_hat (B := ngX11_95) (fun w h => hts w (List.mem_cons_of_mem _ (List.mem_append_right _ h))) (fun _ h => h) (fun w h => va_Nw.use (ngX11_95_ot w h) (hE.2.2.1.2.2.2.1 w h))) (by decide +kernel) hE.2.1.1 hE.2.1.2 hS (by rw [hml]; exact hl.1) dX11_goal_32 dX11_goal_35 dX11_goal_36 dX11_goal_39 (fun x hx9 => (htab x hx9).elim) (by decide +kernel) (Nat.le_of_ble_eq_true rfl) (by decide +kernel) (by decide +kernel) hlocks (fun t hvm hz hk => ⟨(), trivial, ⟨rfl, hP.kept (fun k q h => hk q.1 ((hP k q h).lt)), hD⟩, ⟨Nat.le_trans hS.1 hz, fun q h1 h2 => (hk q (Nat.lt_of_lt_of_le h1 hS.1)).trans (hS.2.1 q h1 h2)⟩⟩) hS.2.2 (by decide +kernel) (by decide +kernel)
theorem dX11_needModel_0 : decode cX11_needModel 0 = .ok (.aload_n 0, 1) := dk_42 (by decide +kernel)
theorem dX11_needModel_1 : decode cX11_needModel 1 = .ok (.getfield 23, 3) := dk_180 (by decide +kernel)
theorem dX11_needModel_4 : decode cX11_needModel 4 = .ok (.getfield 80, 3) := dk_180 (by decide +kernel)
theorem dX11_needModel_7 : decode cX11_needModel 7 = .ok (.ifCond .ne 11, 3) := dk_154 (by decide +kernel)
theorem dX11_needModel_10 : decode cX11_needModel 10 = .ok (.new 159, 3) := dk_187 (by decide +kernel)
theorem dX11_needModel_13 : decode cX11_needModel 13 = .ok (.dup, 1) := dk_89 (by decide +kernel)
theorem dX11_needModel_14 : decode cX11_needModel 14 = .ok (.invokespecial 161, 3) := dk_183 (by decide +kernel)
theorem dX11_needModel_17 : decode cX11_needModel 17 = .ok (.athrow, 1) := dk_191 (by decide +kernel)
theorem dX11_needModel_18 : decode cX11_needModel 18 = .ok (.return_, 1) := dk_177 (by decide +kernel)
def wsMX11_needModel : List Cond := .code yX11_needModel cX11_needModel 1 none :: ([.fieldLink RX11 23 "OptimaWorks" "model" "LOptimaWorks$Model;", .fieldLink RX11 80 "OptimaWorks$Model" "stands" "Z", .classLink RX11 159 "java/lang/IllegalStateException", .initialized "java/lang/IllegalStateException"] ++ wsX10 ++ wsX110 ++ ((vx_at0 RX11 161 "java/lang/IllegalStateException" ["java/lang/RuntimeException", "java/lang/Exception"]).filter goodWord))
theorem iwsMX11_needModel_in1 : ∀ w ∈ wsX10, w ∈ wsMX11_needModel := fun _ h => List.mem_cons_of_mem _ (List.mem_append_left _ (List.mem_append_left _ (List.mem_append_right _ h)))
theorem iwsMX11_needModel_in11 : ∀ w ∈ wsX110, w ∈ wsMX11_needModel := fun _ h => List.mem_cons_of_mem _ (List.mem_append_left _ (List.mem_append_right _ h))
theorem gdwsMX11_needModel : wsMX11_needModel.all goodWord = true := gdC rfl (gdA (gdA (gdA (by decide +kernel : ([.fieldLink RX11 23 "OptimaWorks" "model" "LOptimaWorks$Model;", .fieldLink RX11 80 "OptimaWorks$Model" "stands" "Z", .classLink RX11 159 "java/lang/IllegalStateException", .initialized "java/lang/IllegalStateException"] : List Cond).all goodWord = true) gdwsX10) gdwsX110) (gdF _))
set_option maxHeartbeats 4000000 in
set_option maxRecDepth 100000 in
/-- a model must stand -/
theorem m_X11_needModel (l : Launch) (hst : l.stackTraces = false) (dC : Nat → ClassId) (dI : Nat → Nat → Nat) (hX : Nat → Nat) (aX : Nat → Nat) (kX : Nat → ClassId) (hT : Nat → Nat) (hM : Nat → Nat) (fX_ready : Nat → Int32) (fX_sheet : Nat → Int32) (dX_sheet : Nat) (nX_sheet : Nat) (iX_sheetLength : Int32) (xX_reader : Value) (xX_solver : Value) (xX_prover : Value) (xX_values : Value) (xX_clauses : Value) (xX_nets : Value) (aM : Nat → Nat) (kM : Nat → ClassId) (iM_stands : Int32) (iM_variables : Int32) (iM_rows : Int32) (iM_goals : Int32) (iM_differents : Int32) (iM_cases : Int32) (fM_from : Nat → Int32) (fM_to : Nat → Int32) (fM_whole : Nat → Int32) (fM_ways : Nat → Int32) (iM_plainRows : Int32) (fM_plainRow : Nat → Int32) (fM_kept : Nat → Int32) (fM_goalOver : Nat → Int32) (fM_goalUnder : Nat → Int32) (fM_goalMax : Nat → Int32) (fM_different : Nat → Int32) (b_fX_sheet : ∀ q : Nat, (-128) ≤ (fX_sheet q).toInt ∧ (fX_sheet q).toInt ≤ 127) (b_nX_sheet : 64 ≤ nX_sheet ∧ nX_sheet ≤ 60000) (b_iX_sheetLength : 0 ≤ iX_sheetLength.toInt ∧ iX_sheetLength.toInt ≤ 30000) (b_shl : iX_sheetLength.toInt ≤ ((nX_sheet : Nat) : Int)) (b_iM_stands : 0 ≤ iM_stands.toInt ∧ iM_stands.toInt ≤ 1) (b_iM_variables : 0 ≤ iM_variables.toInt ∧ iM_variables.toInt ≤ 8) (b_iM_rows : 0 ≤ iM_rows.toInt ∧ iM_rows.toInt ≤ 12) (b_iM_goals : 0 ≤ iM_goals.toInt ∧ iM_goals.toInt ≤ 3) (b_iM_differents : 0 ≤ iM_differents.toInt ∧ iM_differents.toInt ≤ 8) (b_iM_cases : 0 ≤ iM_cases.toInt ∧ iM_cases.toInt ≤ 200000) (b_fM_ways : ∀ q : Nat, 0 ≤ (fM_ways q).toInt ∧ (fM_ways q).toInt ≤ 3) (b_iM_plainRows : 0 ≤ iM_plainRows.toInt ∧ iM_plainRows.toInt ≤ 12) (b_fM_plainRow : ∀ q : Nat, 0 ≤ (fM_plainRow q).toInt ∧ (fM_plainRow q).toInt ≤ 11) (b_pr : iM_plainRows.toInt ≤ iM_rows.toInt) (sz : Nat) : vx_Met l yX11_needModel wsMX11_needModel ({ frames := 6, cells := 1, slots := 6, locals := 81 }) (va_Pc [.ref (hX 0)] (fun U => U.heap.size = sz ∧ va_P (dC, dI) vwCl (WX hX aX kX hT hM fX_ready fX_sheet dX_sheet nX_sheet iX_sheetLength xX_reader xX_solver xX_prover xX_values xX_clauses xX_nets ++ (WM hM aM kM iM_stands iM_variables iM_rows iM_goals iM_differents iM_cases fM_from fM_to fM_whole fM_ways iM_plainRows fM_plainRow fM_kept fM_goalOver fM_goalUnder fM_goalMax fM_different)) U.heap ∧ va_K (dC, dI) vwCl (tX kX ++ (tM kM)) U ∧ va_D (fun _ => True) (WX hX aX kX hT hM fX_ready fX_sheet dX_sheet nX_sheet iX_sheetLength xX_reader xX_solver xX_prover xX_values xX_clauses xX_nets ++ (WM hM aM kM iM_stands iM_variables iM_rows iM_goals iM_differents iM_cases fM_from fM_to fM_whole fM_ways iM_plainRows fM_plainRow fM_kept fM_goalOver fM_goalUnder fM_goalMax fM_different)) ∧ CE (va_A (WX hX aX kX hT hM fX_ready fX_sheet dX_sheet nX_sheet iX_sheetLength xX_reader xX_solver xX_prover xX_values xX_clauses xX_nets ++ (WM hM aM kM iM_stands iM_variables iM_rows iM_goals iM_differents iM_cases fM_from fM_to fM_whole fM_ways iM_plainRows fM_plainRow fM_kept fM_goalOver fM_goalUnder fM_goalMax fM_different)) sz) U U.heap)) (va_Qv (fun (u : Unit) => (iM_stands.toInt = 1)) (fun (u : Unit) t => va_P (dC, dI) vwCl (WX hX aX kX hT hM fX_ready fX_sheet dX_sheet nX_sheet iX_sheetLength xX_reader xX_solver xX_prover xX_values xX_clauses xX_nets ++ (WM hM aM kM iM_stands iM_variables iM_rows iM_goals iM_differents iM_cases fM_from fM_to fM_whole fM_ways iM_plainRows fM_plainRow fM_kept fM_goalOver fM_goalUnder fM_goalMax fM_different)) t.heap ∧ va_D (va_A (WX hX aX kX hT hM fX_ready fX_sheet dX_sheet nX_sheet iX_sheetLength xX_reader xX_solver xX_prover xX_values xX_clauses xX_nets ++ (WM hM aM kM iM_stands iM_variables iM_rows iM_goals iM_differents iM_cases fM_from fM_to fM_whole fM_ways iM_plainRows fM_plainRow fM_kept fM_goalOver fM_goalUnder fM_goalMax fM_different)) sz) (WX hX aX kX hT hM fX_ready fX_sheet dX_sheet nX_sheet iX_sheetLength xX_reader xX_solver xX_prover xX_values xX_clauses xX_nets ++ (WM hM aM kM iM_stands iM_variables iM_rows iM_goals iM_differents iM_cases fM_from fM_to fM_whole fM_ways iM_plainRows fM_plainRow fM_kept fM_goalOver fM_goalUnder fM_goalMax fM_different)) ∧ t.heap.size = sz) (va_A (WX hX aX kX hT hM fX_ready fX_sheet dX_sheet nX_sheet iX_sheetLength xX_reader xX_solver xX_prover xX_values xX_clauses xX_nets ++ (WM hM aM kM iM_stands iM_variables iM_rows iM_goals iM_differents iM_cases fM_from fM_to fM_whole fM_ways iM_plainRows fM_plainRow fM_kept fM_goalOver fM_goalUnder fM_goalMax fM_different)) sz)) (vx_X (fun (u : Unit) => True) (fun E (u : Unit) t => (E = "java/lang/IllegalStateException") ∧ va_P (dC, dI) vwCl (WX hX aX kX hT hM fX_ready fX_sheet dX_sheet nX_sheet iX_sheetLength xX_reader xX_solver xX_prover xX_values xX_clauses xX_nets ++ (WM hM aM kM iM_stands iM_variables iM_rows iM_goals iM_differents iM_cases fM_from fM_to fM_whole fM_ways iM_plainRows fM_plainRow fM_kept fM_goalOver fM_goalUnder fM_goalMax fM_different)) t.heap ∧ va_D (va_A (WX hX aX kX hT hM fX_ready fX_sheet dX_sheet nX_sheet iX_sheetLength xX_reader xX_solver xX_prover xX_values xX_clauses xX_nets ++ (WM hM aM kM iM_stands iM_variables iM_rows iM_goals iM_differents iM_cases fM_from fM_to fM_whole fM_ways iM_plainRows fM_plainRow fM_kept fM_goalOver fM_goalUnder fM_goalMax fM_different)) sz) (WX hX aX kX hT hM fX_ready fX_sheet dX_sheet nX_sheet iX_sheetLength xX_reader xX_solver xX_prover xX_values xX_clauses xX_nets ++ (WM hM aM kM iM_stands iM_variables iM_rows iM_goals iM_differents iM_cases fM_from fM_to fM_whole fM_ways iM_plainRows fM_plainRow fM_kept fM_goalOver fM_goalUnder fM_goalMax fM_different))) (va_A (WX hX aX kX hT hM fX_ready fX_sheet dX_sheet nX_sheet iX_sheetLength xX_reader xX_solver xX_prover xX_values xX_clauses xX_nets ++ (WM hM aM kM iM_stands iM_variables iM_rows iM_goals iM_differents iM_cases fM_from fM_to fM_whole fM_ways iM_plainRows fM_plainRow fM_kept fM_goalOver fM_goalUnder fM_goalMax fM_different)) sz)) 1 6 (va_A (WX hX aX kX hT hM fX_ready fX_sheet dX_sheet nX_sheet iX_sheetLength xX_reader xX_solver xX_prover xX_values xX_clauses xX_nets ++ (WM hM aM kM iM_stands iM_variables iM_rows iM_goals iM_differents iM_cases fM_from fM_to fM_whole fM_ways iM_plainRows fM_plainRow fM_kept fM_goalOver fM_goalUnder fM_goalMax fM_different)) sz) := by
  refine vx_ofW (cc := cX11_needModel) (maxL := 1) (ret := none) (by decide) rfl ?_
  intro p e s m args below meth c s₁ B hml htab hv
  obtain ⟨rfl, hsz, hP, hK, hD0, hE⟩ := hv
  have hx := B.exec
  have hb := B.bytes
  have hr := B.returns
  have hts := atoms_spec (ws := wsMX11_needModel) B.pre
  have hown : s.vm.findClass RX11 = some m.cls := findClass_of_methodNamed B.named
  have hlocks := B.notSynchronized
  subst hsz
  have hD := hD0.self (sz := s.heap.size)
  generalize hAe : va_A (WX hX aX kX hT hM fX_ready fX_sheet dX_sheet nX_sheet iX_sheetLength xX_reader xX_solver xX_prover xX_values xX_clauses xX_nets ++ (WM hM aM kM iM_stands iM_variables iM_rows iM_goals iM_differents iM_cases fM_from fM_to fM_whole fM_ways iM_plainRows fM_plainRow fM_kept fM_goalOver fM_goalUnder fM_goalMax fM_different)) s.heap.size = A at hD hE ⊢
  have hA : ∀ q : Nat, s.heap.size ≤ q → A q := fun q h => by rw [← hAe]; exact Or.inr h
  have hS : va_S A s.heap s.heap [] := va_S.rf
  have hl := lv_entry ([.ref (hX 0)]) (n := 1) (Nat.le_of_ble_eq_true rfl)
  rw [lg_entry_eq]
  generalize (lg_sl ([.ref (hX 0)]) ++ List.replicate (1 - (lg_sl ([.ref (hX 0)])).length) Slot.unset).toArray = ls at hl ⊢
  have hl : lv_has ls 1 [(0, .ref (hX 0))] := hl
  refine lv_aload_n hx hb dX11_needModel_0 rfl (lv_at hl 0 rfl) ?_
  refine va_get (D := (dC, dI)) (ci := 11) (v := .ref (hM 0)) (C := RX11) (T := TX11) (N := 11) hx hb hts iwsMX11_needModel_in11 hown hK hP 0 rfl rfl 2 (by decide) (hts (.fieldLink RX11 23 "OptimaWorks" "model" "LOptimaWorks$Model;") (by decide +kernel)) (fun _ h9 => h9) rfl dX11_needModel_1 ?_
  refine va_get (D := (dC, dI)) (ci := 1) (v := .int iM_stands) (C := RX1) (T := TX1) (N := 17) hx hb hts iwsMX11_needModel_in1 hown hK hP 3 rfl rfl 0 (by decide) (hts (.fieldLink RX11 80 "OptimaWorks$Model" "stands" "Z") (by decide +kernel)) (fun _ h9 => h9) rfl dX11_needModel_4 ?_
  refine lv_if_ne (tgt := 18) hx hb dX11_needModel_7 (by decide) (fun c_7 => ?_) (fun c_7 => ?_)
  · have t_7 : iM_stands.toInt ≠ 0 := toI_ne c_7 rfl (by decide : (0 : Int32).toInt = 0)
    refine vx_ret ?_
    refine W.known (fun hz9 _ => ?_)
    refine W.widen (k := 1) (n := 6) (by decide +kernel) (by decide +kernel) ?_
    exact W.vret hx hb hr (fun t9_ ht hW => ⟨⟨(), rfl, (by (try dsimp only); omega), by rw [ht]; exact hP, hD, by rw [ht]; first | done | exact Nat.le_antisymm hz9 hS.1⟩, hS.F ht⟩) hS.2.2 dX11_needModel_18
  · have t_7 : iM_stands.toInt = 0 := toI_nne c_7 rfl (by decide : (0 : Int32).toInt = 0)
    exact vx_throw0 (own := RX11) (cls := "java/lang/IllegalStateException") (names := ["java/lang/RuntimeException", "java/lang/Exception"]) (ik := 159) (ic := 161) (A := A) hx hb hst hown (by decide +kernel) (by decide +kernel) (hts (.classLink RX11 159 "java/lang/IllegalStateException") (by decide +kernel)) (hts (.initialized "java/lang/IllegalStateException") (by decide +kernel)) (vx_hat (B := ngX11_161) (fun w h => hts w (List.mem_cons_of_mem _ (List.mem_append_right _ h))) (fun _ h => h) (fun w h => va_Nw.use (ngX11_161_ot w h) (hE.2.2.1.2.1 w h))) (by decide +kernel) hE.2.1.1 hE.2.1.2 hS (by rw [hml]; exact hl.1) dX11_needModel_10 dX11_needModel_13 dX11_needModel_14 dX11_needModel_17 (fun x hx9 => (htab x hx9).elim) (by decide +kernel) (Nat.le_of_ble_eq_true rfl) (by decide +kernel) (by decide +kernel) hlocks (fun t hvm hz hk => ⟨(), trivial, ⟨rfl, hP.kept (fun k q h => hk q.1 ((hP k q h).lt)), hD⟩, ⟨Nat.le_trans hS.1 hz, fun q h1 h2 => (hk q (Nat.lt_of_lt_of_le h1 hS.1)).trans (hS.2.1 q h1 h2)⟩⟩) hS.2.2 (by decide +kernel) (by decide +kernel)
theorem dX11_letter_0 : decode cX11_letter 0 = .ok (.iload_n 1, 1) := dk_27 (by decide +kernel)
theorem dX11_letter_1 : decode cX11_letter 1 = .ok (.ifCond .lt 11, 3) := dk_155 (by decide +kernel)
theorem dX11_letter_4 : decode cX11_letter 4 = .ok (.iload_n 1, 1) := dk_27 (by decide +kernel)
theorem dX11_letter_5 : decode cX11_letter 5 = .ok (.aload_n 0, 1) := dk_42 (by decide +kernel)
theorem dX11_letter_6 : decode cX11_letter 6 = .ok (.getfield 138, 3) := dk_180 (by decide +kernel)
theorem dX11_letter_9 : decode cX11_letter 9 = .ok (.if_icmp .lt 7, 3) := dk_161 (by decide +kernel)
theorem dX11_letter_12 : decode cX11_letter 12 = .ok (.iconst (-1), 1) := dk_2 (by decide +kernel)
theorem dX11_letter_13 : decode cX11_letter 13 = .ok (.goto 9, 3) := dk_167 (by decide +kernel)
theorem dX11_letter_16 : decode cX11_letter 16 = .ok (.aload_n 0, 1) := dk_42 (by decide +kernel)
theorem dX11_letter_17 : decode cX11_letter 17 = .ok (.getfield 27, 3) := dk_180 (by decide +kernel)
theorem dX11_letter_20 : decode cX11_letter 20 = .ok (.iload_n 1, 1) := dk_27 (by decide +kernel)
theorem dX11_letter_21 : decode cX11_letter 21 = .ok (.baload, 1) := dk_51 (by decide +kernel)
theorem dX11_letter_22 : decode cX11_letter 22 = .ok (.ireturn, 1) := dk_172 (by decide +kernel)
def wsMX11_letter : List Cond := .code yX11_letter cX11_letter 2 (some .int) :: ([.fieldLink RX11 138 "OptimaWorks" "sheetLength" "I", .fieldLink RX11 27 "OptimaWorks" "sheet" "[B"] ++ wsX110)
theorem iwsMX11_letter_in11 : ∀ w ∈ wsX110, w ∈ wsMX11_letter := fun _ h => List.mem_cons_of_mem _ (List.mem_append_right _ h)
theorem gdwsMX11_letter : wsMX11_letter.all goodWord = true := gdC rfl (gdA (by decide +kernel : ([.fieldLink RX11 138 "OptimaWorks" "sheetLength" "I", .fieldLink RX11 27 "OptimaWorks" "sheet" "[B"] : List Cond).all goodWord = true) gdwsX110)
set_option maxHeartbeats 4000000 in
set_option maxRecDepth 100000 in
/-- a letter -/
theorem m_X11_letter (l : Launch) (dC : Nat → ClassId) (dI : Nat → Nat → Nat) (hX : Nat → Nat) (aX : Nat → Nat) (kX : Nat → ClassId) (hT : Nat → Nat) (hM : Nat → Nat) (fX_ready : Nat → Int32) (fX_sheet : Nat → Int32) (dX_sheet : Nat) (nX_sheet : Nat) (iX_sheetLength : Int32) (xX_reader : Value) (xX_solver : Value) (xX_prover : Value) (xX_values : Value) (xX_clauses : Value) (xX_nets : Value) (p1 : Int32) (b_fX_sheet : ∀ q : Nat, (-128) ≤ (fX_sheet q).toInt ∧ (fX_sheet q).toInt ≤ 127) (b_nX_sheet : 64 ≤ nX_sheet ∧ nX_sheet ≤ 60000) (b_iX_sheetLength : 0 ≤ iX_sheetLength.toInt ∧ iX_sheetLength.toInt ≤ 30000) (b_shl : iX_sheetLength.toInt ≤ ((nX_sheet : Nat) : Int)) (sz : Nat) : Met l yX11_letter wsMX11_letter ({ frames := 0, cells := 0, slots := 0, locals := 0 }) (va_Pc [.ref (hX 0), .int p1] (fun U => U.heap.size = sz ∧ va_P (dC, dI) vwCl (WX hX aX kX hT hM fX_ready fX_sheet dX_sheet nX_sheet iX_sheetLength xX_reader xX_solver xX_prover xX_values xX_clauses xX_nets) U.heap ∧ va_K (dC, dI) vwCl (tX kX) U ∧ va_D (fun _ => True) (WX hX aX kX hT hM fX_ready fX_sheet dX_sheet nX_sheet iX_sheetLength xX_reader xX_solver xX_prover xX_values xX_clauses xX_nets))) (va_Qi (fun (r : Int32) (u : Unit) => True) (fun (u : Unit) t => va_P (dC, dI) vwCl (WX hX aX kX hT hM fX_ready fX_sheet dX_sheet nX_sheet iX_sheetLength xX_reader xX_solver xX_prover xX_values xX_clauses xX_nets) t.heap ∧ va_D (va_A (WX hX aX kX hT hM fX_ready fX_sheet dX_sheet nX_sheet iX_sheetLength xX_reader xX_solver xX_prover xX_values xX_clauses xX_nets) sz) (WX hX aX kX hT hM fX_ready fX_sheet dX_sheet nX_sheet iX_sheetLength xX_reader xX_solver xX_prover xX_values xX_clauses xX_nets)) (va_A (WX hX aX kX hT hM fX_ready fX_sheet dX_sheet nX_sheet iX_sheetLength xX_reader xX_solver xX_prover xX_values xX_clauses xX_nets) sz)) 0 0 (va_A (WX hX aX kX hT hM fX_ready fX_sheet dX_sheet nX_sheet iX_sheetLength xX_reader xX_solver xX_prover xX_values xX_clauses xX_nets) sz) := by
  refine Met.ofW (cc := cX11_letter) (maxL := 2) (ret := (some .int)) (by decide) rfl ?_
  intro p e s m args below meth c s₁ B hml hv
  obtain ⟨rfl, hsz, hP, hK, hD0⟩ := hv
  have hx := B.exec
  have hb := B.bytes
  have hr := B.returns
  have hts := atoms_spec (ws := wsMX11_letter) B.pre
  have hown : s.vm.findClass RX11 = some m.cls := findClass_of_methodNamed B.named
  have hlocks := B.notSynchronized
  subst hsz
  have hD := hD0.self (sz := s.heap.size)
  generalize hAe : va_A (WX hX aX kX hT hM fX_ready fX_sheet dX_sheet nX_sheet iX_sheetLength xX_reader xX_solver xX_prover xX_values xX_clauses xX_nets) s.heap.size = A at hD ⊢
  have hA : ∀ q : Nat, s.heap.size ≤ q → A q := fun q h => by rw [← hAe]; exact Or.inr h
  have hS : va_S A s.heap s.heap [] := va_S.rf
  have hl := lv_entry ([.ref (hX 0), .int p1]) (n := 2) (Nat.le_of_ble_eq_true rfl)
  rw [lg_entry_eq]
  generalize (lg_sl ([.ref (hX 0), .int p1]) ++ List.replicate (2 - (lg_sl ([.ref (hX 0), .int p1])).length) Slot.unset).toArray = ls at hl ⊢
  have hl : lv_has ls 2 [(0, .ref (hX 0)), (1, .int p1)] := hl
  refine lv_iload_n hx hb dX11_letter_0 rfl (lv_at hl 1 rfl) ?_
  refine W.cut (pc := 22) (fun H locs ls stk => ∃ (k0_j2 : Int32),  stk = [.int k0_j2] ∧ va_P (dC, dI) vwCl (WX hX aX kX hT hM fX_ready fX_sheet dX_sheet nX_sheet iX_sheetLength xX_reader xX_solver xX_prover xX_values xX_clauses xX_nets) H ∧ va_D A (WX hX aX kX hT hM fX_ready fX_sheet dX_sheet nX_sheet iX_sheetLength xX_reader xX_solver xX_prover xX_values xX_clauses xX_nets) ∧ va_S A s.heap H locs ∧ lv_has ls 2 [(0, .ref (hX 0)), (1, .int p1)]) (fun join2 => ?_) ?_
  · refine lv_if_lt (tgt := 12) hx hb dX11_letter_1 (by decide) (fun c_1 => ?_) (fun c_1 => ?_)
    · have t_1 : p1.toInt < 0 := toI_lt c_1 rfl (by decide : (0 : Int32).toInt = 0)
      refine lv_iconst (v := (-1)) hx hb dX11_letter_12 (by decide) ?_
      refine lv_goto (tgt := 22) hx hb dX11_letter_13 (by decide) ?_
      have hl : lv_has _ _ ([(0, .ref (hX 0)), (1, .int p1)]) := lv_sub hl [0, 1] rfl
      exact join2 _ _ _ _ ⟨(-1), rfl, hP, hD, hS, hl⟩
    · have t_1 : ¬ p1.toInt < 0 := toI_nlt c_1 rfl (by decide : (0 : Int32).toInt = 0)
      refine lv_iload_n hx hb dX11_letter_4 rfl (lv_at hl 1 rfl) ?_
      refine lv_aload_n hx hb dX11_letter_5 rfl (lv_at hl 0 rfl) ?_
      refine va_get (D := (dC, dI)) (ci := 11) (v := .int iX_sheetLength) (C := RX11) (T := TX11) (N := 11) hx hb hts iwsMX11_letter_in11 hown hK hP 0 rfl rfl 4 (by decide) (hts (.fieldLink RX11 138 "OptimaWorks" "sheetLength" "I") (by decide +kernel)) (fun _ h9 => h9) rfl dX11_letter_6 ?_
      refine lv_icmp_lt (tgt := 16) hx hb dX11_letter_9 (by decide) (fun c_9 => ?_) (fun c_9 => ?_)
      · have t_9 : p1.toInt < iX_sheetLength.toInt := toI_lt c_9 rfl rfl
        refine lv_aload_n hx hb dX11_letter_16 rfl (lv_at hl 0 rfl) ?_
        refine va_get (D := (dC, dI)) (ci := 11) (v := .ref dX_sheet) (C := RX11) (T := TX11) (N := 11) hx hb hts iwsMX11_letter_in11 hown hK hP 0 rfl rfl 3 (by decide) (hts (.fieldLink RX11 27 "OptimaWorks" "sheet" "[B") (by decide +kernel)) (fun _ h9 => h9) rfl dX11_letter_17 ?_
        refine lv_iload_n hx hb dX11_letter_20 rfl (lv_at hl 1 rfl) ?_
        refine va_bald (cA := kX 1) (n := nX_sheet) (f := fX_sheet) hx hb hK hP 2 1 rfl rfl (vp_in_iff.mpr ⟨(by omega), (by omega)⟩) dX11_letter_21 ?_
        refine lv_topi (fun v2 hv2 => ?_)
        have b_v2 : (-128) ≤ v2.toInt ∧ v2.toInt ≤ 127 := by rw [hv2]; exact b_fX_sheet _
        clear hv2
        have hl : lv_has _ _ ([(0, .ref (hX 0)), (1, .int p1)]) := lv_sub hl [0, 1] rfl
        exact join2 _ _ _ _ ⟨v2, rfl, hP, hD, hS, hl⟩
      · have t_9 : ¬ p1.toInt < iX_sheetLength.toInt := toI_nlt c_9 rfl rfl
        refine lv_iconst (v := (-1)) hx hb dX11_letter_12 (by decide) ?_
        refine lv_goto (tgt := 22) hx hb dX11_letter_13 (by decide) ?_
        have hl : lv_has _ _ ([(0, .ref (hX 0)), (1, .int p1)]) := lv_sub hl [0, 1] rfl
        exact join2 _ _ _ _ ⟨(-1), rfl, hP, hD, hS, hl⟩
  · rintro H locs ls stk ⟨k0_j2, rfl, hP, hD, hS, hl⟩
    refine W.widen (k := 0) (n := 0) (by decide +kernel) (by decide +kernel) ?_
    exact W.iret (v := k0_j2) hx hb hr (fun t9_ ht hW => ⟨⟨k0_j2, (), rfl, trivial, by rw [ht]; exact hP, hD⟩, hS.F ht⟩) hS.2.2 dX11_letter_22
theorem dX11_about_0 : decode cX11_about 0 = .ok (.iload_n 1, 1) := dk_27 (by decide +kernel)
theorem dX11_about_1 : decode cX11_about 1 = .ok (.tableswitch 122 0 7 #[47, 55, 60, 68, 76, 84, 92, 114], 47) := by decide +kernel
theorem dX11_about_48 : decode cX11_about 48 = .ok (.aload_n 0, 1) := dk_42 (by decide +kernel)
theorem dX11_about_49 : decode cX11_about 49 = .ok (.getfield 16, 3) := dk_180 (by decide +kernel)
theorem dX11_about_52 : decode cX11_about 52 = .ok (.getfield 31, 3) := dk_180 (by decide +kernel)
theorem dX11_about_55 : decode cX11_about 55 = .ok (.ireturn, 1) := dk_172 (by decide +kernel)
theorem dX11_about_56 : decode cX11_about 56 = .ok (.aload_n 0, 1) := dk_42 (by decide +kernel)
theorem dX11_about_57 : decode cX11_about 57 = .ok (.getfield 138, 3) := dk_180 (by decide +kernel)
theorem dX11_about_60 : decode cX11_about 60 = .ok (.ireturn, 1) := dk_172 (by decide +kernel)
theorem dX11_about_61 : decode cX11_about 61 = .ok (.aload_n 0, 1) := dk_42 (by decide +kernel)
theorem dX11_about_62 : decode cX11_about 62 = .ok (.getfield 23, 3) := dk_180 (by decide +kernel)
theorem dX11_about_65 : decode cX11_about 65 = .ok (.getfield 84, 3) := dk_180 (by decide +kernel)
theorem dX11_about_68 : decode cX11_about 68 = .ok (.ireturn, 1) := dk_172 (by decide +kernel)
theorem dX11_about_69 : decode cX11_about 69 = .ok (.aload_n 0, 1) := dk_42 (by decide +kernel)
theorem dX11_about_70 : decode cX11_about 70 = .ok (.getfield 23, 3) := dk_180 (by decide +kernel)
theorem dX11_about_73 : decode cX11_about 73 = .ok (.getfield 106, 3) := dk_180 (by decide +kernel)
theorem dX11_about_76 : decode cX11_about 76 = .ok (.ireturn, 1) := dk_172 (by decide +kernel)
theorem dX11_about_77 : decode cX11_about 77 = .ok (.aload_n 0, 1) := dk_42 (by decide +kernel)
theorem dX11_about_78 : decode cX11_about 78 = .ok (.getfield 23, 3) := dk_180 (by decide +kernel)
theorem dX11_about_81 : decode cX11_about 81 = .ok (.getfield 123, 3) := dk_180 (by decide +kernel)
theorem dX11_about_84 : decode cX11_about 84 = .ok (.ireturn, 1) := dk_172 (by decide +kernel)
theorem dX11_about_85 : decode cX11_about 85 = .ok (.aload_n 0, 1) := dk_42 (by decide +kernel)
theorem dX11_about_86 : decode cX11_about 86 = .ok (.getfield 23, 3) := dk_180 (by decide +kernel)
theorem dX11_about_89 : decode cX11_about 89 = .ok (.getfield 147, 3) := dk_180 (by decide +kernel)
theorem dX11_about_92 : decode cX11_about 92 = .ok (.ireturn, 1) := dk_172 (by decide +kernel)
theorem dX11_about_93 : decode cX11_about 93 = .ok (.aload_n 0, 1) := dk_42 (by decide +kernel)
theorem dX11_about_94 : decode cX11_about 94 = .ok (.getfield 23, 3) := dk_180 (by decide +kernel)
theorem dX11_about_97 : decode cX11_about 97 = .ok (.getfield 80, 3) := dk_180 (by decide +kernel)
theorem dX11_about_100 : decode cX11_about 100 = .ok (.ifCond .eq 13, 3) := dk_153 (by decide +kernel)
theorem dX11_about_103 : decode cX11_about 103 = .ok (.aload_n 0, 1) := dk_42 (by decide +kernel)
theorem dX11_about_104 : decode cX11_about 104 = .ok (.getfield 23, 3) := dk_180 (by decide +kernel)
theorem dX11_about_107 : decode cX11_about 107 = .ok (.getfield 227, 3) := dk_180 (by decide +kernel)
theorem dX11_about_110 : decode cX11_about 110 = .ok (.goto 4, 3) := dk_167 (by decide +kernel)
theorem dX11_about_113 : decode cX11_about 113 = .ok (.iconst 0, 1) := dk_3 (by decide +kernel)
theorem dX11_about_114 : decode cX11_about 114 = .ok (.ireturn, 1) := dk_172 (by decide +kernel)
theorem dX11_about_115 : decode cX11_about 115 = .ok (.aload_n 0, 1) := dk_42 (by decide +kernel)
theorem dX11_about_116 : decode cX11_about 116 = .ok (.getfield 23, 3) := dk_180 (by decide +kernel)
theorem dX11_about_119 : decode cX11_about 119 = .ok (.invokevirtual 209, 3) := dk_182 (by decide +kernel)
theorem dX11_about_122 : decode cX11_about 122 = .ok (.ireturn, 1) := dk_172 (by decide +kernel)
theorem dX11_about_123 : decode cX11_about 123 = .ok (.iconst (-1), 1) := dk_2 (by decide +kernel)
theorem dX11_about_124 : decode cX11_about 124 = .ok (.ireturn, 1) := dk_172 (by decide +kernel)
def wsMX11_about : List Cond := .code yX11_about cX11_about 2 (some .int) :: ([.fieldLink RX11 16 "OptimaWorks" "words" "LOptimaWorks$Words;", .fieldLink RX11 31 "OptimaWorks$Words" "length" "I", .fieldLink RX11 138 "OptimaWorks" "sheetLength" "I", .fieldLink RX11 23 "OptimaWorks" "model" "LOptimaWorks$Model;", .fieldLink RX11 84 "OptimaWorks$Model" "variables" "I", .fieldLink RX11 106 "OptimaWorks$Model" "rows" "I", .fieldLink RX11 123 "OptimaWorks$Model" "goals" "I", .fieldLink RX11 147 "OptimaWorks$Model" "differents" "I", .fieldLink RX11 80 "OptimaWorks$Model" "stands" "Z", .fieldLink RX11 227 "OptimaWorks$Model" "cases" "I"] ++ wsX10 ++ wsX90 ++ wsX110 ++ (wsV RX11 209 RX1 yX1_needs wsMX1_needs))
theorem iwsMX11_about_in1 : ∀ w ∈ wsX10, w ∈ wsMX11_about := fun _ h => List.mem_cons_of_mem _ (List.mem_append_left _ (List.mem_append_left _ (List.mem_append_left _ (List.mem_append_right _ h))))
theorem iwsMX11_about_in9 : ∀ w ∈ wsX90, w ∈ wsMX11_about := fun _ h => List.mem_cons_of_mem _ (List.mem_append_left _ (List.mem_append_left _ (List.mem_append_right _ h)))
theorem iwsMX11_about_in11 : ∀ w ∈ wsX110, w ∈ wsMX11_about := fun _ h => List.mem_cons_of_mem _ (List.mem_append_left _ (List.mem_append_right _ h))
theorem gwsMX11_about_0 : GoodIn wsMX11_about (wsV RX11 209 RX1 yX1_needs wsMX1_needs) := goodIn_sub (fun _ h => List.mem_cons_of_mem _ (List.mem_append_right _ h)) (gdV (by decide +kernel) gdwsMX1_needs)
theorem gdwsMX11_about : wsMX11_about.all goodWord = true := gdC rfl (gdA (gdA (gdA (gdA (by decide +kernel : ([.fieldLink RX11 16 "OptimaWorks" "words" "LOptimaWorks$Words;", .fieldLink RX11 31 "OptimaWorks$Words" "length" "I", .fieldLink RX11 138 "OptimaWorks" "sheetLength" "I", .fieldLink RX11 23 "OptimaWorks" "model" "LOptimaWorks$Model;", .fieldLink RX11 84 "OptimaWorks$Model" "variables" "I", .fieldLink RX11 106 "OptimaWorks$Model" "rows" "I", .fieldLink RX11 123 "OptimaWorks$Model" "goals" "I", .fieldLink RX11 147 "OptimaWorks$Model" "differents" "I", .fieldLink RX11 80 "OptimaWorks$Model" "stands" "Z", .fieldLink RX11 227 "OptimaWorks$Model" "cases" "I"] : List Cond).all goodWord = true) gdwsX10) gdwsX90) gdwsX110) (gdV (by decide +kernel) gdwsMX1_needs))
theorem hm_m_X11_about_0 : (.fieldLink RX11 23 "OptimaWorks" "model" "LOptimaWorks$Model;" : Cond) ∈ wsMX11_about := by decide +kernel
set_option maxHeartbeats 4000000 in
set_option maxRecDepth 100000 in
/-- about -/
theorem m_X11_about (l : Launch) (dC : Nat → ClassId) (dI : Nat → Nat → Nat) (hX : Nat → Nat) (aX : Nat → Nat) (kX : Nat → ClassId) (hT : Nat → Nat) (hM : Nat → Nat) (fX_ready : Nat → Int32) (fX_sheet : Nat → Int32) (dX_sheet : Nat) (nX_sheet : Nat) (iX_sheetLength : Int32) (xX_reader : Value) (xX_solver : Value) (xX_prover : Value) (xX_values : Value) (xX_clauses : Value) (xX_nets : Value) (aT : Nat → Nat) (kT : Nat → ClassId) (fT_tape : Nat → Int32) (dT_tape : Nat) (nT_tape : Nat) (iT_length : Int32) (iT_fault : Int32) (iT_place : Int32) (iT_kind : Int32) (iT_at : Int32) (iT_number : Int32) (jT_name : Int64) (iT_next : Int32) (aM : Nat → Nat) (kM : Nat → ClassId) (iM_stands : Int32) (iM_variables : Int32) (iM_rows : Int32) (iM_goals : Int32) (iM_differents : Int32) (iM_cases : Int32) (fM_from : Nat → Int32) (fM_to : Nat → Int32) (fM_whole : Nat → Int32) (fM_ways : Nat → Int32) (iM_plainRows : Int32) (fM_plainRow : Nat → Int32) (fM_kept : Nat → Int32) (fM_goalOver : Nat → Int32) (fM_goalUnder : Nat → Int32) (fM_goalMax : Nat → Int32) (fM_different : Nat → Int32) (p1 : Int32) (b_fX_sheet : ∀ q : Nat, (-128) ≤ (fX_sheet q).toInt ∧ (fX_sheet q).toInt ≤ 127) (b_nX_sheet : 64 ≤ nX_sheet ∧ nX_sheet ≤ 60000) (b_iX_sheetLength : 0 ≤ iX_sheetLength.toInt ∧ iX_sheetLength.toInt ≤ 30000) (b_shl : iX_sheetLength.toInt ≤ ((nX_sheet : Nat) : Int)) (b_fT_tape : ∀ q : Nat, (-128) ≤ (fT_tape q).toInt ∧ (fT_tape q).toInt ≤ 127) (b_nT_tape : 64 ≤ nT_tape ∧ nT_tape ≤ 2560) (b_iT_length : 0 ≤ iT_length.toInt ∧ iT_length.toInt ≤ 1280) (b_iT_at : 0 ≤ iT_at.toInt ∧ iT_at.toInt ≤ 1282) (b_iT_number : 0 ≤ iT_number.toInt ∧ iT_number.toInt ≤ 999999) (b_iT_next : 0 ≤ iT_next.toInt ∧ iT_next.toInt ≤ 1282) (b_len : iT_length.toInt ≤ ((nT_tape : Nat) : Int)) (b_iM_stands : 0 ≤ iM_stands.toInt ∧ iM_stands.toInt ≤ 1) (b_iM_variables : 0 ≤ iM_variables.toInt ∧ iM_variables.toInt ≤ 8) (b_iM_rows : 0 ≤ iM_rows.toInt ∧ iM_rows.toInt ≤ 12) (b_iM_goals : 0 ≤ iM_goals.toInt ∧ iM_goals.toInt ≤ 3) (b_iM_differents : 0 ≤ iM_differents.toInt ∧ iM_differents.toInt ≤ 8) (b_iM_cases : 0 ≤ iM_cases.toInt ∧ iM_cases.toInt ≤ 200000) (b_fM_ways : ∀ q : Nat, 0 ≤ (fM_ways q).toInt ∧ (fM_ways q).toInt ≤ 3) (b_iM_plainRows : 0 ≤ iM_plainRows.toInt ∧ iM_plainRows.toInt ≤ 12) (b_fM_plainRow : ∀ q : Nat, 0 ≤ (fM_plainRow q).toInt ∧ (fM_plainRow q).toInt ≤ 11) (b_pr : iM_plainRows.toInt ≤ iM_rows.toInt) (sz : Nat) : Met l yX11_about wsMX11_about ({ frames := 1, cells := 0, slots := 0, locals := 20 }) (va_Pc [.ref (hX 0), .int p1] (fun U => U.heap.size = sz ∧ va_P (dC, dI) vwCl (WX hX aX kX hT hM fX_ready fX_sheet dX_sheet nX_sheet iX_sheetLength xX_reader xX_solver xX_prover xX_values xX_clauses xX_nets ++ (WT hT aT kT fT_tape dT_tape nT_tape iT_length iT_fault iT_place iT_kind iT_at iT_number jT_name iT_next ++ (WM hM aM kM iM_stands iM_variables iM_rows iM_goals iM_differents iM_cases fM_from fM_to fM_whole fM_ways iM_plainRows fM_plainRow fM_kept fM_goalOver fM_goalUnder fM_goalMax fM_different))) U.heap ∧ va_K (dC, dI) vwCl (tX kX ++ (tT kT ++ (tM kM))) U ∧ va_D (fun _ => True) (WX hX aX kX hT hM fX_ready fX_sheet dX_sheet nX_sheet iX_sheetLength xX_reader xX_solver xX_prover xX_values xX_clauses xX_nets ++ (WT hT aT kT fT_tape dT_tape nT_tape iT_length iT_fault iT_place iT_kind iT_at iT_number jT_name iT_next ++ (WM hM aM kM iM_stands iM_variables iM_rows iM_goals iM_differents iM_cases fM_from fM_to fM_whole fM_ways iM_plainRows fM_plainRow fM_kept fM_goalOver fM_goalUnder fM_goalMax fM_different))))) (va_Qi (fun (r : Int32) (u : Unit) => True) (fun (u : Unit) t => va_P (dC, dI) vwCl (WX hX aX kX hT hM fX_ready fX_sheet dX_sheet nX_sheet iX_sheetLength xX_reader xX_solver xX_prover xX_values xX_clauses xX_nets ++ (WT hT aT kT fT_tape dT_tape nT_tape iT_length iT_fault iT_place iT_kind iT_at iT_number jT_name iT_next ++ (WM hM aM kM iM_stands iM_variables iM_rows iM_goals iM_differents iM_cases fM_from fM_to fM_whole fM_ways iM_plainRows fM_plainRow fM_kept fM_goalOver fM_goalUnder fM_goalMax fM_different))) t.heap ∧ va_D (va_A (WX hX aX kX hT hM fX_ready fX_sheet dX_sheet nX_sheet iX_sheetLength xX_reader xX_solver xX_prover xX_values xX_clauses xX_nets ++ (WT hT aT kT fT_tape dT_tape nT_tape iT_length iT_fault iT_place iT_kind iT_at iT_number jT_name iT_next ++ (WM hM aM kM iM_stands iM_variables iM_rows iM_goals iM_differents iM_cases fM_from fM_to fM_whole fM_ways iM_plainRows fM_plainRow fM_kept fM_goalOver fM_goalUnder fM_goalMax fM_different))) sz) (WX hX aX kX hT hM fX_ready fX_sheet dX_sheet nX_sheet iX_sheetLength xX_reader xX_solver xX_prover xX_values xX_clauses xX_nets ++ (WT hT aT kT fT_tape dT_tape nT_tape iT_length iT_fault iT_place iT_kind iT_at iT_number jT_name iT_next ++ (WM hM aM kM iM_stands iM_variables iM_rows iM_goals iM_differents iM_cases fM_from fM_to fM_whole fM_ways iM_plainRows fM_plainRow fM_kept fM_goalOver fM_goalUnder fM_goalMax fM_different)))) (va_A (WX hX aX kX hT hM fX_ready fX_sheet dX_sheet nX_sheet iX_sheetLength xX_reader xX_solver xX_prover xX_values xX_clauses xX_nets ++ (WT hT aT kT fT_tape dT_tape nT_tape iT_length iT_fault iT_place iT_kind iT_at iT_number jT_name iT_next ++ (WM hM aM kM iM_stands iM_variables iM_rows iM_goals iM_differents iM_cases fM_from fM_to fM_whole fM_ways iM_plainRows fM_plainRow fM_kept fM_goalOver fM_goalUnder fM_goalMax fM_different))) sz)) 0 0 (va_A (WX hX aX kX hT hM fX_ready fX_sheet dX_sheet nX_sheet iX_sheetLength xX_reader xX_solver xX_prover xX_values xX_clauses xX_nets ++ (WT hT aT kT fT_tape dT_tape nT_tape iT_length iT_fault iT_place iT_kind iT_at iT_number jT_name iT_next ++ (WM hM aM kM iM_stands iM_variables iM_rows iM_goals iM_differents iM_cases fM_from fM_to fM_whole fM_ways iM_plainRows fM_plainRow fM_kept fM_goalOver fM_goalUnder fM_goalMax fM_different))) sz) := by
  refine Met.ofW (cc := cX11_about) (maxL := 2) (ret := (some .int)) (by decide) rfl ?_
  intro p e s m args below meth c s₁ B hml hv
  obtain ⟨rfl, hsz, hP, hK, hD0⟩ := hv
  have hx := B.exec
  have hb := B.bytes
  have hr := B.returns
  have hts := atoms_spec (ws := wsMX11_about) B.pre
  have hown : s.vm.findClass RX11 = some m.cls := findClass_of_methodNamed B.named
  have hlocks := B.notSynchronized
  subst hsz
  have hD := hD0.self (sz := s.heap.size)
  generalize hAe : va_A (WX hX aX kX hT hM fX_ready fX_sheet dX_sheet nX_sheet iX_sheetLength xX_reader xX_solver xX_prover xX_values xX_clauses xX_nets ++ (WT hT aT kT fT_tape dT_tape nT_tape iT_length iT_fault iT_place iT_kind iT_at iT_number jT_name iT_next ++ (WM hM aM kM iM_stands iM_variables iM_rows iM_goals iM_differents iM_cases fM_from fM_to fM_whole fM_ways iM_plainRows fM_plainRow fM_kept fM_goalOver fM_goalUnder fM_goalMax fM_different))) s.heap.size = A at hD ⊢
  have hA : ∀ q : Nat, s.heap.size ≤ q → A q := fun q h => by rw [← hAe]; exact Or.inr h
  have hS : va_S A s.heap s.heap [] := va_S.rf
  have hl := lv_entry ([.ref (hX 0), .int p1]) (n := 2) (Nat.le_of_ble_eq_true rfl)
  rw [lg_entry_eq]
  generalize (lg_sl ([.ref (hX 0), .int p1]) ++ List.replicate (2 - (lg_sl ([.ref (hX 0), .int p1])).length) Slot.unset).toArray = ls at hl ⊢
  have hl : lv_has ls 2 [(0, .ref (hX 0)), (1, .int p1)] := hl
  refine lv_iload_n hx hb dX11_about_0 rfl (lv_at hl 1 rfl) ?_
  by_cases s_1_0 : p1 = 0
  · have ts_1_0 : p1.toInt = 0 := toI_eq s_1_0 rfl (by decide)
    refine lv_tableIn (off := 47) (tgt := 48) hx hb dX11_about_1 (by rw [s_1_0]; decide) (by rw [s_1_0]; decide) (by rw [s_1_0]; decide) (by decide) ?_
    refine lv_aload_n hx hb dX11_about_48 rfl (lv_at hl 0 rfl) ?_
    refine va_get (D := (dC, dI)) (ci := 11) (v := .ref (hT 0)) (C := RX11) (T := TX11) (N := 11) hx hb hts iwsMX11_about_in11 hown hK hP 0 rfl rfl 1 (by decide) (hts (.fieldLink RX11 16 "OptimaWorks" "words" "LOptimaWorks$Words;") (by decide +kernel)) (fun _ h9 => h9) rfl dX11_about_49 ?_
    refine va_get (D := (dC, dI)) (ci := 9) (v := .int iT_length) (C := RX9) (T := TX9) (N := 9) hx hb hts iwsMX11_about_in9 hown hK hP 3 rfl rfl 1 (by decide) (hts (.fieldLink RX11 31 "OptimaWorks$Words" "length" "I") (by decide +kernel)) (fun _ h9 => h9) rfl dX11_about_52 ?_
    refine W.widen (k := 0) (n := 0) (by decide +kernel) (by decide +kernel) ?_
    exact W.iret (v := iT_length) hx hb hr (fun t9_ ht hW => ⟨⟨iT_length, (), rfl, trivial, by rw [ht]; exact hP, hD⟩, hS.F ht⟩) hS.2.2 dX11_about_55
  · have ts_1_0 : ¬ p1.toInt = 0 := toI_neq s_1_0 rfl (by decide)
    by_cases s_1_1 : p1 = 1
    · have ts_1_1 : p1.toInt = 1 := toI_eq s_1_1 rfl (by decide)
      refine lv_tableIn (off := 55) (tgt := 56) hx hb dX11_about_1 (by rw [s_1_1]; decide) (by rw [s_1_1]; decide) (by rw [s_1_1]; decide) (by decide) ?_
      refine lv_aload_n hx hb dX11_about_56 rfl (lv_at hl 0 rfl) ?_
      refine va_get (D := (dC, dI)) (ci := 11) (v := .int iX_sheetLength) (C := RX11) (T := TX11) (N := 11) hx hb hts iwsMX11_about_in11 hown hK hP 0 rfl rfl 4 (by decide) (hts (.fieldLink RX11 138 "OptimaWorks" "sheetLength" "I") (by decide +kernel)) (fun _ h9 => h9) rfl dX11_about_57 ?_
      refine W.widen (k := 0) (n := 0) (by decide +kernel) (by decide +kernel) ?_
      exact W.iret (v := iX_sheetLength) hx hb hr (fun t9_ ht hW => ⟨⟨iX_sheetLength, (), rfl, trivial, by rw [ht]; exact hP, hD⟩, hS.F ht⟩) hS.2.2 dX11_about_60
    · have ts_1_1 : ¬ p1.toInt = 1 := toI_neq s_1_1 rfl (by decide)
      by_cases s_1_2 : p1 = 2
      · have ts_1_2 : p1.toInt = 2 := toI_eq s_1_2 rfl (by decide)
        refine lv_tableIn (off := 60) (tgt := 61) hx hb dX11_about_1 (by rw [s_1_2]; decide) (by rw [s_1_2]; decide) (by rw [s_1_2]; decide) (by decide) ?_
        refine lv_aload_n hx hb dX11_about_61 rfl (lv_at hl 0 rfl) ?_
        refine va_get (D := (dC, dI)) (ci := 11) (v := .ref (hM 0)) (C := RX11) (T := TX11) (N := 11) hx hb hts iwsMX11_about_in11 hown hK hP 0 rfl rfl 2 (by decide) (hts _ hm_m_X11_about_0) (fun _ h9 => h9) rfl dX11_about_62 ?_
        refine va_get (D := (dC, dI)) (ci := 1) (v := .int iM_variables) (C := RX1) (T := TX1) (N := 17) hx hb hts iwsMX11_about_in1 hown hK hP 5 rfl rfl 1 (by decide) (hts (.fieldLink RX11 84 "OptimaWorks$Model" "variables" "I") (by decide +kernel)) (fun _ h9 => h9) rfl dX11_about_65 ?_
        refine W.widen (k := 0) (n := 0) (by decide +kernel) (by decide +kernel) ?_
        exact W.iret (v := iM_variables) hx hb hr (fun t9_ ht hW => ⟨⟨iM_variables, (), rfl, trivial, by rw [ht]; exact hP, hD⟩, hS.F ht⟩) hS.2.2 dX11_about_68
      · have ts_1_2 : ¬ p1.toInt = 2 := toI_neq s_1_2 rfl (by decide)
        by_cases s_1_3 : p1 = 3
        · have ts_1_3 : p1.toInt = 3 := toI_eq s_1_3 rfl (by decide)
          refine lv_tableIn (off := 68) (tgt := 69) hx hb dX11_about_1 (by rw [s_1_3]; decide) (by rw [s_1_3]; decide) (by rw [s_1_3]; decide) (by decide) ?_
          refine lv_aload_n hx hb dX11_about_69 rfl (lv_at hl 0 rfl) ?_
          refine va_get (D := (dC, dI)) (ci := 11) (v := .ref (hM 0)) (C := RX11) (T := TX11) (N := 11) hx hb hts iwsMX11_about_in11 hown hK hP 0 rfl rfl 2 (by decide) (hts _ hm_m_X11_about_0) (fun _ h9 => h9) rfl dX11_about_70 ?_
          refine va_get (D := (dC, dI)) (ci := 1) (v := .int iM_rows) (C := RX1) (T := TX1) (N := 17) hx hb hts iwsMX11_about_in1 hown hK hP 5 rfl rfl 2 (by decide) (hts (.fieldLink RX11 106 "OptimaWorks$Model" "rows" "I") (by decide +kernel)) (fun _ h9 => h9) rfl dX11_about_73 ?_
          refine W.widen (k := 0) (n := 0) (by decide +kernel) (by decide +kernel) ?_
          exact W.iret (v := iM_rows) hx hb hr (fun t9_ ht hW => ⟨⟨iM_rows, (), rfl, trivial, by rw [ht]; exact hP, hD⟩, hS.F ht⟩) hS.2.2 dX11_about_76
        · have ts_1_3 : ¬ p1.toInt = 3 := toI_neq s_1_3 rfl (by decide)
          by_cases s_1_4 : p1 = 4
          · have ts_1_4 : p1.toInt = 4 := toI_eq s_1_4 rfl (by decide)
            refine lv_tableIn (off := 76) (tgt := 77) hx hb dX11_about_1 (by rw [s_1_4]; decide) (by rw [s_1_4]; decide) (by rw [s_1_4]; decide) (by decide) ?_
            refine lv_aload_n hx hb dX11_about_77 rfl (lv_at hl 0 rfl) ?_
            refine va_get (D := (dC, dI)) (ci := 11) (v := .ref (hM 0)) (C := RX11) (T := TX11) (N := 11) hx hb hts iwsMX11_about_in11 hown hK hP 0 rfl rfl 2 (by decide) (hts _ hm_m_X11_about_0) (fun _ h9 => h9) rfl dX11_about_78 ?_
            refine va_get (D := (dC, dI)) (ci := 1) (v := .int iM_goals) (C := RX1) (T := TX1) (N := 17) hx hb hts iwsMX11_about_in1 hown hK hP 5 rfl rfl 3 (by decide) (hts (.fieldLink RX11 123 "OptimaWorks$Model" "goals" "I") (by decide +kernel)) (fun _ h9 => h9) rfl dX11_about_81 ?_
            refine W.widen (k := 0) (n := 0) (by decide +kernel) (by decide +kernel) ?_
            exact W.iret (v := iM_goals) hx hb hr (fun t9_ ht hW => ⟨⟨iM_goals, (), rfl, trivial, by rw [ht]; exact hP, hD⟩, hS.F ht⟩) hS.2.2 dX11_about_84
          · have ts_1_4 : ¬ p1.toInt = 4 := toI_neq s_1_4 rfl (by decide)
            by_cases s_1_5 : p1 = 5
            · have ts_1_5 : p1.toInt = 5 := toI_eq s_1_5 rfl (by decide)
              refine lv_tableIn (off := 84) (tgt := 85) hx hb dX11_about_1 (by rw [s_1_5]; decide) (by rw [s_1_5]; decide) (by rw [s_1_5]; decide) (by decide) ?_
              refine lv_aload_n hx hb dX11_about_85 rfl (lv_at hl 0 rfl) ?_
              refine va_get (D := (dC, dI)) (ci := 11) (v := .ref (hM 0)) (C := RX11) (T := TX11) (N := 11) hx hb hts iwsMX11_about_in11 hown hK hP 0 rfl rfl 2 (by decide) (hts _ hm_m_X11_about_0) (fun _ h9 => h9) rfl dX11_about_86 ?_
              refine va_get (D := (dC, dI)) (ci := 1) (v := .int iM_differents) (C := RX1) (T := TX1) (N := 17) hx hb hts iwsMX11_about_in1 hown hK hP 5 rfl rfl 4 (by decide) (hts (.fieldLink RX11 147 "OptimaWorks$Model" "differents" "I") (by decide +kernel)) (fun _ h9 => h9) rfl dX11_about_89 ?_
              refine W.widen (k := 0) (n := 0) (by decide +kernel) (by decide +kernel) ?_
              exact W.iret (v := iM_differents) hx hb hr (fun t9_ ht hW => ⟨⟨iM_differents, (), rfl, trivial, by rw [ht]; exact hP, hD⟩, hS.F ht⟩) hS.2.2 dX11_about_92
            · have ts_1_5 : ¬ p1.toInt = 5 := toI_neq s_1_5 rfl (by decide)
              by_cases s_1_6 : p1 = 6
              · have ts_1_6 : p1.toInt = 6 := toI_eq s_1_6 rfl (by decide)
                refine lv_tableIn (off := 92) (tgt := 93) hx hb dX11_about_1 (by rw [s_1_6]; decide) (by rw [s_1_6]; decide) (by rw [s_1_6]; decide) (by decide) ?_
                refine lv_aload_n hx hb dX11_about_93 rfl (lv_at hl 0 rfl) ?_
                refine va_get (D := (dC, dI)) (ci := 11) (v := .ref (hM 0)) (C := RX11) (T := TX11) (N := 11) hx hb hts iwsMX11_about_in11 hown hK hP 0 rfl rfl 2 (by decide) (hts _ hm_m_X11_about_0) (fun _ h9 => h9) rfl dX11_about_94 ?_
                refine va_get (D := (dC, dI)) (ci := 1) (v := .int iM_stands) (C := RX1) (T := TX1) (N := 17) hx hb hts iwsMX11_about_in1 hown hK hP 5 rfl rfl 0 (by decide) (hts (.fieldLink RX11 80 "OptimaWorks$Model" "stands" "Z") (by decide +kernel)) (fun _ h9 => h9) rfl dX11_about_97 ?_
                refine lv_if_eq (tgt := 113) hx hb dX11_about_100 (by decide) (fun c_100 => ?_) (fun c_100 => ?_)
                · have t_100 : iM_stands.toInt = 0 := toI_eq c_100 rfl (by decide : (0 : Int32).toInt = 0)
                  refine lv_iconst (v := 0) hx hb dX11_about_113 (by decide) ?_
                  refine W.widen (k := 0) (n := 0) (by decide +kernel) (by decide +kernel) ?_
                  exact W.iret (v := 0) hx hb hr (fun t9_ ht hW => ⟨⟨(0 : Int32), (), rfl, trivial, by rw [ht]; exact hP, hD⟩, hS.F ht⟩) hS.2.2 dX11_about_114
                · have t_100 : ¬ iM_stands.toInt = 0 := toI_neq c_100 rfl (by decide : (0 : Int32).toInt = 0)
                  refine lv_aload_n hx hb dX11_about_103 rfl (lv_at hl 0 rfl) ?_
                  refine va_get (D := (dC, dI)) (ci := 11) (v := .ref (hM 0)) (C := RX11) (T := TX11) (N := 11) hx hb hts iwsMX11_about_in11 hown hK hP 0 rfl rfl 2 (by decide) (hts _ hm_m_X11_about_0) (fun _ h9 => h9) rfl dX11_about_104 ?_
                  refine va_get (D := (dC, dI)) (ci := 1) (v := .int iM_cases) (C := RX1) (T := TX1) (N := 17) hx hb hts iwsMX11_about_in1 hown hK hP 5 rfl rfl 5 (by decide) (hts (.fieldLink RX11 227 "OptimaWorks$Model" "cases" "I") (by decide +kernel)) (fun _ h9 => h9) rfl dX11_about_107 ?_
                  refine lv_goto (tgt := 114) hx hb dX11_about_110 (by decide) ?_
                  refine W.widen (k := 0) (n := 0) (by decide +kernel) (by decide +kernel) ?_
                  exact W.iret (v := iM_cases) hx hb hr (fun t9_ ht hW => ⟨⟨iM_cases, (), rfl, trivial, by rw [ht]; exact hP, hD⟩, hS.F ht⟩) hS.2.2 dX11_about_114
              · have ts_1_6 : ¬ p1.toInt = 6 := toI_neq s_1_6 rfl (by decide)
                by_cases s_1_7 : p1 = 7
                · have ts_1_7 : p1.toInt = 7 := toI_eq s_1_7 rfl (by decide)
                  refine lv_tableIn (off := 114) (tgt := 115) hx hb dX11_about_1 (by rw [s_1_7]; decide) (by rw [s_1_7]; decide) (by rw [s_1_7]; decide) (by decide) ?_
                  refine lv_aload_n hx hb dX11_about_115 rfl (lv_at hl 0 rfl) ?_
                  refine va_get (D := (dC, dI)) (ci := 11) (v := .ref (hM 0)) (C := RX11) (T := TX11) (N := 11) hx hb hts iwsMX11_about_in11 hown hK hP 0 rfl rfl 2 (by decide) (hts _ hm_m_X11_about_0) (fun _ h9 => h9) rfl dX11_about_116 ?_
                  have p9 := cj_3_2 (WX hX aX kX hT hM fX_ready fX_sheet dX_sheet nX_sheet iX_sheetLength xX_reader xX_solver xX_prover xX_values xX_clauses xX_nets) (WT hT aT kT fT_tape dT_tape nT_tape iT_length iT_fault iT_place iT_kind iT_at iT_number jT_name iT_next) (WM hM aM kM iM_stands iM_variables iM_rows iM_goals iM_differents iM_cases fM_from fM_to fM_whole fM_ways iM_plainRows fM_plainRow fM_kept fM_goalOver fM_goalUnder fM_goalMax fM_different)
                  have hPc := hP.mem (fun q h => p9.mem_iff.mpr (List.mem_append_left _ h))
                  have hDc := (hD.perm p9).left
                  have hKc : va_K (dC, dI) vwCl (tM kM) _ := hK.sub [3, 4, 5, 6, 7, 8, 9, 10, 11, 12] rfl
                  have hFc := freeG p9 hD hS hA
                  refine va_calli (va_runV (As := []) (rest := []) ⟨hx, hb, hml, hown, hts⟩ (m_X1_needs l dC dI hM aM kM iM_stands iM_variables iM_rows iM_goals iM_differents iM_cases fM_from fM_to fM_whole fM_ways iM_plainRows fM_plainRow fM_kept fM_goalOver fM_goalUnder fM_goalMax fM_different (b_iM_stands) (b_iM_variables) (b_iM_rows) (b_iM_goals) (b_iM_differents) (b_iM_cases) b_fM_ways (b_iM_plainRows) b_fM_plainRow (by first | with_reducible assumption | omega | assumption) s.heap.size) (cwV 0 hts gwsMX11_about_0 rfl rfl rfl hd_yX1_needs_RX1 (by decide +kernel)) (fz_pre (va_recv hK hP (ci := 1) (q0 := 5) rfl rfl) hPc hKc hDc) rfl rfl hl.1 rfl (lv_room (Nat.le_of_ble_eq_true rfl)) dX11_about_119 (by decide +kernel)) hS (fun q _ h => hFc q h) hFc (fun r1 u t9_ H locs ht hvm hw9 hB9 hz1 hk1 hS => ?_)
                  revert hw9
                  refine fz_a2 ?_
                  intro b_r1 f1_0
                  have p8 := p9
                  obtain ⟨hP, hD⟩ := frameG p9 p8 hP hD hk1 hFc (fz_P ht hB9.1) hB9.2
                  refine W.widen (k := 0) (n := 0) (by decide +kernel) (by decide +kernel) ?_
                  exact W.iret (v := r1) hx hb hr (fun t9_ ht hW => ⟨⟨r1, (), rfl, trivial, by rw [ht]; exact hP, hD⟩, hS.F ht⟩) hS.2.2 dX11_about_122
                · have ts_1_7 : ¬ p1.toInt = 7 := toI_neq s_1_7 rfl (by decide)
                  refine lv_tableOut (tgt := 123) hx hb dX11_about_1 (by have := lv_neT s_1_0 (show Int32.toInt 0 = 0 by decide); have := lv_neT s_1_1 (show Int32.toInt 1 = 1 by decide); have := lv_neT s_1_2 (show Int32.toInt 2 = 2 by decide); have := lv_neT s_1_3 (show Int32.toInt 3 = 3 by decide); have := lv_neT s_1_4 (show Int32.toInt 4 = 4 by decide); have := lv_neT s_1_5 (show Int32.toInt 5 = 5 by decide); have := lv_neT s_1_6 (show Int32.toInt 6 = 6 by decide); have := lv_neT s_1_7 (show Int32.toInt 7 = 7 by decide); omega) (by decide) ?_
                  refine lv_iconst (v := (-1)) hx hb dX11_about_123 (by decide) ?_
                  refine W.widen (k := 0) (n := 0) (by decide +kernel) (by decide +kernel) ?_
                  exact W.iret (v := (-1)) hx hb hr (fun t9_ ht hW => ⟨⟨((-1) : Int32), (), rfl, trivial, by rw [ht]; exact hP, hD⟩, hS.F ht⟩) hS.2.2 dX11_about_124
theorem dX11_isNode_0 : decode cX11_isNode 0 = .ok (.iload_n 0, 1) := dk_26 (by decide +kernel)
theorem dX11_isNode_1 : decode cX11_isNode 1 = .ok (.ifCond .lt 13, 3) := dk_155 (by decide +kernel)
theorem dX11_isNode_4 : decode cX11_isNode 4 = .ok (.iload_n 0, 1) := dk_26 (by decide +kernel)
theorem dX11_isNode_5 : decode cX11_isNode 5 = .ok (.bipush 12, 2) := dk_16 (by decide +kernel)
theorem dX11_isNode_7 : decode cX11_isNode 7 = .ok (.if_icmp .ge 7, 3) := dk_162 (by decide +kernel)
theorem dX11_isNode_10 : decode cX11_isNode 10 = .ok (.iconst 1, 1) := dk_4 (by decide +kernel)
theorem dX11_isNode_11 : decode cX11_isNode 11 = .ok (.goto 4, 3) := dk_167 (by decide +kernel)
theorem dX11_isNode_14 : decode cX11_isNode 14 = .ok (.iconst 0, 1) := dk_3 (by decide +kernel)
theorem dX11_isNode_15 : decode cX11_isNode 15 = .ok (.ireturn, 1) := dk_172 (by decide +kernel)
def wsMX11_isNode : List Cond := .code yX11_isNode cX11_isNode 1 (some .boolean) :: ([])
theorem gdwsMX11_isNode : wsMX11_isNode.all goodWord = true := gdC rfl (by decide +kernel : ([] : List Cond).all goodWord = true)
set_option maxHeartbeats 4000000 in
set_option maxRecDepth 100000 in
/-- a node -/
theorem m_X11_isNode (l : Launch) (dC : Nat → ClassId) (dI : Nat → Nat → Nat) (p1 : Int32) (sz : Nat) : Met l yX11_isNode wsMX11_isNode ({ frames := 0, cells := 0, slots := 0, locals := 0 }) (va_Pc [.int p1] (fun U => U.heap.size = sz ∧ va_P (dC, dI) vwCl [] U.heap ∧ va_K (dC, dI) vwCl [] U ∧ va_D (fun _ => True) [])) (va_Qi (fun (r : Int32) (u : Unit) => (0 ≤ r.toInt ∧ r.toInt ≤ 1) ∧ (r.toInt ≠ 0 → 0 ≤ p1.toInt ∧ p1.toInt ≤ 11) ∧ ((r.toInt = 1 ∧ (0 ≤ p1.toInt ∧ p1.toInt ≤ 11)) ∨ (r.toInt = 0 ∧ ¬ (0 ≤ p1.toInt ∧ p1.toInt ≤ 11)))) (fun (u : Unit) t => True) (va_A [] sz)) 0 0 (va_A [] sz) := by
  refine Met.ofW (cc := cX11_isNode) (maxL := 1) (ret := (some .boolean)) (by decide) rfl ?_
  intro p e s m args below meth c s₁ B hml hv
  obtain ⟨rfl, hsz, hP, hK, hD0⟩ := hv
  have hx := B.exec
  have hb := B.bytes
  have hr := B.returns
  have hts := atoms_spec (ws := wsMX11_isNode) B.pre
  have hown : s.vm.findClass RX11 = some m.cls := findClass_of_methodNamed B.named
  have hlocks := B.notSynchronized
  subst hsz
  have hD := hD0.self (sz := s.heap.size)
  generalize hAe : va_A [] s.heap.size = A at hD ⊢
  have hA : ∀ q : Nat, s.heap.size ≤ q → A q := fun q h => by rw [← hAe]; exact Or.inr h
  have hS : va_S A s.heap s.heap [] := va_S.rf
  have hl := lv_entry ([.int p1]) (n := 1) (Nat.le_of_ble_eq_true rfl)
  rw [lg_entry_eq]
  generalize (lg_sl ([.int p1]) ++ List.replicate (1 - (lg_sl ([.int p1])).length) Slot.unset).toArray = ls at hl ⊢
  have hl : lv_has ls 1 [(0, .int p1)] := hl
  refine lv_iload_n hx hb dX11_isNode_0 rfl (lv_at hl 0 rfl) ?_
  refine W.cut (pc := 15) (fun H locs ls stk => ∃ (k0_j2 : Int32), (0 ≤ k0_j2.toInt ∧ k0_j2.toInt ≤ 1) ∧ (k0_j2.toInt ≠ 0 → 0 ≤ p1.toInt ∧ p1.toInt ≤ 11) ∧ ((k0_j2.toInt = 1 ∧ (0 ≤ p1.toInt ∧ p1.toInt ≤ 11)) ∨ (k0_j2.toInt = 0 ∧ ¬ (0 ≤ p1.toInt ∧ p1.toInt ≤ 11))) ∧  stk = [.int k0_j2] ∧ va_P (dC, dI) vwCl ([]) H ∧ va_D A ([]) ∧ va_S A s.heap H locs ∧ lv_has ls 1 [(0, .int p1)]) (fun join2 => ?_) ?_
  · refine lv_if_lt (tgt := 14) hx hb dX11_isNode_1 (by decide) (fun c_1 => ?_) (fun c_1 => ?_)
    · have t_1 : p1.toInt < 0 := toI_lt c_1 rfl (by decide : (0 : Int32).toInt = 0)
      refine lv_iconst (v := 0) hx hb dX11_isNode_14 (by decide) ?_
      have hl : lv_has _ _ ([(0, .int p1)]) := lv_sub hl [0] rfl
      exact join2 _ _ _ _ ⟨0, (show 0 ≤ (0 : Int32).toInt ∧ (0 : Int32).toInt ≤ 1 from by decide), (show (0 : Int32).toInt ≠ 0 → 0 ≤ p1.toInt ∧ p1.toInt ≤ 11 from by first | (intro h9; exact absurd (by decide) h9) | (intro h9; exact ⟨by omega, by omega⟩)), (show ((0 : Int32).toInt = 1 ∧ (0 ≤ p1.toInt ∧ p1.toInt ≤ 11)) ∨ ((0 : Int32).toInt = 0 ∧ ¬ (0 ≤ p1.toInt ∧ p1.toInt ≤ 11)) from by first | exact Or.inl ⟨by decide, by omega⟩ | exact Or.inr ⟨by decide, by omega⟩), rfl, hP, hD, hS, hl⟩
    · have t_1 : ¬ p1.toInt < 0 := toI_nlt c_1 rfl (by decide : (0 : Int32).toInt = 0)
      refine lv_iload_n hx hb dX11_isNode_4 rfl (lv_at hl 0 rfl) ?_
      refine lv_bipush (v := 12) hx hb dX11_isNode_5 (by decide) ?_
      refine lv_icmp_ge (tgt := 14) hx hb dX11_isNode_7 (by decide) (fun c_7 => ?_) (fun c_7 => ?_)
      · have t_7 : p1.toInt ≥ 12 := toI_ge c_7 rfl (by decide : (12 : Int32).toInt = 12)
        refine lv_iconst (v := 0) hx hb dX11_isNode_14 (by decide) ?_
        have hl : lv_has _ _ ([(0, .int p1)]) := lv_sub hl [0] rfl
        exact join2 _ _ _ _ ⟨0, (show 0 ≤ (0 : Int32).toInt ∧ (0 : Int32).toInt ≤ 1 from by decide), (show (0 : Int32).toInt ≠ 0 → 0 ≤ p1.toInt ∧ p1.toInt ≤ 11 from by first | (intro h9; exact absurd (by decide) h9) | (intro h9; exact ⟨by omega, by omega⟩)), (show ((0 : Int32).toInt = 1 ∧ (0 ≤ p1.toInt ∧ p1.toInt ≤ 11)) ∨ ((0 : Int32).toInt = 0 ∧ ¬ (0 ≤ p1.toInt ∧ p1.toInt ≤ 11)) from by first | exact Or.inl ⟨by decide, by omega⟩ | exact Or.inr ⟨by decide, by omega⟩), rfl, hP, hD, hS, hl⟩
      · have t_7 : ¬ p1.toInt ≥ 12 := toI_nge c_7 rfl (by decide : (12 : Int32).toInt = 12)
        refine lv_iconst (v := 1) hx hb dX11_isNode_10 (by decide) ?_
        refine lv_goto (tgt := 15) hx hb dX11_isNode_11 (by decide) ?_
        have hl : lv_has _ _ ([(0, .int p1)]) := lv_sub hl [0] rfl
        exact join2 _ _ _ _ ⟨1, (show 0 ≤ (1 : Int32).toInt ∧ (1 : Int32).toInt ≤ 1 from by decide), (show (1 : Int32).toInt ≠ 0 → 0 ≤ p1.toInt ∧ p1.toInt ≤ 11 from by first | (intro h9; exact absurd (by decide) h9) | (intro h9; exact ⟨by omega, by omega⟩)), (show ((1 : Int32).toInt = 1 ∧ (0 ≤ p1.toInt ∧ p1.toInt ≤ 11)) ∨ ((1 : Int32).toInt = 0 ∧ ¬ (0 ≤ p1.toInt ∧ p1.toInt ≤ 11)) from by first | exact Or.inl ⟨by decide, by omega⟩ | exact Or.inr ⟨by decide, by omega⟩), rfl, hP, hD, hS, hl⟩
  · rintro H locs ls stk ⟨k0_j2, b_k0_j2, hj, hj2, rfl, hP, hD, hS, hl⟩
    refine W.widen (k := 0) (n := 0) (by decide +kernel) (by decide +kernel) ?_
    exact W.zret (v := k0_j2) hx hb hr (by rcases z01 (x := k0_j2) (b_k0_j2) with h9 | h9 <;> rw [h9] <;> rfl) (fun t9_ ht hW => ⟨⟨k0_j2, (), rfl, ⟨(b_k0_j2), (by (try dsimp only); exact (hj)), (by (try dsimp only); exact (hj2))⟩, trivial⟩, hS.F ht⟩) hS.2.2 dX11_isNode_15
theorem dX11_needNodes_0 : decode cX11_needNodes 0 = .ok (.iload_n 0, 1) := dk_26 (by decide +kernel)
theorem dX11_needNodes_1 : decode cX11_needNodes 1 = .ok (.invokestatic 422, 3) := dk_184 (by decide +kernel)
theorem dX11_needNodes_4 : decode cX11_needNodes 4 = .ok (.ifCond .eq 10, 3) := dk_153 (by decide +kernel)
theorem dX11_needNodes_7 : decode cX11_needNodes 7 = .ok (.iload_n 1, 1) := dk_27 (by decide +kernel)
theorem dX11_needNodes_8 : decode cX11_needNodes 8 = .ok (.invokestatic 422, 3) := dk_184 (by decide +kernel)
theorem dX11_needNodes_11 : decode cX11_needNodes 11 = .ok (.ifCond .ne 11, 3) := dk_154 (by decide +kernel)
theorem dX11_needNodes_14 : decode cX11_needNodes 14 = .ok (.new 93, 3) := dk_187 (by decide +kernel)
theorem dX11_needNodes_17 : decode cX11_needNodes 17 = .ok (.dup, 1) := dk_89 (by decide +kernel)
theorem dX11_needNodes_18 : decode cX11_needNodes 18 = .ok (.invokespecial 95, 3) := dk_183 (by decide +kernel)
theorem dX11_needNodes_21 : decode cX11_needNodes 21 = .ok (.athrow, 1) := dk_191 (by decide +kernel)
theorem dX11_needNodes_22 : decode cX11_needNodes 22 = .ok (.iload_n 0, 1) := dk_26 (by decide +kernel)
theorem dX11_needNodes_23 : decode cX11_needNodes 23 = .ok (.iload_n 1, 1) := dk_27 (by decide +kernel)
theorem dX11_needNodes_24 : decode cX11_needNodes 24 = .ok (.if_icmp .ne 11, 3) := dk_160 (by decide +kernel)
theorem dX11_needNodes_27 : decode cX11_needNodes 27 = .ok (.new 77, 3) := dk_187 (by decide +kernel)
theorem dX11_needNodes_30 : decode cX11_needNodes 30 = .ok (.dup, 1) := dk_89 (by decide +kernel)
theorem dX11_needNodes_31 : decode cX11_needNodes 31 = .ok (.invokespecial 79, 3) := dk_183 (by decide +kernel)
theorem dX11_needNodes_34 : decode cX11_needNodes 34 = .ok (.athrow, 1) := dk_191 (by decide +kernel)
theorem dX11_needNodes_35 : decode cX11_needNodes 35 = .ok (.return_, 1) := dk_177 (by decide +kernel)
def wsMX11_needNodes : List Cond := .code yX11_needNodes cX11_needNodes 2 none :: ([.classLink RX11 93 "java/lang/IndexOutOfBoundsException", .initialized "java/lang/IndexOutOfBoundsException", .classLink RX11 77 "java/lang/IllegalArgumentException", .initialized "java/lang/IllegalArgumentException"] ++ (va_wsS RX11 422 yX11_isNode wsMX11_isNode) ++ ((vx_at0 RX11 95 "java/lang/IndexOutOfBoundsException" ["java/lang/RuntimeException", "java/lang/Exception"]).filter goodWord) ++ ((vx_at0 RX11 79 "java/lang/IllegalArgumentException" ["java/lang/RuntimeException", "java/lang/Exception"]).filter goodWord))
theorem gwsMX11_needNodes_0 : GoodIn wsMX11_needNodes (va_wsS RX11 422 yX11_isNode wsMX11_isNode) := goodIn_sub (fun _ h => List.mem_cons_of_mem _ (List.mem_append_left _ (List.mem_append_left _ (List.mem_append_right _ h)))) (gdS (by decide +kernel) gdwsMX11_isNode)
theorem gdwsMX11_needNodes : wsMX11_needNodes.all goodWord = true := gdC rfl (gdA (gdA (gdA (by decide +kernel : ([.classLink RX11 93 "java/lang/IndexOutOfBoundsException", .initialized "java/lang/IndexOutOfBoundsException", .classLink RX11 77 "java/lang/IllegalArgumentException", .initialized "java/lang/IllegalArgumentException"] : List Cond).all goodWord = true) (gdS (by decide +kernel) gdwsMX11_isNode)) (gdF _)) (gdF _))
theorem hm_m_X11_needNodes_0 : (.classLink RX11 93 "java/lang/IndexOutOfBoundsException" : Cond) ∈ wsMX11_needNodes := by decide +kernel
theorem hm_m_X11_needNodes_1 : (.initialized "java/lang/IndexOutOfBoundsException" : Cond) ∈ wsMX11_needNodes := by decide +kernel
set_option maxHeartbeats 4000000 in
set_option maxRecDepth 100000 in
/-- two nodes -/
theorem m_X11_needNodes (l : Launch) (hst : l.stackTraces = false) (dC : Nat → ClassId) (dI : Nat → Nat → Nat) (p1 : Int32) (p2 : Int32) (sz : Nat) : vx_Met l yX11_needNodes wsMX11_needNodes ({ frames := 6, cells := 1, slots := 6, locals := 81 }) (va_Pc [.int p1, .int p2] (fun U => U.heap.size = sz ∧ va_P (dC, dI) vwCl [] U.heap ∧ va_K (dC, dI) vwCl [] U ∧ va_D (fun _ => True) [] ∧ CE (va_A [] sz) U U.heap)) (va_Qv (fun (u : Unit) => (0 ≤ p1.toInt ∧ p1.toInt ≤ 11 ∧ 0 ≤ p2.toInt ∧ p2.toInt ≤ 11 ∧ p1.toInt ≠ p2.toInt)) (fun (u : Unit) t => True ∧ t.heap.size = sz) (va_A [] sz)) (vx_X (fun (u : Unit) => True) (fun E (u : Unit) t => ((E = "java/lang/IndexOutOfBoundsException" ∧ (¬ ((0 ≤ p1.toInt ∧ p1.toInt ≤ 11) ∧ 0 ≤ p2.toInt ∧ p2.toInt ≤ 11))) ∨ (E = "java/lang/IllegalArgumentException" ∧ (((0 ≤ p1.toInt ∧ p1.toInt ≤ 11) ∧ 0 ≤ p2.toInt ∧ p2.toInt ≤ 11) ∧ p1.toInt = p2.toInt))) ∧ True) (va_A [] sz)) 1 6 (va_A [] sz) := by
  refine vx_ofW (cc := cX11_needNodes) (maxL := 2) (ret := none) (by decide) rfl ?_
  intro p e s m args below meth c s₁ B hml htab hv
  obtain ⟨rfl, hsz, hP, hK, hD0, hE⟩ := hv
  have hx := B.exec
  have hb := B.bytes
  have hr := B.returns
  have hts := atoms_spec (ws := wsMX11_needNodes) B.pre
  have hown : s.vm.findClass RX11 = some m.cls := findClass_of_methodNamed B.named
  have hlocks := B.notSynchronized
  subst hsz
  have hD := hD0.self (sz := s.heap.size)
  generalize hAe : va_A [] s.heap.size = A at hD hE ⊢
  have hA : ∀ q : Nat, s.heap.size ≤ q → A q := fun q h => by rw [← hAe]; exact Or.inr h
  have hS : va_S A s.heap s.heap [] := va_S.rf
  have hl := lv_entry ([.int p1, .int p2]) (n := 2) (Nat.le_of_ble_eq_true rfl)
  rw [lg_entry_eq]
  generalize (lg_sl ([.int p1, .int p2]) ++ List.replicate (2 - (lg_sl ([.int p1, .int p2])).length) Slot.unset).toArray = ls at hl ⊢
  have hl : lv_has ls 2 [(0, .int p1), (1, .int p2)] := hl
  refine lv_iload_n hx hb dX11_needNodes_0 rfl (lv_at hl 0 rfl) ?_
  have hFc := noneFree hS hA
  refine va_calli (va_runS (As := [.int p1]) (rest := []) ⟨hx, hb, hml, hown, hts⟩ (m_X11_isNode l dC dI p1 s.heap.size) (va_cwS 1 hts gwsMX11_needNodes_0 rfl rfl rfl (by decide +kernel) ⟨by decide +kernel, by decide +kernel⟩) ⟨fun a U g mk q => by obtain ⟨q0, q1, qP, qK, qD⟩ := q; exact ⟨q0, q1, qP, va_K.moved (u := U) (U := U.calling g mk a) (Vm.Alike.refl U.vm) qK, qD⟩, fun U hU9 hW => ⟨rfl, by rw [hU9], by rw [hU9]; exact nilP, va_K.moved hW.alike (hK.sub (tys' := []) [] rfl), nilD⟩⟩ rfl rfl hl.1 rfl (lv_room (Nat.le_of_ble_eq_true rfl)) dX11_needNodes_1 (by decide +kernel)) hS (fun q _ h => hFc q h) hFc (fun r1 u t9_ H1 locs ht hvm hw9 hB9 hz1 hk1 hS => ?_)
  revert hw9
  refine fz_a3 ?_
  intro b_r1 f1_0 f1_1
  clear hB9
  have hP := keepAll hP hk1
  generalize H1 = H at hP hS ⊢
  have hP : va_P (dC, dI) vwCl ([]) H := hP
  have hD := fz_sd hP (hD) rfl
  have hy1 := f1_1
  refine lv_if_eq (tgt := 14) hx hb dX11_needNodes_4 (by decide) (fun c_4 => ?_) (fun c_4 => ?_)
  · have t_4 : r1.toInt = 0 := toI_eq c_4 rfl (by decide : (0 : Int32).toInt = 0)
    exact vx_throw0 (own := RX11) (cls := "java/lang/IndexOutOfBoundsException") (names := ["java/lang/RuntimeException", "java/lang/Exception"]) (ik := 93) (ic := 95) (A := A) hx hb hst hown (by decide +kernel) (by decide +kernel) (hts _ hm_m_X11_needNodes_0) (hts _ hm_m_X11_needNodes_1) (vx_hat (B := ngX11_95) (fun w h => hts w (List.mem_cons_of_mem _ (List.mem_append_left _ (List.mem_append_right _ h)))) (fun _ h => h) (fun w h => va_Nw.use (ngX11_95_ot w h) (hE.2.2.1.2.2.2.1 w h))) (by decide +kernel) hE.2.1.1 hE.2.1.2 hS (by rw [hml]; exact hl.1) dX11_needNodes_14 dX11_needNodes_17 dX11_needNodes_18 dX11_needNodes_21 (fun x hx9 => (htab x hx9).elim) (by decide +kernel) (Nat.le_of_ble_eq_true rfl) (by decide +kernel) (by decide +kernel) hlocks (fun t hvm hz hk => ⟨(), trivial, ⟨Or.inl ⟨rfl, by omega⟩, trivial⟩, ⟨Nat.le_trans hS.1 hz, fun q h1 h2 => (hk q (Nat.lt_of_lt_of_le h1 hS.1)).trans (hS.2.1 q h1 h2)⟩⟩) hS.2.2 (by decide +kernel) (by decide +kernel)
  · have t_4 : ¬ r1.toInt = 0 := toI_neq c_4 rfl (by decide : (0 : Int32).toInt = 0)
    refine lv_iload_n hx hb dX11_needNodes_7 rfl (lv_at hl 1 rfl) ?_
    have hFc := noneFree hS hA
    refine va_calli (va_runS (As := [.int p2]) (rest := []) ⟨hx, hb, hml, hown, hts⟩ (m_X11_isNode l dC dI p2 H.size) (va_cwS 1 hts gwsMX11_needNodes_0 rfl rfl rfl (by decide +kernel) ⟨by decide +kernel, by decide +kernel⟩) ⟨fun a U g mk q => by obtain ⟨q0, q1, qP, qK, qD⟩ := q; exact ⟨q0, q1, qP, va_K.moved (u := U) (U := U.calling g mk a) (Vm.Alike.refl U.vm) qK, qD⟩, fun U hU9 hW => ⟨rfl, by rw [hU9], by rw [hU9]; exact nilP, va_K.moved hW.alike (hK.sub (tys' := []) [] rfl), nilD⟩⟩ rfl rfl hl.1 rfl (lv_room (Nat.le_of_ble_eq_true rfl)) dX11_needNodes_8 (by decide +kernel)) hS (fun q _ h => hFc q h) hFc (fun r2 u t9_ H1 locs ht hvm hw9 hB9 hz1 hk1 hS => ?_)
    revert hw9
    refine fz_a3 ?_
    intro b_r2 f2_0 f2_1
    clear hB9
    have hP := keepAll hP hk1
    generalize H1 = H at hP hS ⊢
    have hP : va_P (dC, dI) vwCl ([]) H := hP
    have hD := fz_sd hP (hD) rfl
    have hy2 := f2_1
    refine lv_if_ne (tgt := 22) hx hb dX11_needNodes_11 (by decide) (fun c_11 => ?_) (fun c_11 => ?_)
    · have t_11 : r2.toInt ≠ 0 := toI_ne c_11 rfl (by decide : (0 : Int32).toInt = 0)
      refine lv_iload_n hx hb dX11_needNodes_22 rfl (lv_at hl 0 rfl) ?_
      refine lv_iload_n hx hb dX11_needNodes_23 rfl (lv_at hl 1 rfl) ?_
      refine lv_icmp_ne (tgt := 35) hx hb dX11_needNodes_24 (by decide) (fun c_24 => ?_) (fun c_24 => ?_)
      · have t_24 : p1.toInt ≠ p2.toInt := toI_ne c_24 rfl rfl
        refine vx_ret ?_
        refine W.known (fun hz9 _ => ?_)
        refine W.widen (k := 1) (n := 6) (by decide +kernel) (by decide +kernel) ?_
        exact W.vret hx hb hr (fun t9_ ht hW => ⟨⟨(), rfl, (by (try dsimp only); omega), trivial, by rw [ht]; first | done | exact Nat.le_antisymm hz9 hS.1⟩, hS.F ht⟩) hS.2.2 dX11_needNodes_35
      · have t_24 : p1.toInt = p2.toInt := toI_nne c_24 rfl rfl
        exact vx_throw0 (own := RX11) (cls := "java/lang/IllegalArgumentException") (names := ["java/lang/RuntimeException", "java/lang/Exception"]) (ik := 77) (ic := 79) (A := A) hx hb hst hown (by decide +kernel) (by decide +kernel) (hts (.classLink RX11 77 "java/lang/IllegalArgumentException") (by decide +kernel)) (hts (.initialized "java/lang/IllegalArgumentException") (by decide +kernel)) (vx_hat (B := ngX11_79) (fun w h => hts w (List.mem_cons_of_mem _ (List.mem_append_right _ h))) (fun _ h => h) (fun w h => va_Nw.use (ngX11_79_ot w h) (hE.2.2.1.2.2.1 w h))) (by decide +kernel) hE.2.1.1 hE.2.1.2 hS (by rw [hml]; exact hl.1) dX11_needNodes_27 dX11_needNodes_30 dX11_needNodes_31 dX11_needNodes_34 (fun x hx9 => (htab x hx9).elim) (by decide +kernel) (Nat.le_of_ble_eq_true rfl) (by decide +kernel) (by decide +kernel) hlocks (fun t hvm hz hk => ⟨(), trivial, ⟨Or.inr (⟨rfl, by omega⟩), trivial⟩, ⟨Nat.le_trans hS.1 hz, fun q h1 h2 => (hk q (Nat.lt_of_lt_of_le h1 hS.1)).trans (hS.2.1 q h1 h2)⟩⟩) hS.2.2 (by decide +kernel) (by decide +kernel)
    · have t_11 : r2.toInt = 0 := toI_nne c_11 rfl (by decide : (0 : Int32).toInt = 0)
      exact vx_throw0 (own := RX11) (cls := "java/lang/IndexOutOfBoundsException") (names := ["java/lang/RuntimeException", "java/lang/Exception"]) (ik := 93) (ic := 95) (A := A) hx hb hst hown (by decide +kernel) (by decide +kernel) (hts _ hm_m_X11_needNodes_0) (hts _ hm_m_X11_needNodes_1) (vx_hat (B := ngX11_95) (fun w h => hts w (List.mem_cons_of_mem _ (List.mem_append_left _ (List.mem_append_right _ h)))) (fun _ h => h) (fun w h => va_Nw.use (ngX11_95_ot w h) (hE.2.2.1.2.2.2.1 w h))) (by decide +kernel) hE.2.1.1 hE.2.1.2 hS (by rw [hml]; exact hl.1) dX11_needNodes_14 dX11_needNodes_17 dX11_needNodes_18 dX11_needNodes_21 (fun x hx9 => (htab x hx9).elim) (by decide +kernel) (Nat.le_of_ble_eq_true rfl) (by decide +kernel) (by decide +kernel) hlocks (fun t hvm hz hk => ⟨(), trivial, ⟨Or.inl ⟨rfl, by omega⟩, trivial⟩, ⟨Nat.le_trans hS.1 hz, fun q h1 h2 => (hk q (Nat.lt_of_lt_of_le h1 hS.1)).trans (hS.2.1 q h1 h2)⟩⟩) hS.2.2 (by decide +kernel) (by decide +kernel)
theorem dX11_write_0 : decode cX11_write 0 = .ok (.aload_n 0, 1) := dk_42 (by decide +kernel)
theorem dX11_write_1 : decode cX11_write 1 = .ok (.invokevirtual 135, 3) := dk_182 (by decide +kernel)
theorem dX11_write_4 : decode cX11_write 4 = .ok (.aload_n 0, 1) := dk_42 (by decide +kernel)
theorem dX11_write_5 : decode cX11_write 5 = .ok (.iconst 0, 1) := dk_3 (by decide +kernel)
theorem dX11_write_6 : decode cX11_write 6 = .ok (.putfield 138, 3) := dk_181 (by decide +kernel)
theorem dX11_write_9 : decode cX11_write 9 = .ok (.iconst 0, 1) := dk_3 (by decide +kernel)
theorem dX11_write_10 : decode cX11_write 10 = .ok (.istore_n 1, 1) := dk_60 (by decide +kernel)
theorem dX11_write_11 : decode cX11_write 11 = .ok (.iload_n 1, 1) := dk_27 (by decide +kernel)
theorem dX11_write_12 : decode cX11_write 12 = .ok (.aload_n 0, 1) := dk_42 (by decide +kernel)
theorem dX11_write_13 : decode cX11_write 13 = .ok (.getfield 23, 3) := dk_180 (by decide +kernel)
theorem dX11_write_16 : decode cX11_write 16 = .ok (.getfield 84, 3) := dk_180 (by decide +kernel)
theorem dX11_write_19 : decode cX11_write 19 = .ok (.if_icmp .ge 14, 3) := dk_162 (by decide +kernel)
theorem dX11_write_22 : decode cX11_write 22 = .ok (.aload_n 0, 1) := dk_42 (by decide +kernel)
theorem dX11_write_23 : decode cX11_write 23 = .ok (.iload_n 1, 1) := dk_27 (by decide +kernel)
theorem dX11_write_24 : decode cX11_write 24 = .ok (.invokevirtual 141, 3) := dk_182 (by decide +kernel)
theorem dX11_write_27 : decode cX11_write 27 = .ok (.iinc 1 1, 3) := dk_132 (by decide +kernel)
theorem dX11_write_30 : decode cX11_write 30 = .ok (.goto (-19), 3) := dk_167 (by decide +kernel)
theorem dX11_write_33 : decode cX11_write 33 = .ok (.iconst 0, 1) := dk_3 (by decide +kernel)
theorem dX11_write_34 : decode cX11_write 34 = .ok (.istore_n 1, 1) := dk_60 (by decide +kernel)
theorem dX11_write_35 : decode cX11_write 35 = .ok (.iload_n 1, 1) := dk_27 (by decide +kernel)
theorem dX11_write_36 : decode cX11_write 36 = .ok (.aload_n 0, 1) := dk_42 (by decide +kernel)
theorem dX11_write_37 : decode cX11_write 37 = .ok (.getfield 23, 3) := dk_180 (by decide +kernel)
theorem dX11_write_40 : decode cX11_write 40 = .ok (.getfield 106, 3) := dk_180 (by decide +kernel)
theorem dX11_write_43 : decode cX11_write 43 = .ok (.if_icmp .ge 14, 3) := dk_162 (by decide +kernel)
theorem dX11_write_46 : decode cX11_write 46 = .ok (.aload_n 0, 1) := dk_42 (by decide +kernel)
theorem dX11_write_47 : decode cX11_write 47 = .ok (.iload_n 1, 1) := dk_27 (by decide +kernel)
theorem dX11_write_48 : decode cX11_write 48 = .ok (.invokevirtual 144, 3) := dk_182 (by decide +kernel)
theorem dX11_write_51 : decode cX11_write 51 = .ok (.iinc 1 1, 3) := dk_132 (by decide +kernel)
theorem dX11_write_54 : decode cX11_write 54 = .ok (.goto (-19), 3) := dk_167 (by decide +kernel)
theorem dX11_write_57 : decode cX11_write 57 = .ok (.iconst 0, 1) := dk_3 (by decide +kernel)
theorem dX11_write_58 : decode cX11_write 58 = .ok (.istore_n 1, 1) := dk_60 (by decide +kernel)
theorem dX11_write_59 : decode cX11_write 59 = .ok (.iload_n 1, 1) := dk_27 (by decide +kernel)
theorem dX11_write_60 : decode cX11_write 60 = .ok (.aload_n 0, 1) := dk_42 (by decide +kernel)
theorem dX11_write_61 : decode cX11_write 61 = .ok (.getfield 23, 3) := dk_180 (by decide +kernel)
theorem dX11_write_64 : decode cX11_write 64 = .ok (.getfield 147, 3) := dk_180 (by decide +kernel)
theorem dX11_write_67 : decode cX11_write 67 = .ok (.if_icmp .ge 22, 3) := dk_162 (by decide +kernel)
theorem dX11_write_70 : decode cX11_write 70 = .ok (.aload_n 0, 1) := dk_42 (by decide +kernel)
theorem dX11_write_71 : decode cX11_write 71 = .ok (.aload_n 0, 1) := dk_42 (by decide +kernel)
theorem dX11_write_72 : decode cX11_write 72 = .ok (.getfield 23, 3) := dk_180 (by decide +kernel)
theorem dX11_write_75 : decode cX11_write 75 = .ok (.getfield 150, 3) := dk_180 (by decide +kernel)
theorem dX11_write_78 : decode cX11_write 78 = .ok (.iload_n 1, 1) := dk_27 (by decide +kernel)
theorem dX11_write_79 : decode cX11_write 79 = .ok (.iaload, 1) := dk_46 (by decide +kernel)
theorem dX11_write_80 : decode cX11_write 80 = .ok (.invokevirtual 153, 3) := dk_182 (by decide +kernel)
theorem dX11_write_83 : decode cX11_write 83 = .ok (.iinc 1 1, 3) := dk_132 (by decide +kernel)
theorem dX11_write_86 : decode cX11_write 86 = .ok (.goto (-27), 3) := dk_167 (by decide +kernel)
theorem dX11_write_89 : decode cX11_write 89 = .ok (.iconst 0, 1) := dk_3 (by decide +kernel)
theorem dX11_write_90 : decode cX11_write 90 = .ok (.istore_n 1, 1) := dk_60 (by decide +kernel)
theorem dX11_write_91 : decode cX11_write 91 = .ok (.iload_n 1, 1) := dk_27 (by decide +kernel)
theorem dX11_write_92 : decode cX11_write 92 = .ok (.aload_n 0, 1) := dk_42 (by decide +kernel)
theorem dX11_write_93 : decode cX11_write 93 = .ok (.getfield 23, 3) := dk_180 (by decide +kernel)
theorem dX11_write_96 : decode cX11_write 96 = .ok (.getfield 123, 3) := dk_180 (by decide +kernel)
theorem dX11_write_99 : decode cX11_write 99 = .ok (.if_icmp .ge 14, 3) := dk_162 (by decide +kernel)
theorem dX11_write_102 : decode cX11_write 102 = .ok (.aload_n 0, 1) := dk_42 (by decide +kernel)
theorem dX11_write_103 : decode cX11_write 103 = .ok (.iload_n 1, 1) := dk_27 (by decide +kernel)
theorem dX11_write_104 : decode cX11_write 104 = .ok (.invokevirtual 156, 3) := dk_182 (by decide +kernel)
theorem dX11_write_107 : decode cX11_write 107 = .ok (.iinc 1 1, 3) := dk_132 (by decide +kernel)
theorem dX11_write_110 : decode cX11_write 110 = .ok (.goto (-19), 3) := dk_167 (by decide +kernel)
theorem dX11_write_113 : decode cX11_write 113 = .ok (.aload_n 0, 1) := dk_42 (by decide +kernel)
theorem dX11_write_114 : decode cX11_write 114 = .ok (.getfield 138, 3) := dk_180 (by decide +kernel)
theorem dX11_write_117 : decode cX11_write 117 = .ok (.ireturn, 1) := dk_172 (by decide +kernel)
def wsMX11_write : List Cond := .code yX11_write cX11_write 2 (some .int) :: ([.fieldLink RX11 138 "OptimaWorks" "sheetLength" "I", .fieldLink RX11 23 "OptimaWorks" "model" "LOptimaWorks$Model;", .fieldLink RX11 84 "OptimaWorks$Model" "variables" "I", .fieldLink RX11 106 "OptimaWorks$Model" "rows" "I", .fieldLink RX11 147 "OptimaWorks$Model" "differents" "I", .fieldLink RX11 150 "OptimaWorks$Model" "different" "[I", .fieldLink RX11 123 "OptimaWorks$Model" "goals" "I"] ++ wsX10 ++ wsX110 ++ (wsV RX11 135 RX11 yX11_needModel wsMX11_needModel) ++ (wsV RX11 141 RX11 yX11_putVariable wsMX11_putVariable) ++ (wsV RX11 144 RX11 yX11_putRow wsMX11_putRow) ++ (wsV RX11 153 RX11 yX11_putDifferent wsMX11_putDifferent) ++ (wsV RX11 156 RX11 yX11_putGoal wsMX11_putGoal))
theorem iwsMX11_write_in1 : ∀ w ∈ wsX10, w ∈ wsMX11_write := fun _ h => List.mem_cons_of_mem _ (List.mem_append_left _ (List.mem_append_left _ (List.mem_append_left _ (List.mem_append_left _ (List.mem_append_left _ (List.mem_append_left _ (List.mem_append_right _ h)))))))
theorem iwsMX11_write_in11 : ∀ w ∈ wsX110, w ∈ wsMX11_write := fun _ h => List.mem_cons_of_mem _ (List.mem_append_left _ (List.mem_append_left _ (List.mem_append_left _ (List.mem_append_left _ (List.mem_append_left _ (List.mem_append_right _ h))))))
theorem gwsMX11_write_0 : GoodIn wsMX11_write (wsV RX11 135 RX11 yX11_needModel wsMX11_needModel) := goodIn_sub (fun _ h => List.mem_cons_of_mem _ (List.mem_append_left _ (List.mem_append_left _ (List.mem_append_left _ (List.mem_append_left _ (List.mem_append_right _ h)))))) (gdV (by decide +kernel) gdwsMX11_needModel)
theorem gwsMX11_write_1 : GoodIn wsMX11_write (wsV RX11 141 RX11 yX11_putVariable wsMX11_putVariable) := goodIn_sub (fun _ h => List.mem_cons_of_mem _ (List.mem_append_left _ (List.mem_append_left _ (List.mem_append_left _ (List.mem_append_right _ h))))) (gdV (by decide +kernel) gdwsMX11_putVariable)
theorem gwsMX11_write_2 : GoodIn wsMX11_write (wsV RX11 144 RX11 yX11_putRow wsMX11_putRow) := goodIn_sub (fun _ h => List.mem_cons_of_mem _ (List.mem_append_left _ (List.mem_append_left _ (List.mem_append_right _ h)))) (gdV (by decide +kernel) gdwsMX11_putRow)
theorem gwsMX11_write_3 : GoodIn wsMX11_write (wsV RX11 153 RX11 yX11_putDifferent wsMX11_putDifferent) := goodIn_sub (fun _ h => List.mem_cons_of_mem _ (List.mem_append_left _ (List.mem_append_right _ h))) (gdV (by decide +kernel) gdwsMX11_putDifferent)
theorem gwsMX11_write_4 : GoodIn wsMX11_write (wsV RX11 156 RX11 yX11_putGoal wsMX11_putGoal) := goodIn_sub (fun _ h => List.mem_cons_of_mem _ (List.mem_append_right _ h)) (gdV (by decide +kernel) gdwsMX11_putGoal)
theorem gdwsMX11_write : wsMX11_write.all goodWord = true := gdC rfl (gdA (gdA (gdA (gdA (gdA (gdA (gdA (by decide +kernel : ([.fieldLink RX11 138 "OptimaWorks" "sheetLength" "I", .fieldLink RX11 23 "OptimaWorks" "model" "LOptimaWorks$Model;", .fieldLink RX11 84 "OptimaWorks$Model" "variables" "I", .fieldLink RX11 106 "OptimaWorks$Model" "rows" "I", .fieldLink RX11 147 "OptimaWorks$Model" "differents" "I", .fieldLink RX11 150 "OptimaWorks$Model" "different" "[I", .fieldLink RX11 123 "OptimaWorks$Model" "goals" "I"] : List Cond).all goodWord = true) gdwsX10) gdwsX110) (gdV (by decide +kernel) gdwsMX11_needModel)) (gdV (by decide +kernel) gdwsMX11_putVariable)) (gdV (by decide +kernel) gdwsMX11_putRow)) (gdV (by decide +kernel) gdwsMX11_putDifferent)) (gdV (by decide +kernel) gdwsMX11_putGoal))
theorem hm_m_X11_write_0 : (.fieldLink RX11 138 "OptimaWorks" "sheetLength" "I" : Cond) ∈ wsMX11_write := by decide +kernel
theorem hm_m_X11_write_1 : (.fieldLink RX11 23 "OptimaWorks" "model" "LOptimaWorks$Model;" : Cond) ∈ wsMX11_write := by decide +kernel
set_option maxHeartbeats 4000000 in
set_option maxRecDepth 100000 in
/-- all is written -/
theorem m_X11_write (l : Launch) (hst : l.stackTraces = false) (dC : Nat → ClassId) (dI : Nat → Nat → Nat) (hX : Nat → Nat) (aX : Nat → Nat) (kX : Nat → ClassId) (hT : Nat → Nat) (hM : Nat → Nat) (fX_ready : Nat → Int32) (fX_sheet : Nat → Int32) (dX_sheet : Nat) (nX_sheet : Nat) (iX_sheetLength : Int32) (xX_reader : Value) (xX_solver : Value) (xX_prover : Value) (xX_values : Value) (xX_clauses : Value) (xX_nets : Value) (aM : Nat → Nat) (kM : Nat → ClassId) (iM_stands : Int32) (iM_variables : Int32) (iM_rows : Int32) (iM_goals : Int32) (iM_differents : Int32) (iM_cases : Int32) (fM_from : Nat → Int32) (fM_to : Nat → Int32) (fM_whole : Nat → Int32) (fM_ways : Nat → Int32) (iM_plainRows : Int32) (fM_plainRow : Nat → Int32) (fM_kept : Nat → Int32) (fM_goalOver : Nat → Int32) (fM_goalUnder : Nat → Int32) (fM_goalMax : Nat → Int32) (fM_different : Nat → Int32) (b_fX_sheet : ∀ q : Nat, (-128) ≤ (fX_sheet q).toInt ∧ (fX_sheet q).toInt ≤ 127) (b_nX_sheet : 64 ≤ nX_sheet ∧ nX_sheet ≤ 60000) (b_iX_sheetLength : 0 ≤ iX_sheetLength.toInt ∧ iX_sheetLength.toInt ≤ 30000) (b_shl : iX_sheetLength.toInt ≤ ((nX_sheet : Nat) : Int)) (b_iM_stands : 0 ≤ iM_stands.toInt ∧ iM_stands.toInt ≤ 1) (b_iM_variables : 0 ≤ iM_variables.toInt ∧ iM_variables.toInt ≤ 8) (b_iM_rows : 0 ≤ iM_rows.toInt ∧ iM_rows.toInt ≤ 12) (b_iM_goals : 0 ≤ iM_goals.toInt ∧ iM_goals.toInt ≤ 3) (b_iM_differents : 0 ≤ iM_differents.toInt ∧ iM_differents.toInt ≤ 8) (b_iM_cases : 0 ≤ iM_cases.toInt ∧ iM_cases.toInt ≤ 200000) (b_fM_ways : ∀ q : Nat, 0 ≤ (fM_ways q).toInt ∧ (fM_ways q).toInt ≤ 3) (b_iM_plainRows : 0 ≤ iM_plainRows.toInt ∧ iM_plainRows.toInt ≤ 12) (b_fM_plainRow : ∀ q : Nat, 0 ≤ (fM_plainRow q).toInt ∧ (fM_plainRow q).toInt ≤ 11) (b_pr : iM_plainRows.toInt ≤ iM_rows.toInt) (sz : Nat) : vx_Met l yX11_write wsMX11_write ({ frames := 8, cells := 13126, slots := 900000, locals := 179 }) (va_Pc [.ref (hX 0)] (fun U => U.heap.size = sz ∧ va_P (dC, dI) vwCl (WX hX aX kX hT hM fX_ready fX_sheet dX_sheet nX_sheet iX_sheetLength xX_reader xX_solver xX_prover xX_values xX_clauses xX_nets ++ (WM hM aM kM iM_stands iM_variables iM_rows iM_goals iM_differents iM_cases fM_from fM_to fM_whole fM_ways iM_plainRows fM_plainRow fM_kept fM_goalOver fM_goalUnder fM_goalMax fM_different)) U.heap ∧ va_K (dC, dI) vwCl (tX kX ++ (tM kM)) U ∧ va_D (fun _ => True) (WX hX aX kX hT hM fX_ready fX_sheet dX_sheet nX_sheet iX_sheetLength xX_reader xX_solver xX_prover xX_values xX_clauses xX_nets ++ (WM hM aM kM iM_stands iM_variables iM_rows iM_goals iM_differents iM_cases fM_from fM_to fM_whole fM_ways iM_plainRows fM_plainRow fM_kept fM_goalOver fM_goalUnder fM_goalMax fM_different)) ∧ CE (va_A (WX hX aX kX hT hM fX_ready fX_sheet dX_sheet nX_sheet iX_sheetLength xX_reader xX_solver xX_prover xX_values xX_clauses xX_nets ++ (WM hM aM kM iM_stands iM_variables iM_rows iM_goals iM_differents iM_cases fM_from fM_to fM_whole fM_ways iM_plainRows fM_plainRow fM_kept fM_goalOver fM_goalUnder fM_goalMax fM_different)) sz) U U.heap)) (va_Qi (fun (r : Int32) (u : (Nat → Int32) × (Nat) × (Nat) × (Int32)) => (∀ q : Nat, (-128) ≤ ((u.1) q).toInt ∧ ((u.1) q).toInt ≤ 127) ∧ (64 ≤ (u.2.2.1) ∧ (u.2.2.1) ≤ 60000) ∧ (0 ≤ (u.2.2.2).toInt ∧ (u.2.2.2).toInt ≤ 30000) ∧ ((u.2.2.2).toInt ≤ (((u.2.2.1) : Nat) : Int)) ∧ (nX_sheet ≤ (u.2.2.1))) (fun (u : (Nat → Int32) × (Nat) × (Nat) × (Int32)) t => va_P (dC, dI) vwCl (WX hX aX kX hT hM fX_ready (u.1) (u.2.1) (u.2.2.1) (u.2.2.2) xX_reader xX_solver xX_prover xX_values xX_clauses xX_nets ++ (WM hM aM kM iM_stands iM_variables iM_rows iM_goals iM_differents iM_cases fM_from fM_to fM_whole fM_ways iM_plainRows fM_plainRow fM_kept fM_goalOver fM_goalUnder fM_goalMax fM_different)) t.heap ∧ va_D (va_A (WX hX aX kX hT hM fX_ready fX_sheet dX_sheet nX_sheet iX_sheetLength xX_reader xX_solver xX_prover xX_values xX_clauses xX_nets ++ (WM hM aM kM iM_stands iM_variables iM_rows iM_goals iM_differents iM_cases fM_from fM_to fM_whole fM_ways iM_plainRows fM_plainRow fM_kept fM_goalOver fM_goalUnder fM_goalMax fM_different)) sz) (WX hX aX kX hT hM fX_ready (u.1) (u.2.1) (u.2.2.1) (u.2.2.2) xX_reader xX_solver xX_prover xX_values xX_clauses xX_nets ++ (WM hM aM kM iM_stands iM_variables iM_rows iM_goals iM_differents iM_cases fM_from fM_to fM_whole fM_ways iM_plainRows fM_plainRow fM_kept fM_goalOver fM_goalUnder fM_goalMax fM_different)) ∧ t.heap.size + (nX_sheet / 32) ≤ sz + ((u.2.2.1) / 32) ∧ nS sz t.heap + (2 * nX_sheet) ≤ (2 * (u.2.2.1))) (va_A (WX hX aX kX hT hM fX_ready fX_sheet dX_sheet nX_sheet iX_sheetLength xX_reader xX_solver xX_prover xX_values xX_clauses xX_nets ++ (WM hM aM kM iM_stands iM_variables iM_rows iM_goals iM_differents iM_cases fM_from fM_to fM_whole fM_ways iM_plainRows fM_plainRow fM_kept fM_goalOver fM_goalUnder fM_goalMax fM_different)) sz)) (vx_X (fun (u : (Nat → Int32) × (Nat) × (Nat) × (Int32)) => (∀ q : Nat, (-128) ≤ ((u.1) q).toInt ∧ ((u.1) q).toInt ≤ 127) ∧ (64 ≤ (u.2.2.1) ∧ (u.2.2.1) ≤ 60000) ∧ (0 ≤ (u.2.2.2).toInt ∧ (u.2.2.2).toInt ≤ 30000) ∧ ((u.2.2.2).toInt ≤ (((u.2.2.1) : Nat) : Int))) (fun E (u : (Nat → Int32) × (Nat) × (Nat) × (Int32)) t => (E = "java/lang/IllegalStateException") ∧ va_P (dC, dI) vwCl (WX hX aX kX hT hM fX_ready (u.1) (u.2.1) (u.2.2.1) (u.2.2.2) xX_reader xX_solver xX_prover xX_values xX_clauses xX_nets ++ (WM hM aM kM iM_stands iM_variables iM_rows iM_goals iM_differents iM_cases fM_from fM_to fM_whole fM_ways iM_plainRows fM_plainRow fM_kept fM_goalOver fM_goalUnder fM_goalMax fM_different)) t.heap ∧ va_D (va_A (WX hX aX kX hT hM fX_ready fX_sheet dX_sheet nX_sheet iX_sheetLength xX_reader xX_solver xX_prover xX_values xX_clauses xX_nets ++ (WM hM aM kM iM_stands iM_variables iM_rows iM_goals iM_differents iM_cases fM_from fM_to fM_whole fM_ways iM_plainRows fM_plainRow fM_kept fM_goalOver fM_goalUnder fM_goalMax fM_different)) sz) (WX hX aX kX hT hM fX_ready (u.1) (u.2.1) (u.2.2.1) (u.2.2.2) xX_reader xX_solver xX_prover xX_values xX_clauses xX_nets ++ (WM hM aM kM iM_stands iM_variables iM_rows iM_goals iM_differents iM_cases fM_from fM_to fM_whole fM_ways iM_plainRows fM_plainRow fM_kept fM_goalOver fM_goalUnder fM_goalMax fM_different)) ∧ t.heap.size + (nX_sheet / 32) ≤ sz + ((u.2.2.1) / 32) + 1 ∧ nS sz t.heap + (2 * nX_sheet) ≤ (2 * (u.2.2.1)) + 6) (va_A (WX hX aX kX hT hM fX_ready fX_sheet dX_sheet nX_sheet iX_sheetLength xX_reader xX_solver xX_prover xX_values xX_clauses xX_nets ++ (WM hM aM kM iM_stands iM_variables iM_rows iM_goals iM_differents iM_cases fM_from fM_to fM_whole fM_ways iM_plainRows fM_plainRow fM_kept fM_goalOver fM_goalUnder fM_goalMax fM_different)) sz)) 13126 900000 (va_A (WX hX aX kX hT hM fX_ready fX_sheet dX_sheet nX_sheet iX_sheetLength xX_reader xX_solver xX_prover xX_values xX_clauses xX_nets ++ (WM hM aM kM iM_stands iM_variables iM_rows iM_goals iM_differents iM_cases fM_from fM_to fM_whole fM_ways iM_plainRows fM_plainRow fM_kept fM_goalOver fM_goalUnder fM_goalMax fM_different)) sz) := by
  refine vx_ofW (cc := cX11_write) (maxL := 2) (ret := (some .int)) (by decide) rfl ?_
  intro p e s m args below meth c s₁ B hml htab hv
  obtain ⟨rfl, hsz, hP, hK, hD0, hE⟩ := hv
  have hx := B.exec
  have hb := B.bytes
  have hr := B.returns
  have hts := atoms_spec (ws := wsMX11_write) B.pre
  have hown : s.vm.findClass RX11 = some m.cls := findClass_of_methodNamed B.named
  have hlocks := B.notSynchronized
  subst hsz
  have hD := hD0.self (sz := s.heap.size)
  generalize hAe : va_A (WX hX aX kX hT hM fX_ready fX_sheet dX_sheet nX_sheet iX_sheetLength xX_reader xX_solver xX_prover xX_values xX_clauses xX_nets ++ (WM hM aM kM iM_stands iM_variables iM_rows iM_goals iM_differents iM_cases fM_from fM_to fM_whole fM_ways iM_plainRows fM_plainRow fM_kept fM_goalOver fM_goalUnder fM_goalMax fM_different)) s.heap.size = A at hD hE ⊢
  have hA : ∀ q : Nat, s.heap.size ≤ q → A q := fun q h => by rw [← hAe]; exact Or.inr h
  have hS : va_S A s.heap s.heap [] := va_S.rf
  have hl := lv_entry ([.ref (hX 0)]) (n := 2) (Nat.le_of_ble_eq_true rfl)
  rw [lg_entry_eq]
  generalize (lg_sl ([.ref (hX 0)]) ++ List.replicate (2 - (lg_sl ([.ref (hX 0)])).length) Slot.unset).toArray = ls at hl ⊢
  have hl : lv_has ls 2 [(0, .ref (hX 0))] := hl
  refine W.widen (k := (nX_sheet / 32 - (nX_sheet / 32))) (n := (2 * nX_sheet - (2 * nX_sheet))) (Nat.zero_le _) (Nat.zero_le _) ?_
  refine lv_aload_n hx hb dX11_write_0 rfl (lv_at hl 0 rfl) ?_
  refine W.known (fun hz0 hn0 => ?_)
  have hS0 := hS.1
  have hFc := allFree hD hS hA
  refine vx_callv (vx_runV (As := []) (rest := []) ⟨hx, hb, hml, hown, hts⟩ (vx_Met.sV (m_X11_needModel l hst dC dI hX aX kX hT hM fX_ready fX_sheet dX_sheet nX_sheet iX_sheetLength xX_reader xX_solver xX_prover xX_values xX_clauses xX_nets aM kM iM_stands iM_variables iM_rows iM_goals iM_differents iM_cases fM_from fM_to fM_whole fM_ways iM_plainRows fM_plainRow fM_kept fM_goalOver fM_goalUnder fM_goalMax fM_different b_fX_sheet (by first | exact b_nX_sheet | with_reducible assumption | exact ⟨by omega, by omega⟩ | assumption) (b_iX_sheetLength) (by first | with_reducible assumption | omega | (rw [iI_t (by omega) (by omega)]; omega) | (have h7 : (0 : Int32).toInt = 0 := (by decide); omega)) (b_iM_stands) (b_iM_variables) (b_iM_rows) (b_iM_goals) (b_iM_differents) (b_iM_cases) b_fM_ways (b_iM_plainRows) b_fM_plainRow (by first | with_reducible assumption | omega | assumption) s.heap.size) s.heap) (cwV 0 hts gwsMX11_write_0 rfl rfl rfl (by decide +kernel) ⟨by first | decide +kernel | (dsimp only [headSpec] <;> omega), by first | decide +kernel | (dsimp only [headSpec] <;> omega)⟩) ⟨fun a U g mk q => by obtain ⟨q0, qh, q1, qP, qK, qD, qE⟩ := q; exact ⟨q0, qh, q1, qP, va_K.moved (u := U) (U := U.calling g mk a) (Vm.Alike.refl U.vm) qK, qD, qE.call⟩, va_recv hK hP (ci := 11) (q0 := 0) rfl rfl, fun U hU9 hW => ⟨rfl, hU9, by rw [hU9], by rw [hU9]; exact hP, va_K.moved hW.alike hK, hD.weaken (fun _ _ _ _ => trivial), by rw [hU9]; exact (((hE : CE A s s.heap).kept hS.2.1).narrow (fun q h => hFc q h)).warm hW⟩⟩ rfl rfl hl.1 rfl (lv_room (Nat.le_of_ble_eq_true rfl)) dX11_write_1 ⟨by first | decide +kernel | (dsimp only [headSpec] <;> omega), by first | decide +kernel | (dsimp only [headSpec] <;> omega)⟩) hS (fun q _ h => hFc q h) hFc (fun q _ h => hFc q h) (fun E ce q9 u t9_ H locs ht hvm hw9 hB9 hz1 hk1 hS hc1 hc2 hc3 => ?_) (fun u t9_ H locs ht hvm hw9 hB9 hz1 hk1 hS => ?_)
  · revert hB9
    refine fz_a2 ?_
    intro hEx hB9
    clear hw9
    have hP : va_P (dC, dI) vwCl (WX hX aX kX hT hM fX_ready fX_sheet dX_sheet nX_sheet iX_sheetLength xX_reader xX_solver xX_prover xX_values xX_clauses xX_nets ++ (WM hM aM kM iM_stands iM_variables iM_rows iM_goals iM_differents iM_cases fM_from fM_to fM_whole fM_ways iM_plainRows fM_plainRow fM_kept fM_goalOver fM_goalUnder fM_goalMax fM_different)) H := fz_P ht hB9.1
    have hD := fz_sd hP (hB9.2.weaken (fun _ q _ h => hFc q.1 h)) rfl
    refine vx_known (fun hz9 hn9 => ?_)
    exact vx_out (fun x hx9 => (htab x hx9).elim) hlocks hc1 hc2 hc3 (fun t9_ ht hvm => ⟨(fX_sheet, dX_sheet, nX_sheet, iX_sheetLength), ⟨b_fX_sheet, (by first | exact b_nX_sheet | with_reducible assumption | exact ⟨by omega, by omega⟩ | assumption), (b_iX_sheetLength), (by (try dsimp only); exact (by first | with_reducible assumption | omega | (rw [iI_t (by omega) (by omega)]; omega) | (have h7 : (0 : Int32).toInt = 0 := (by decide); omega)))⟩, ⟨(by have h9 := hEx; exact h9), by rw [ht]; exact hP, hD, by rw [ht]; (try dsimp only); omega, by rw [ht]; (try dsimp only); omega⟩, hS.F ht⟩) hS.2.2 (by omega) (by omega)
  have f1_0 := hw9
  try dsimp only at f1_0
  have hz8 := hB9.1.2.2
  rw [ht] at hz8
  have hSz := hB9.2
  rw [ht] at hSz
  have hP : va_P (dC, dI) vwCl (WX hX aX kX hT hM fX_ready fX_sheet dX_sheet nX_sheet iX_sheetLength xX_reader xX_solver xX_prover xX_values xX_clauses xX_nets ++ (WM hM aM kM iM_stands iM_variables iM_rows iM_goals iM_differents iM_cases fM_from fM_to fM_whole fM_ways iM_plainRows fM_plainRow fM_kept fM_goalOver fM_goalUnder fM_goalMax fM_different)) H := fz_P ht hB9.1.1
  have hD := fz_sd hP (hB9.1.2.1.weaken (fun _ q _ h => hFc q.1 h)) rfl
  have hz9 : H.size ≤ s.heap.size + (nX_sheet / 32 - (nX_sheet / 32)) := by rw [hz8]; exact hz0
  have hn9 : nS s.heap.size H ≤ (2 * nX_sheet - (2 * nX_sheet)) := Nat.le_trans (Nat.le_of_eq (hSz.n hS0)) (Nat.le_trans (Nat.add_le_add hn0 (nS_0 (k := 0) (Nat.le_of_eq hz8))) (Nat.le_of_eq (Nat.add_zero _)))
  refine W.tight (cells2 := (nX_sheet / 32 - (nX_sheet / 32))) (slots2 := (2 * nX_sheet - (2 * nX_sheet))) hz9 hn9 ?_
  clear hz9 hn9 hz0 hn0 hS0 hSz hz8
  refine lv_aload_n hx hb dX11_write_4 rfl (lv_at hl 0 rfl) ?_
  refine lv_iconst (v := 0) hx hb dX11_write_5 (by decide) ?_
  refine va_put (D := (dC, dI)) (ci := 11) (v := .int 0) (ty := .int) (C := RX11) (T := TX11) (N := 11) hx hb hts iwsMX11_write_in11 tyX11 tyX11_ok nmX11 hown hK hP hD hS 0 rfl rfl 4 (by decide) (hts _ hm_m_X11_write_0) (fun _ h9 => h9) rfl (by decide +kernel) rfl rfl (Nat.le_of_ble_eq_true rfl) dX11_write_6 (fun H locs hP hD hS => ?_)
  have hP : va_P (dC, dI) vwCl (WX hX aX kX hT hM fX_ready fX_sheet dX_sheet nX_sheet 0 xX_reader xX_solver xX_prover xX_values xX_clauses xX_nets ++ (WM hM aM kM iM_stands iM_variables iM_rows iM_goals iM_differents iM_cases fM_from fM_to fM_whole fM_ways iM_plainRows fM_plainRow fM_kept fM_goalOver fM_goalUnder fM_goalMax fM_different)) H := hP
  have hD := fz_sd hP (hD) rfl
  refine lv_iconst (v := 0) hx hb dX11_write_9 (by decide) ?_
  refine lv_istore_n hx hb dX11_write_10 rfl hl (by decide) rfl (fun ls (hl : lv_has ls _ ([(1, .int 0), (0, .ref (hX 0))])) => ?_)
  have hl : lv_has _ _ ([(1, .int 0), (0, .ref (hX 0))]) := lv_sub hl [0, 1] rfl
  refine (fun (loop : ∀ (n9 : Nat) (fX_sheet_x11 : Nat → Int32) (dX_sheet_x11 : Nat) (nX_sheet_x11 : Nat) (iX_sheetLength_x11 : Int32) (l1_x11 : Int32) (H : Heap) (locs : List Loc) (ls : Array Slot), (∀ q : Nat, (-128) ≤ (fX_sheet_x11 q).toInt ∧ (fX_sheet_x11 q).toInt ≤ 127) → (64 ≤ nX_sheet_x11 ∧ nX_sheet_x11 ≤ 60000) → (0 ≤ iX_sheetLength_x11.toInt ∧ iX_sheetLength_x11.toInt ≤ 30000) → (0 ≤ l1_x11.toInt ∧ l1_x11.toInt ≤ 8) → (iX_sheetLength_x11.toInt ≤ ((nX_sheet_x11 : Nat) : Int)) → (nX_sheet ≤ nX_sheet_x11) → (8 - l1_x11.toInt < ((n9 : Nat) : Int)) → va_P (dC, dI) vwCl (WX hX aX kX hT hM fX_ready fX_sheet_x11 dX_sheet_x11 nX_sheet_x11 iX_sheetLength_x11 xX_reader xX_solver xX_prover xX_values xX_clauses xX_nets ++ (WM hM aM kM iM_stands iM_variables iM_rows iM_goals iM_differents iM_cases fM_from fM_to fM_whole fM_ways iM_plainRows fM_plainRow fM_kept fM_goalOver fM_goalUnder fM_goalMax fM_different)) H → va_D A (WX hX aX kX hT hM fX_ready fX_sheet_x11 dX_sheet_x11 nX_sheet_x11 iX_sheetLength_x11 xX_reader xX_solver xX_prover xX_values xX_clauses xX_nets ++ (WM hM aM kM iM_stands iM_variables iM_rows iM_goals iM_differents iM_cases fM_from fM_to fM_whole fM_ways iM_plainRows fM_plainRow fM_kept fM_goalOver fM_goalUnder fM_goalMax fM_different)) → va_S A s.heap H locs → lv_has ls 2 [(1, .int l1_x11), (0, .ref (hX 0))] → W p l e _ s m _ below meth c H locs (nX_sheet_x11 / 32 - (nX_sheet / 32)) (2 * nX_sheet_x11 - (2 * nX_sheet)) _ (F0 m 11 ls [])) => loop (9) fX_sheet dX_sheet nX_sheet 0 0 _ _ _ b_fX_sheet (by first | exact b_nX_sheet | with_reducible assumption | exact ⟨by omega, by omega⟩ | assumption) (show 0 ≤ (0 : Int32).toInt ∧ (0 : Int32).toInt ≤ 30000 from by decide) (show 0 ≤ (0 : Int32).toInt ∧ (0 : Int32).toInt ≤ 8 from by decide) (by first | with_reducible assumption | omega | (rw [iI_t (by omega) (by omega)]; omega) | (have h7 : (0 : Int32).toInt = 0 := (by decide); omega)) (show nX_sheet ≤ nX_sheet from by omega) ((by have e9 : (0 : Int32).toInt = 0 := (by decide : (0 : Int32).toInt = 0); omega)) hP hD hS hl) ?_
  intro n9
  induction n9 with
  | zero => intro fX_sheet_x11 dX_sheet_x11 nX_sheet_x11 iX_sheetLength_x11 l1_x11 H locs ls b_fX_sheet_x11 b_nX_sheet_x11 b_iX_sheetLength_x11 b_l1_x11 b_shl_x11 hgm0_x11 hf9; exact False.elim (by omega)
  | succ n9 ihx11 =>
    intro fX_sheet_x11 dX_sheet_x11 nX_sheet_x11 iX_sheetLength_x11 l1_x11 H locs ls b_fX_sheet_x11 b_nX_sheet_x11 b_iX_sheetLength_x11 b_l1_x11 b_shl_x11 hgm0_x11 hfx11 hP hD hS hl
    refine lv_iload_n hx hb dX11_write_11 rfl (lv_at hl 0 rfl) ?_
    refine lv_aload_n hx hb dX11_write_12 rfl (lv_at hl 1 rfl) ?_
    refine va_get (D := (dC, dI)) (ci := 11) (v := .ref (hM 0)) (C := RX11) (T := TX11) (N := 11) hx hb hts iwsMX11_write_in11 hown hK hP 0 rfl rfl 2 (by decide) (hts _ hm_m_X11_write_1) (fun _ h9 => h9) rfl dX11_write_13 ?_
    refine va_get (D := (dC, dI)) (ci := 1) (v := .int iM_variables) (C := RX1) (T := TX1) (N := 17) hx hb hts iwsMX11_write_in1 hown hK hP 3 rfl rfl 1 (by decide) (hts (.fieldLink RX11 84 "OptimaWorks$Model" "variables" "I") (by decide +kernel)) (fun _ h9 => h9) rfl dX11_write_16 ?_
    refine lv_icmp_ge (tgt := 33) hx hb dX11_write_19 (by decide) (fun c_19 => ?_) (fun c_19 => ?_)
    · have t_19 : l1_x11.toInt ≥ iM_variables.toInt := toI_ge c_19 rfl rfl
      refine lv_iconst (v := 0) hx hb dX11_write_33 (by decide) ?_
      refine lv_istore_n hx hb dX11_write_34 rfl hl (by decide) rfl (fun ls (hl : lv_has ls _ ([(1, .int 0), (0, .ref (hX 0))])) => ?_)
      have hl : lv_has _ _ ([(1, .int 0), (0, .ref (hX 0))]) := lv_sub hl [0, 1] rfl
      refine (fun (loop : ∀ (n9 : Nat) (fX_sheet_x35 : Nat → Int32) (dX_sheet_x35 : Nat) (nX_sheet_x35 : Nat) (iX_sheetLength_x35 : Int32) (l1_x35 : Int32) (H : Heap) (locs : List Loc) (ls : Array Slot), (∀ q : Nat, (-128) ≤ (fX_sheet_x35 q).toInt ∧ (fX_sheet_x35 q).toInt ≤ 127) → (64 ≤ nX_sheet_x35 ∧ nX_sheet_x35 ≤ 60000) → (0 ≤ iX_sheetLength_x35.toInt ∧ iX_sheetLength_x35.toInt ≤ 30000) → (0 ≤ l1_x35.toInt ∧ l1_x35.toInt ≤ 12) → (iX_sheetLength_x35.toInt ≤ ((nX_sheet_x35 : Nat) : Int)) → (nX_sheet ≤ nX_sheet_x35) → (12 - l1_x35.toInt < ((n9 : Nat) : Int)) → va_P (dC, dI) vwCl (WX hX aX kX hT hM fX_ready fX_sheet_x35 dX_sheet_x35 nX_sheet_x35 iX_sheetLength_x35 xX_reader xX_solver xX_prover xX_values xX_clauses xX_nets ++ (WM hM aM kM iM_stands iM_variables iM_rows iM_goals iM_differents iM_cases fM_from fM_to fM_whole fM_ways iM_plainRows fM_plainRow fM_kept fM_goalOver fM_goalUnder fM_goalMax fM_different)) H → va_D A (WX hX aX kX hT hM fX_ready fX_sheet_x35 dX_sheet_x35 nX_sheet_x35 iX_sheetLength_x35 xX_reader xX_solver xX_prover xX_values xX_clauses xX_nets ++ (WM hM aM kM iM_stands iM_variables iM_rows iM_goals iM_differents iM_cases fM_from fM_to fM_whole fM_ways iM_plainRows fM_plainRow fM_kept fM_goalOver fM_goalUnder fM_goalMax fM_different)) → va_S A s.heap H locs → lv_has ls 2 [(1, .int l1_x35), (0, .ref (hX 0))] → W p l e _ s m _ below meth c H locs (nX_sheet_x35 / 32 - (nX_sheet / 32)) (2 * nX_sheet_x35 - (2 * nX_sheet)) _ (F0 m 35 ls [])) => loop (13) fX_sheet_x11 dX_sheet_x11 nX_sheet_x11 iX_sheetLength_x11 0 _ _ _ b_fX_sheet_x11 (by first | exact b_nX_sheet_x11 | with_reducible assumption | exact ⟨by omega, by omega⟩ | assumption) (b_iX_sheetLength_x11) (show 0 ≤ (0 : Int32).toInt ∧ (0 : Int32).toInt ≤ 12 from by decide) (by first | with_reducible assumption | omega | (rw [iI_t (by omega) (by omega)]; omega) | (have h7 : (0 : Int32).toInt = 0 := (by decide); omega)) (show nX_sheet ≤ nX_sheet_x11 from by omega) ((by have e9 : (0 : Int32).toInt = 0 := (by decide : (0 : Int32).toInt = 0); omega)) hP hD hS hl) ?_
      intro n9
      induction n9 with
      | zero => intro fX_sheet_x35 dX_sheet_x35 nX_sheet_x35 iX_sheetLength_x35 l1_x35 H locs ls b_fX_sheet_x35 b_nX_sheet_x35 b_iX_sheetLength_x35 b_l1_x35 b_shl_x35 hgm0_x35 hf9; exact False.elim (by omega)
      | succ n9 ihx35 =>
        intro fX_sheet_x35 dX_sheet_x35 nX_sheet_x35 iX_sheetLength_x35 l1_x35 H locs ls b_fX_sheet_x35 b_nX_sheet_x35 b_iX_sheetLength_x35 b_l1_x35 b_shl_x35 hgm0_x35 hfx35 hP hD hS hl
        refine lv_iload_n hx hb dX11_write_35 rfl (lv_at hl 0 rfl) ?_
        refine lv_aload_n hx hb dX11_write_36 rfl (lv_at hl 1 rfl) ?_
        refine va_get (D := (dC, dI)) (ci := 11) (v := .ref (hM 0)) (C := RX11) (T := TX11) (N := 11) hx hb hts iwsMX11_write_in11 hown hK hP 0 rfl rfl 2 (by decide) (hts _ hm_m_X11_write_1) (fun _ h9 => h9) rfl dX11_write_37 ?_
        refine va_get (D := (dC, dI)) (ci := 1) (v := .int iM_rows) (C := RX1) (T := TX1) (N := 17) hx hb hts iwsMX11_write_in1 hown hK hP 3 rfl rfl 2 (by decide) (hts (.fieldLink RX11 106 "OptimaWorks$Model" "rows" "I") (by decide +kernel)) (fun _ h9 => h9) rfl dX11_write_40 ?_
        refine lv_icmp_ge (tgt := 57) hx hb dX11_write_43 (by decide) (fun c_43 => ?_) (fun c_43 => ?_)
        · have t_43 : l1_x35.toInt ≥ iM_rows.toInt := toI_ge c_43 rfl rfl
          refine lv_iconst (v := 0) hx hb dX11_write_57 (by decide) ?_
          refine lv_istore_n hx hb dX11_write_58 rfl hl (by decide) rfl (fun ls (hl : lv_has ls _ ([(1, .int 0), (0, .ref (hX 0))])) => ?_)
          have hl : lv_has _ _ ([(1, .int 0), (0, .ref (hX 0))]) := lv_sub hl [0, 1] rfl
          refine (fun (loop : ∀ (n9 : Nat) (fX_sheet_x59 : Nat → Int32) (dX_sheet_x59 : Nat) (nX_sheet_x59 : Nat) (iX_sheetLength_x59 : Int32) (l1_x59 : Int32) (H : Heap) (locs : List Loc) (ls : Array Slot), (∀ q : Nat, (-128) ≤ (fX_sheet_x59 q).toInt ∧ (fX_sheet_x59 q).toInt ≤ 127) → (64 ≤ nX_sheet_x59 ∧ nX_sheet_x59 ≤ 60000) → (0 ≤ iX_sheetLength_x59.toInt ∧ iX_sheetLength_x59.toInt ≤ 30000) → (0 ≤ l1_x59.toInt ∧ l1_x59.toInt ≤ 8) → (iX_sheetLength_x59.toInt ≤ ((nX_sheet_x59 : Nat) : Int)) → (nX_sheet ≤ nX_sheet_x59) → (8 - l1_x59.toInt < ((n9 : Nat) : Int)) → va_P (dC, dI) vwCl (WX hX aX kX hT hM fX_ready fX_sheet_x59 dX_sheet_x59 nX_sheet_x59 iX_sheetLength_x59 xX_reader xX_solver xX_prover xX_values xX_clauses xX_nets ++ (WM hM aM kM iM_stands iM_variables iM_rows iM_goals iM_differents iM_cases fM_from fM_to fM_whole fM_ways iM_plainRows fM_plainRow fM_kept fM_goalOver fM_goalUnder fM_goalMax fM_different)) H → va_D A (WX hX aX kX hT hM fX_ready fX_sheet_x59 dX_sheet_x59 nX_sheet_x59 iX_sheetLength_x59 xX_reader xX_solver xX_prover xX_values xX_clauses xX_nets ++ (WM hM aM kM iM_stands iM_variables iM_rows iM_goals iM_differents iM_cases fM_from fM_to fM_whole fM_ways iM_plainRows fM_plainRow fM_kept fM_goalOver fM_goalUnder fM_goalMax fM_different)) → va_S A s.heap H locs → lv_has ls 2 [(1, .int l1_x59), (0, .ref (hX 0))] → W p l e _ s m _ below meth c H locs (nX_sheet_x59 / 32 - (nX_sheet / 32)) (2 * nX_sheet_x59 - (2 * nX_sheet)) _ (F0 m 59 ls [])) => loop (9) fX_sheet_x35 dX_sheet_x35 nX_sheet_x35 iX_sheetLength_x35 0 _ _ _ b_fX_sheet_x35 (by first | exact b_nX_sheet_x35 | with_reducible assumption | exact ⟨by omega, by omega⟩ | assumption) (b_iX_sheetLength_x35) (show 0 ≤ (0 : Int32).toInt ∧ (0 : Int32).toInt ≤ 8 from by decide) (by first | with_reducible assumption | omega | (rw [iI_t (by omega) (by omega)]; omega) | (have h7 : (0 : Int32).toInt = 0 := (by decide); omega)) (show nX_sheet ≤ nX_sheet_x35 from by omega) ((by have e9 : (0 : Int32).toInt = 0 := (by decide : (0 : Int32).toInt = 0); omega)) hP hD hS hl) ?_
          intro n9
          induction n9 with
          | zero => intro fX_sheet_x59 dX_sheet_x59 nX_sheet_x59 iX_sheetLength_x59 l1_x59 H locs ls b_fX_sheet_x59 b_nX_sheet_x59 b_iX_sheetLength_x59 b_l1_x59 b_shl_x59 hgm0_x59 hf9; exact False.elim (by omega)
          | succ n9 ihx59 =>
            intro fX_sheet_x59 dX_sheet_x59 nX_sheet_x59 iX_sheetLength_x59 l1_x59 H locs ls b_fX_sheet_x59 b_nX_sheet_x59 b_iX_sheetLength_x59 b_l1_x59 b_shl_x59 hgm0_x59 hfx59 hP hD hS hl
            refine lv_iload_n hx hb dX11_write_59 rfl (lv_at hl 0 rfl) ?_
            refine lv_aload_n hx hb dX11_write_60 rfl (lv_at hl 1 rfl) ?_
            refine va_get (D := (dC, dI)) (ci := 11) (v := .ref (hM 0)) (C := RX11) (T := TX11) (N := 11) hx hb hts iwsMX11_write_in11 hown hK hP 0 rfl rfl 2 (by decide) (hts _ hm_m_X11_write_1) (fun _ h9 => h9) rfl dX11_write_61 ?_
            refine va_get (D := (dC, dI)) (ci := 1) (v := .int iM_differents) (C := RX1) (T := TX1) (N := 17) hx hb hts iwsMX11_write_in1 hown hK hP 3 rfl rfl 4 (by decide) (hts (.fieldLink RX11 147 "OptimaWorks$Model" "differents" "I") (by decide +kernel)) (fun _ h9 => h9) rfl dX11_write_64 ?_
            refine lv_icmp_ge (tgt := 89) hx hb dX11_write_67 (by decide) (fun c_67 => ?_) (fun c_67 => ?_)
            · have t_67 : l1_x59.toInt ≥ iM_differents.toInt := toI_ge c_67 rfl rfl
              refine lv_iconst (v := 0) hx hb dX11_write_89 (by decide) ?_
              refine lv_istore_n hx hb dX11_write_90 rfl hl (by decide) rfl (fun ls (hl : lv_has ls _ ([(1, .int 0), (0, .ref (hX 0))])) => ?_)
              have hl : lv_has _ _ ([(1, .int 0), (0, .ref (hX 0))]) := lv_sub hl [0, 1] rfl
              refine (fun (loop : ∀ (n9 : Nat) (fX_sheet_x91 : Nat → Int32) (dX_sheet_x91 : Nat) (nX_sheet_x91 : Nat) (iX_sheetLength_x91 : Int32) (l1_x91 : Int32) (H : Heap) (locs : List Loc) (ls : Array Slot), (∀ q : Nat, (-128) ≤ (fX_sheet_x91 q).toInt ∧ (fX_sheet_x91 q).toInt ≤ 127) → (64 ≤ nX_sheet_x91 ∧ nX_sheet_x91 ≤ 60000) → (0 ≤ iX_sheetLength_x91.toInt ∧ iX_sheetLength_x91.toInt ≤ 30000) → (0 ≤ l1_x91.toInt ∧ l1_x91.toInt ≤ 3) → (iX_sheetLength_x91.toInt ≤ ((nX_sheet_x91 : Nat) : Int)) → (nX_sheet ≤ nX_sheet_x91) → (3 - l1_x91.toInt < ((n9 : Nat) : Int)) → va_P (dC, dI) vwCl (WX hX aX kX hT hM fX_ready fX_sheet_x91 dX_sheet_x91 nX_sheet_x91 iX_sheetLength_x91 xX_reader xX_solver xX_prover xX_values xX_clauses xX_nets ++ (WM hM aM kM iM_stands iM_variables iM_rows iM_goals iM_differents iM_cases fM_from fM_to fM_whole fM_ways iM_plainRows fM_plainRow fM_kept fM_goalOver fM_goalUnder fM_goalMax fM_different)) H → va_D A (WX hX aX kX hT hM fX_ready fX_sheet_x91 dX_sheet_x91 nX_sheet_x91 iX_sheetLength_x91 xX_reader xX_solver xX_prover xX_values xX_clauses xX_nets ++ (WM hM aM kM iM_stands iM_variables iM_rows iM_goals iM_differents iM_cases fM_from fM_to fM_whole fM_ways iM_plainRows fM_plainRow fM_kept fM_goalOver fM_goalUnder fM_goalMax fM_different)) → va_S A s.heap H locs → lv_has ls 2 [(1, .int l1_x91), (0, .ref (hX 0))] → W p l e _ s m _ below meth c H locs (nX_sheet_x91 / 32 - (nX_sheet / 32)) (2 * nX_sheet_x91 - (2 * nX_sheet)) _ (F0 m 91 ls [])) => loop (4) fX_sheet_x59 dX_sheet_x59 nX_sheet_x59 iX_sheetLength_x59 0 _ _ _ b_fX_sheet_x59 (by first | exact b_nX_sheet_x59 | with_reducible assumption | exact ⟨by omega, by omega⟩ | assumption) (b_iX_sheetLength_x59) (show 0 ≤ (0 : Int32).toInt ∧ (0 : Int32).toInt ≤ 3 from by decide) (by first | with_reducible assumption | omega | (rw [iI_t (by omega) (by omega)]; omega) | (have h7 : (0 : Int32).toInt = 0 := (by decide); omega)) (show nX_sheet ≤ nX_sheet_x59 from by omega) ((by have e9 : (0 : Int32).toInt = 0 := (by decide : (0 : Int32).toInt = 0); omega)) hP hD hS hl) ?_
              intro n9
              induction n9 with
              | zero => intro fX_sheet_x91 dX_sheet_x91 nX_sheet_x91 iX_sheetLength_x91 l1_x91 H locs ls b_fX_sheet_x91 b_nX_sheet_x91 b_iX_sheetLength_x91 b_l1_x91 b_shl_x91 hgm0_x91 hf9; exact False.elim (by omega)
              | succ n9 ihx91 =>
                intro fX_sheet_x91 dX_sheet_x91 nX_sheet_x91 iX_sheetLength_x91 l1_x91 H locs ls b_fX_sheet_x91 b_nX_sheet_x91 b_iX_sheetLength_x91 b_l1_x91 b_shl_x91 hgm0_x91 hfx91 hP hD hS hl
                refine lv_iload_n hx hb dX11_write_91 rfl (lv_at hl 0 rfl) ?_
                refine lv_aload_n hx hb dX11_write_92 rfl (lv_at hl 1 rfl) ?_
                refine va_get (D := (dC, dI)) (ci := 11) (v := .ref (hM 0)) (C := RX11) (T := TX11) (N := 11) hx hb hts iwsMX11_write_in11 hown hK hP 0 rfl rfl 2 (by decide) (hts _ hm_m_X11_write_1) (fun _ h9 => h9) rfl dX11_write_93 ?_
                refine va_get (D := (dC, dI)) (ci := 1) (v := .int iM_goals) (C := RX1) (T := TX1) (N := 17) hx hb hts iwsMX11_write_in1 hown hK hP 3 rfl rfl 3 (by decide) (hts (.fieldLink RX11 123 "OptimaWorks$Model" "goals" "I") (by decide +kernel)) (fun _ h9 => h9) rfl dX11_write_96 ?_
                refine lv_icmp_ge (tgt := 113) hx hb dX11_write_99 (by decide) (fun c_99 => ?_) (fun c_99 => ?_)
                · have t_99 : l1_x91.toInt ≥ iM_goals.toInt := toI_ge c_99 rfl rfl
                  refine lv_aload_n hx hb dX11_write_113 rfl (lv_at hl 1 rfl) ?_
                  refine va_get (D := (dC, dI)) (ci := 11) (v := .int iX_sheetLength_x91) (C := RX11) (T := TX11) (N := 11) hx hb hts iwsMX11_write_in11 hown hK hP 0 rfl rfl 4 (by decide) (hts _ hm_m_X11_write_0) (fun _ h9 => h9) rfl dX11_write_114 ?_
                  refine vx_ret ?_
                  refine W.known (fun hz9 hn9 => ?_)
                  refine W.widen (k := 13126) (n := 900000) (by omega) (by omega) ?_
                  exact W.iret (v := iX_sheetLength_x91) hx hb hr (fun t9_ ht hW => ⟨⟨iX_sheetLength_x91, (fX_sheet_x91, dX_sheet_x91, nX_sheet_x91, iX_sheetLength_x91), rfl, ⟨b_fX_sheet_x91, (by (try dsimp only); exact (by first | exact b_nX_sheet_x91 | with_reducible assumption | exact ⟨by omega, by omega⟩ | assumption)), b_iX_sheetLength_x91, (by (try dsimp only); exact (by first | with_reducible assumption | omega | (rw [iI_t (by omega) (by omega)]; omega) | (have h7 : (0 : Int32).toInt = 0 := (by decide); omega))), (by (try dsimp only); omega)⟩, by rw [ht]; exact hP, hD, by rw [ht]; (try dsimp only); omega, by rw [ht]; (try dsimp only); omega⟩, hS.F ht⟩) hS.2.2 dX11_write_117
                · have t_99 : ¬ l1_x91.toInt ≥ iM_goals.toInt := toI_nge c_99 rfl rfl
                  refine lv_aload_n hx hb dX11_write_102 rfl (lv_at hl 1 rfl) ?_
                  refine lv_iload_n hx hb dX11_write_103 rfl (lv_at hl 0 rfl) ?_
                  refine W.known (fun hz0 hn0 => ?_)
                  have hS0 := hS.1
                  have hFc := allFree hD hS hA
                  refine va_callv (va_runV (As := [.int l1_x91]) (rest := []) ⟨hx, hb, hml, hown, hts⟩ (Met.sV (m_X11_putGoal l hst dC dI hX aX kX hT hM fX_ready fX_sheet_x91 dX_sheet_x91 nX_sheet_x91 iX_sheetLength_x91 xX_reader xX_solver xX_prover xX_values xX_clauses xX_nets aM kM iM_stands iM_variables iM_rows iM_goals iM_differents iM_cases fM_from fM_to fM_whole fM_ways iM_plainRows fM_plainRow fM_kept fM_goalOver fM_goalUnder fM_goalMax fM_different l1_x91 b_fX_sheet_x91 (by first | exact b_nX_sheet_x91 | with_reducible assumption | exact ⟨by omega, by omega⟩ | assumption) (b_iX_sheetLength_x91) (by first | with_reducible assumption | omega | (rw [iI_t (by omega) (by omega)]; omega) | (have h7 : (0 : Int32).toInt = 0 := (by decide); omega)) (b_iM_stands) (b_iM_variables) (b_iM_rows) (b_iM_goals) (b_iM_differents) (b_iM_cases) b_fM_ways (b_iM_plainRows) b_fM_plainRow (by first | with_reducible assumption | omega | assumption) (by first | exact b_l1_x91 | with_reducible assumption | exact ⟨by omega, by omega⟩ | assumption) H.size) H) (cwV 1 hts gwsMX11_write_4 rfl rfl rfl (by decide +kernel) ⟨by first | decide +kernel | (dsimp only [headSpec] <;> omega), by first | decide +kernel | (dsimp only [headSpec] <;> omega)⟩) ⟨fun a U g mk q => by obtain ⟨q0, qh, q1, qP, qK, qD, qE⟩ := q; exact ⟨q0, qh, q1, qP, va_K.moved (u := U) (U := U.calling g mk a) (Vm.Alike.refl U.vm) qK, qD, qE.call⟩, va_recv hK hP (ci := 11) (q0 := 0) rfl rfl, fun U hU9 hW => ⟨rfl, hU9, by rw [hU9], by rw [hU9]; exact hP, va_K.moved hW.alike hK, hD.weaken (fun _ _ _ _ => trivial), by rw [hU9]; exact (((hE : CE A s s.heap).kept hS.2.1).narrow (fun q h => hFc q h)).warm hW⟩⟩ rfl rfl hl.1 rfl (lv_room (Nat.le_of_ble_eq_true rfl)) dX11_write_104 ⟨by first | decide +kernel | (dsimp only [headSpec] <;> omega), by first | decide +kernel | (dsimp only [headSpec] <;> omega)⟩) hS (fun q _ h => hFc q h) hFc (fun u t9_ H locs ht hvm hw9 hB9 hz1 hk1 hS => ?_)
                  revert u hw9 hB9
                  refine fz_p4 ?_
                  intro fX_sheet_291 dX_sheet_291 nX_sheet_291 iX_sheetLength_291 hw9 hB9
                  try dsimp only at hw9 hB9
                  revert hw9
                  refine fz_a6 ?_
                  intro b_fX_sheet_291 b_nX_sheet_291 b_iX_sheetLength_291 b_shl_291 f291_0 f291_1
                  have hg1 := hB9.1.2.2.1
                  rw [ht] at hg1
                  have hg2 := hB9.1.2.2.2
                  rw [ht] at hg2
                  have hSz := hB9.2
                  rw [ht] at hSz
                  have hP : va_P (dC, dI) vwCl (WX hX aX kX hT hM fX_ready fX_sheet_291 dX_sheet_291 nX_sheet_291 iX_sheetLength_291 xX_reader xX_solver xX_prover xX_values xX_clauses xX_nets ++ (WM hM aM kM iM_stands iM_variables iM_rows iM_goals iM_differents iM_cases fM_from fM_to fM_whole fM_ways iM_plainRows fM_plainRow fM_kept fM_goalOver fM_goalUnder fM_goalMax fM_different)) H := fz_P ht hB9.1.1
                  have hD := fz_sd hP (hB9.1.2.1.weaken (fun _ q _ h => hFc q.1 h)) rfl
                  have hz9 : H.size ≤ s.heap.size + (nX_sheet_291 / 32 - (nX_sheet / 32)) := by (try dsimp only at hg1); omega
                  have hn9 : nS s.heap.size H ≤ (2 * nX_sheet_291 - (2 * nX_sheet)) := by rw [hSz.n hS0]; (try dsimp only at hg2); omega
                  refine W.tight (cells2 := (nX_sheet_291 / 32 - (nX_sheet / 32))) (slots2 := (2 * nX_sheet_291 - (2 * nX_sheet))) hz9 hn9 ?_
                  clear hz9 hn9 hz0 hn0 hS0 hSz hg1 hg2
                  refine lv_iinc (v := (iI (l1_x91.toInt + 1))) hx hb dX11_write_107 hl (k := 0) rfl (iI_add2 (iI_of _) (by decide : (1 : Int32) = iI 1)) (by decide) rfl (fun ls (hl : lv_has ls _ ([(1, .int (iI (l1_x91.toInt + 1))), (0, .ref (hX 0))])) => ?_)
                  refine lv_goto (tgt := 91) hx hb dX11_write_110 (by decide) ?_
                  have hl : lv_has _ _ ([(1, .int (iI (l1_x91.toInt + 1))), (0, .ref (hX 0))]) := lv_sub hl [0, 1] rfl
                  exact ihx91 fX_sheet_291 dX_sheet_291 nX_sheet_291 iX_sheetLength_291 (iI (l1_x91.toInt + 1)) _ _ _ b_fX_sheet_291 (by first | exact b_nX_sheet_291 | with_reducible assumption | exact ⟨by omega, by omega⟩ | assumption) (b_iX_sheetLength_291) (iI_rng (Int.le_trans (by decide) (Int.add_le_add (b_l1_x91.1) (Int.le_refl _))) (by omega) (by decide) (by decide)) (by first | with_reducible assumption | omega | (rw [iI_t (by omega) (by omega)]; omega) | (have h7 : (0 : Int32).toInt = 0 := (by decide); omega)) (show nX_sheet ≤ nX_sheet_291 from by omega) (by have e9 : ((iI (l1_x91.toInt + 1))).toInt = (l1_x91.toInt + 1) := (iI_t (Int.le_trans (by decide) (Int.add_le_add (b_l1_x91.1) (Int.le_refl _))) (Int.le_trans (Int.add_le_add (b_l1_x91.2) (Int.le_refl _)) (by decide))); omega) hP hD hS hl
            · have t_67 : ¬ l1_x59.toInt ≥ iM_differents.toInt := toI_nge c_67 rfl rfl
              refine lv_aload_n hx hb dX11_write_70 rfl (lv_at hl 1 rfl) ?_
              refine lv_aload_n hx hb dX11_write_71 rfl (lv_at hl 1 rfl) ?_
              refine va_get (D := (dC, dI)) (ci := 11) (v := .ref (hM 0)) (C := RX11) (T := TX11) (N := 11) hx hb hts iwsMX11_write_in11 hown hK hP 0 rfl rfl 2 (by decide) (hts _ hm_m_X11_write_1) (fun _ h9 => h9) rfl dX11_write_72 ?_
              refine va_get (D := (dC, dI)) (ci := 1) (v := .ref (aM 9)) (C := RX1) (T := TX1) (N := 17) hx hb hts iwsMX11_write_in1 hown hK hP 3 rfl rfl 16 (by decide) (hts (.fieldLink RX11 150 "OptimaWorks$Model" "different" "[I") (by decide +kernel)) (fun _ h9 => h9) rfl dX11_write_75 ?_
              refine lv_iload_n hx hb dX11_write_78 rfl (lv_at hl 0 rfl) ?_
              refine va_iald (cA := kM 9) (n := 8) (f := fM_different) hx hb hK hP 13 11 rfl rfl (vp_in_iff.mpr ⟨b_l1_x59.1, (Int.lt_of_lt_of_le (Int.not_le.mp t_67) (Int.le_trans b_iM_differents.2 (by decide)))⟩) dX11_write_79 ?_
              refine lv_topi (fun v292 hv292 => ?_)
              clear hv292
              refine W.known (fun hz0 hn0 => ?_)
              have hS0 := hS.1
              have p9 := cj_2_0 (WX hX aX kX hT hM fX_ready fX_sheet_x59 dX_sheet_x59 nX_sheet_x59 iX_sheetLength_x59 xX_reader xX_solver xX_prover xX_values xX_clauses xX_nets) (WM hM aM kM iM_stands iM_variables iM_rows iM_goals iM_differents iM_cases fM_from fM_to fM_whole fM_ways iM_plainRows fM_plainRow fM_kept fM_goalOver fM_goalUnder fM_goalMax fM_different)
              have hPc := hP.mem (fun q h => p9.mem_iff.mpr (List.mem_append_left _ h))
              have hDc := (hD.perm p9).left
              have hKc : va_K (dC, dI) vwCl (tX kX) _ := hK.sub [0, 1] rfl
              have hFc := freeG p9 hD hS hA
              refine va_callv (va_runV (As := [.int v292]) (rest := []) ⟨hx, hb, hml, hown, hts⟩ (Met.sV (m_X11_putDifferent l hst dC dI hX aX kX hT hM fX_ready fX_sheet_x59 dX_sheet_x59 nX_sheet_x59 iX_sheetLength_x59 xX_reader xX_solver xX_prover xX_values xX_clauses xX_nets v292 b_fX_sheet_x59 (by first | exact b_nX_sheet_x59 | with_reducible assumption | exact ⟨by omega, by omega⟩ | assumption) (b_iX_sheetLength_x59) (by first | with_reducible assumption | omega | (rw [iI_t (by omega) (by omega)]; omega) | (have h7 : (0 : Int32).toInt = 0 := (by decide); omega)) H.size) H) (cwV 1 hts gwsMX11_write_3 rfl rfl rfl (by decide +kernel) ⟨by first | decide +kernel | (dsimp only [headSpec] <;> omega), by first | decide +kernel | (dsimp only [headSpec] <;> omega)⟩) ⟨fun a U g mk q => by obtain ⟨q0, qh, q1, qP, qK, qD, qE⟩ := q; exact ⟨q0, qh, q1, qP, va_K.moved (u := U) (U := U.calling g mk a) (Vm.Alike.refl U.vm) qK, qD, qE.call⟩, va_recv hK hP (ci := 11) (q0 := 0) rfl rfl, fun U hU9 hW => ⟨rfl, hU9, by rw [hU9], by rw [hU9]; exact hPc, va_K.moved hW.alike hKc, hDc.weaken (fun _ _ _ _ => trivial), by rw [hU9]; exact (((hE : CE A s s.heap).kept hS.2.1).narrow (fun q h => hFc q h)).warm hW⟩⟩ rfl rfl hl.1 rfl (lv_room (Nat.le_of_ble_eq_true rfl)) dX11_write_80 ⟨by first | decide +kernel | (dsimp only [headSpec] <;> omega), by first | decide +kernel | (dsimp only [headSpec] <;> omega)⟩) hS (fun q _ h => hFc q h) hFc (fun u t9_ H locs ht hvm hw9 hB9 hz1 hk1 hS => ?_)
              revert u hw9 hB9
              refine fz_p4 ?_
              intro fX_sheet_293 dX_sheet_293 nX_sheet_293 iX_sheetLength_293 hw9 hB9
              try dsimp only at hw9 hB9
              revert hw9
              refine fz_a6 ?_
              intro b_fX_sheet_293 b_nX_sheet_293 b_iX_sheetLength_293 b_shl_293 f293_0 f293_1
              have hg1 := hB9.1.2.2.1
              rw [ht] at hg1
              have hg2 := hB9.1.2.2.2
              rw [ht] at hg2
              have hSz := hB9.2
              rw [ht] at hSz
              have p8 := cj_2_0 (WX hX aX kX hT hM fX_ready fX_sheet_293 dX_sheet_293 nX_sheet_293 iX_sheetLength_293 xX_reader xX_solver xX_prover xX_values xX_clauses xX_nets) (WM hM aM kM iM_stands iM_variables iM_rows iM_goals iM_differents iM_cases fM_from fM_to fM_whole fM_ways iM_plainRows fM_plainRow fM_kept fM_goalOver fM_goalUnder fM_goalMax fM_different)
              obtain ⟨hP, hD⟩ := frameG p9 p8 hP hD hk1 hFc (fz_P ht hB9.1.1) hB9.1.2.1
              have hz9 : H.size ≤ s.heap.size + (nX_sheet_293 / 32 - (nX_sheet / 32)) := by (try dsimp only at hg1); omega
              have hn9 : nS s.heap.size H ≤ (2 * nX_sheet_293 - (2 * nX_sheet)) := by rw [hSz.n hS0]; (try dsimp only at hg2); omega
              refine W.tight (cells2 := (nX_sheet_293 / 32 - (nX_sheet / 32))) (slots2 := (2 * nX_sheet_293 - (2 * nX_sheet))) hz9 hn9 ?_
              clear hz9 hn9 hz0 hn0 hS0 hSz hg1 hg2
              refine lv_iinc (v := (iI (l1_x59.toInt + 1))) hx hb dX11_write_83 hl (k := 0) rfl (iI_add2 (iI_of _) (by decide : (1 : Int32) = iI 1)) (by decide) rfl (fun ls (hl : lv_has ls _ ([(1, .int (iI (l1_x59.toInt + 1))), (0, .ref (hX 0))])) => ?_)
              refine lv_goto (tgt := 59) hx hb dX11_write_86 (by decide) ?_
              have hl : lv_has _ _ ([(1, .int (iI (l1_x59.toInt + 1))), (0, .ref (hX 0))]) := lv_sub hl [0, 1] rfl
              exact ihx59 fX_sheet_293 dX_sheet_293 nX_sheet_293 iX_sheetLength_293 (iI (l1_x59.toInt + 1)) _ _ _ b_fX_sheet_293 (by first | exact b_nX_sheet_293 | with_reducible assumption | exact ⟨by omega, by omega⟩ | assumption) (b_iX_sheetLength_293) (iI_rng (Int.le_trans (by decide) (Int.add_le_add (b_l1_x59.1) (Int.le_refl _))) (by omega) (by decide) (by decide)) (by first | with_reducible assumption | omega | (rw [iI_t (by omega) (by omega)]; omega) | (have h7 : (0 : Int32).toInt = 0 := (by decide); omega)) (show nX_sheet ≤ nX_sheet_293 from by omega) (by have e9 : ((iI (l1_x59.toInt + 1))).toInt = (l1_x59.toInt + 1) := (iI_t (Int.le_trans (by decide) (Int.add_le_add (b_l1_x59.1) (Int.le_refl _))) (Int.le_trans (Int.add_le_add (b_l1_x59.2) (Int.le_refl _)) (by decide))); omega) hP hD hS hl
        · have t_43 : ¬ l1_x35.toInt ≥ iM_rows.toInt := toI_nge c_43 rfl rfl
          refine lv_aload_n hx hb dX11_write_46 rfl (lv_at hl 1 rfl) ?_
          refine lv_iload_n hx hb dX11_write_47 rfl (lv_at hl 0 rfl) ?_
          refine W.known (fun hz0 hn0 => ?_)
          have hS0 := hS.1
          have hFc := allFree hD hS hA
          refine va_callv (va_runV (As := [.int l1_x35]) (rest := []) ⟨hx, hb, hml, hown, hts⟩ (Met.sV (m_X11_putRow l hst dC dI hX aX kX hT hM fX_ready fX_sheet_x35 dX_sheet_x35 nX_sheet_x35 iX_sheetLength_x35 xX_reader xX_solver xX_prover xX_values xX_clauses xX_nets aM kM iM_stands iM_variables iM_rows iM_goals iM_differents iM_cases fM_from fM_to fM_whole fM_ways iM_plainRows fM_plainRow fM_kept fM_goalOver fM_goalUnder fM_goalMax fM_different l1_x35 b_fX_sheet_x35 (by first | exact b_nX_sheet_x35 | with_reducible assumption | exact ⟨by omega, by omega⟩ | assumption) (b_iX_sheetLength_x35) (by first | with_reducible assumption | omega | (rw [iI_t (by omega) (by omega)]; omega) | (have h7 : (0 : Int32).toInt = 0 := (by decide); omega)) (b_iM_stands) (b_iM_variables) (b_iM_rows) (b_iM_goals) (b_iM_differents) (b_iM_cases) b_fM_ways (b_iM_plainRows) b_fM_plainRow (by first | with_reducible assumption | omega | assumption) (by first | exact b_l1_x35 | with_reducible assumption | exact ⟨by omega, by omega⟩ | assumption) H.size) H) (cwV 1 hts gwsMX11_write_2 rfl rfl rfl (by decide +kernel) ⟨by first | decide +kernel | (dsimp only [headSpec] <;> omega), by first | decide +kernel | (dsimp only [headSpec] <;> omega)⟩) ⟨fun a U g mk q => by obtain ⟨q0, qh, q1, qP, qK, qD, qE⟩ := q; exact ⟨q0, qh, q1, qP, va_K.moved (u := U) (U := U.calling g mk a) (Vm.Alike.refl U.vm) qK, qD, qE.call⟩, va_recv hK hP (ci := 11) (q0 := 0) rfl rfl, fun U hU9 hW => ⟨rfl, hU9, by rw [hU9], by rw [hU9]; exact hP, va_K.moved hW.alike hK, hD.weaken (fun _ _ _ _ => trivial), by rw [hU9]; exact (((hE : CE A s s.heap).kept hS.2.1).narrow (fun q h => hFc q h)).warm hW⟩⟩ rfl rfl hl.1 rfl (lv_room (Nat.le_of_ble_eq_true rfl)) dX11_write_48 ⟨by first | decide +kernel | (dsimp only [headSpec] <;> omega), by first | decide +kernel | (dsimp only [headSpec] <;> omega)⟩) hS (fun q _ h => hFc q h) hFc (fun u t9_ H locs ht hvm hw9 hB9 hz1 hk1 hS => ?_)
          revert u hw9 hB9
          refine fz_p4 ?_
          intro fX_sheet_294 dX_sheet_294 nX_sheet_294 iX_sheetLength_294 hw9 hB9
          try dsimp only at hw9 hB9
          revert hw9
          refine fz_a6 ?_
          intro b_fX_sheet_294 b_nX_sheet_294 b_iX_sheetLength_294 b_shl_294 f294_0 f294_1
          have hg1 := hB9.1.2.2.1
          rw [ht] at hg1
          have hg2 := hB9.1.2.2.2
          rw [ht] at hg2
          have hSz := hB9.2
          rw [ht] at hSz
          have hP : va_P (dC, dI) vwCl (WX hX aX kX hT hM fX_ready fX_sheet_294 dX_sheet_294 nX_sheet_294 iX_sheetLength_294 xX_reader xX_solver xX_prover xX_values xX_clauses xX_nets ++ (WM hM aM kM iM_stands iM_variables iM_rows iM_goals iM_differents iM_cases fM_from fM_to fM_whole fM_ways iM_plainRows fM_plainRow fM_kept fM_goalOver fM_goalUnder fM_goalMax fM_different)) H := fz_P ht hB9.1.1
          have hD := fz_sd hP (hB9.1.2.1.weaken (fun _ q _ h => hFc q.1 h)) rfl
          have hz9 : H.size ≤ s.heap.size + (nX_sheet_294 / 32 - (nX_sheet / 32)) := by (try dsimp only at hg1); omega
          have hn9 : nS s.heap.size H ≤ (2 * nX_sheet_294 - (2 * nX_sheet)) := by rw [hSz.n hS0]; (try dsimp only at hg2); omega
          refine W.tight (cells2 := (nX_sheet_294 / 32 - (nX_sheet / 32))) (slots2 := (2 * nX_sheet_294 - (2 * nX_sheet))) hz9 hn9 ?_
          clear hz9 hn9 hz0 hn0 hS0 hSz hg1 hg2
          refine lv_iinc (v := (iI (l1_x35.toInt + 1))) hx hb dX11_write_51 hl (k := 0) rfl (iI_add2 (iI_of _) (by decide : (1 : Int32) = iI 1)) (by decide) rfl (fun ls (hl : lv_has ls _ ([(1, .int (iI (l1_x35.toInt + 1))), (0, .ref (hX 0))])) => ?_)
          refine lv_goto (tgt := 35) hx hb dX11_write_54 (by decide) ?_
          have hl : lv_has _ _ ([(1, .int (iI (l1_x35.toInt + 1))), (0, .ref (hX 0))]) := lv_sub hl [0, 1] rfl
          exact ihx35 fX_sheet_294 dX_sheet_294 nX_sheet_294 iX_sheetLength_294 (iI (l1_x35.toInt + 1)) _ _ _ b_fX_sheet_294 (by first | exact b_nX_sheet_294 | with_reducible assumption | exact ⟨by omega, by omega⟩ | assumption) (b_iX_sheetLength_294) (iI_rng (Int.le_trans (by decide) (Int.add_le_add (b_l1_x35.1) (Int.le_refl _))) (by omega) (by decide) (by decide)) (by first | with_reducible assumption | omega | (rw [iI_t (by omega) (by omega)]; omega) | (have h7 : (0 : Int32).toInt = 0 := (by decide); omega)) (show nX_sheet ≤ nX_sheet_294 from by omega) (by have e9 : ((iI (l1_x35.toInt + 1))).toInt = (l1_x35.toInt + 1) := (iI_t (Int.le_trans (by decide) (Int.add_le_add (b_l1_x35.1) (Int.le_refl _))) (Int.le_trans (Int.add_le_add (b_l1_x35.2) (Int.le_refl _)) (by decide))); omega) hP hD hS hl
    · have t_19 : ¬ l1_x11.toInt ≥ iM_variables.toInt := toI_nge c_19 rfl rfl
      refine lv_aload_n hx hb dX11_write_22 rfl (lv_at hl 1 rfl) ?_
      refine lv_iload_n hx hb dX11_write_23 rfl (lv_at hl 0 rfl) ?_
      refine W.known (fun hz0 hn0 => ?_)
      have hS0 := hS.1
      have hFc := allFree hD hS hA
      refine va_callv (va_runV (As := [.int l1_x11]) (rest := []) ⟨hx, hb, hml, hown, hts⟩ (Met.sV (m_X11_putVariable l hst dC dI hX aX kX hT hM fX_ready fX_sheet_x11 dX_sheet_x11 nX_sheet_x11 iX_sheetLength_x11 xX_reader xX_solver xX_prover xX_values xX_clauses xX_nets aM kM iM_stands iM_variables iM_rows iM_goals iM_differents iM_cases fM_from fM_to fM_whole fM_ways iM_plainRows fM_plainRow fM_kept fM_goalOver fM_goalUnder fM_goalMax fM_different l1_x11 b_fX_sheet_x11 (by first | exact b_nX_sheet_x11 | with_reducible assumption | exact ⟨by omega, by omega⟩ | assumption) (b_iX_sheetLength_x11) (by first | with_reducible assumption | omega | (rw [iI_t (by omega) (by omega)]; omega) | (have h7 : (0 : Int32).toInt = 0 := (by decide); omega)) (b_iM_stands) (b_iM_variables) (b_iM_rows) (b_iM_goals) (b_iM_differents) (b_iM_cases) b_fM_ways (b_iM_plainRows) b_fM_plainRow (by first | with_reducible assumption | omega | assumption) (by first | exact b_l1_x11 | with_reducible assumption | exact ⟨by omega, by omega⟩ | assumption) H.size) H) (cwV 1 hts gwsMX11_write_1 rfl rfl rfl (by decide +kernel) ⟨by first | decide +kernel | (dsimp only [headSpec] <;> omega), by first | decide +kernel | (dsimp only [headSpec] <;> omega)⟩) ⟨fun a U g mk q => by obtain ⟨q0, qh, q1, qP, qK, qD, qE⟩ := q; exact ⟨q0, qh, q1, qP, va_K.moved (u := U) (U := U.calling g mk a) (Vm.Alike.refl U.vm) qK, qD, qE.call⟩, va_recv hK hP (ci := 11) (q0 := 0) rfl rfl, fun U hU9 hW => ⟨rfl, hU9, by rw [hU9], by rw [hU9]; exact hP, va_K.moved hW.alike hK, hD.weaken (fun _ _ _ _ => trivial), by rw [hU9]; exact (((hE : CE A s s.heap).kept hS.2.1).narrow (fun q h => hFc q h)).warm hW⟩⟩ rfl rfl hl.1 rfl (lv_room (Nat.le_of_ble_eq_true rfl)) dX11_write_24 ⟨by first | decide +kernel | (dsimp only [headSpec] <;> omega), by first | decide +kernel | (dsimp only [headSpec] <;> omega)⟩) hS (fun q _ h => hFc q h) hFc (fun u t9_ H locs ht hvm hw9 hB9 hz1 hk1 hS => ?_)
      revert u hw9 hB9
      refine fz_p4 ?_
      intro fX_sheet_295 dX_sheet_295 nX_sheet_295 iX_sheetLength_295 hw9 hB9
      try dsimp only at hw9 hB9
      revert hw9
      refine fz_a6 ?_
      intro b_fX_sheet_295 b_nX_sheet_295 b_iX_sheetLength_295 b_shl_295 f295_0 f295_1
      have hg1 := hB9.1.2.2.1
      rw [ht] at hg1
      have hg2 := hB9.1.2.2.2
      rw [ht] at hg2
      have hSz := hB9.2
      rw [ht] at hSz
      have hP : va_P (dC, dI) vwCl (WX hX aX kX hT hM fX_ready fX_sheet_295 dX_sheet_295 nX_sheet_295 iX_sheetLength_295 xX_reader xX_solver xX_prover xX_values xX_clauses xX_nets ++ (WM hM aM kM iM_stands iM_variables iM_rows iM_goals iM_differents iM_cases fM_from fM_to fM_whole fM_ways iM_plainRows fM_plainRow fM_kept fM_goalOver fM_goalUnder fM_goalMax fM_different)) H := fz_P ht hB9.1.1
      have hD := fz_sd hP (hB9.1.2.1.weaken (fun _ q _ h => hFc q.1 h)) rfl
      have hz9 : H.size ≤ s.heap.size + (nX_sheet_295 / 32 - (nX_sheet / 32)) := by (try dsimp only at hg1); omega
      have hn9 : nS s.heap.size H ≤ (2 * nX_sheet_295 - (2 * nX_sheet)) := by rw [hSz.n hS0]; (try dsimp only at hg2); omega
      refine W.tight (cells2 := (nX_sheet_295 / 32 - (nX_sheet / 32))) (slots2 := (2 * nX_sheet_295 - (2 * nX_sheet))) hz9 hn9 ?_
      clear hz9 hn9 hz0 hn0 hS0 hSz hg1 hg2
      refine lv_iinc (v := (iI (l1_x11.toInt + 1))) hx hb dX11_write_27 hl (k := 0) rfl (iI_add2 (iI_of _) (by decide : (1 : Int32) = iI 1)) (by decide) rfl (fun ls (hl : lv_has ls _ ([(1, .int (iI (l1_x11.toInt + 1))), (0, .ref (hX 0))])) => ?_)
      refine lv_goto (tgt := 11) hx hb dX11_write_30 (by decide) ?_
      have hl : lv_has _ _ ([(1, .int (iI (l1_x11.toInt + 1))), (0, .ref (hX 0))]) := lv_sub hl [0, 1] rfl
      exact ihx11 fX_sheet_295 dX_sheet_295 nX_sheet_295 iX_sheetLength_295 (iI (l1_x11.toInt + 1)) _ _ _ b_fX_sheet_295 (by first | exact b_nX_sheet_295 | with_reducible assumption | exact ⟨by omega, by omega⟩ | assumption) (b_iX_sheetLength_295) (iI_rng (Int.le_trans (by decide) (Int.add_le_add (b_l1_x11.1) (Int.le_refl _))) (by omega) (by decide) (by decide)) (by first | with_reducible assumption | omega | (rw [iI_t (by omega) (by omega)]; omega) | (have h7 : (0 : Int32).toInt = 0 := (by decide); omega)) (show nX_sheet ≤ nX_sheet_295 from by omega) (by have e9 : ((iI (l1_x11.toInt + 1))).toInt = (l1_x11.toInt + 1) := (iI_t (Int.le_trans (by decide) (Int.add_le_add (b_l1_x11.1) (Int.le_refl _))) (Int.le_trans (Int.add_le_add (b_l1_x11.2) (Int.le_refl _)) (by decide))); omega) hP hD hS hl
end
section
theorem hd_yX11_theNets_RX11 : yX11_theNets.cls = RX11 ∧ yX11_theNets.cls ≠ "java/lang/invoke/MethodHandle" ∧ yX11_theNets.cls ≠ "java/lang/invoke/VarHandle" ∧ (parseMethodDescriptor yX11_theNets.desc).map (fun d => d.parameters.length) = some 0 := by decide +kernel
theorem hd_yX2_addArc_RX2 : yX2_addArc.cls = RX2 ∧ yX2_addArc.cls ≠ "java/lang/invoke/MethodHandle" ∧ yX2_addArc.cls ≠ "java/lang/invoke/VarHandle" ∧ (parseMethodDescriptor yX2_addArc.desc).map (fun d => d.parameters.length) = some 4 := by decide +kernel
theorem hd_yX2_dropArc_RX2 : yX2_dropArc.cls = RX2 ∧ yX2_dropArc.cls ≠ "java/lang/invoke/MethodHandle" ∧ yX2_dropArc.cls ≠ "java/lang/invoke/VarHandle" ∧ (parseMethodDescriptor yX2_dropArc.desc).map (fun d => d.parameters.length) = some 0 := by decide +kernel
theorem hd_yX2_fill_RX2 : yX2_fill.cls = RX2 ∧ yX2_fill.cls ≠ "java/lang/invoke/MethodHandle" ∧ yX2_fill.cls ≠ "java/lang/invoke/VarHandle" ∧ (parseMethodDescriptor yX2_fill.desc).map (fun d => d.parameters.length) = some 2 := by decide +kernel
theorem hd_yX2_leastCost_RX2 : yX2_leastCost.cls = RX2 ∧ yX2_leastCost.cls ≠ "java/lang/invoke/MethodHandle" ∧ yX2_leastCost.cls ≠ "java/lang/invoke/VarHandle" ∧ (parseMethodDescriptor yX2_leastCost.desc).map (fun d => d.parameters.length) = some 3 := by decide +kernel
theorem hd_yX2_shortest_RX2 : yX2_shortest.cls = RX2 ∧ yX2_shortest.cls ≠ "java/lang/invoke/MethodHandle" ∧ yX2_shortest.cls ≠ "java/lang/invoke/VarHandle" ∧ (parseMethodDescriptor yX2_shortest.desc).map (fun d => d.parameters.length) = some 3 := by decide +kernel
theorem hd_yX2_treeArcs_RX2 : yX2_treeArcs.cls = RX2 ∧ yX2_treeArcs.cls ≠ "java/lang/invoke/MethodHandle" ∧ yX2_treeArcs.cls ≠ "java/lang/invoke/VarHandle" ∧ (parseMethodDescriptor yX2_treeArcs.desc).map (fun d => d.parameters.length) = some 0 := by decide +kernel
theorem hd_yX2_round_RX2 : yX2_round.cls = RX2 ∧ yX2_round.cls ≠ "java/lang/invoke/MethodHandle" ∧ yX2_round.cls ≠ "java/lang/invoke/VarHandle" ∧ (parseMethodDescriptor yX2_round.desc).map (fun d => d.parameters.length) = some 2 := by decide +kernel
theorem hd_yX11_theClauses_RX11 : yX11_theClauses.cls = RX11 ∧ yX11_theClauses.cls ≠ "java/lang/invoke/MethodHandle" ∧ yX11_theClauses.cls ≠ "java/lang/invoke/VarHandle" ∧ (parseMethodDescriptor yX11_theClauses.desc).map (fun d => d.parameters.length) = some 0 := by decide +kernel
theorem hd_yX0_addClause_RX0 : yX0_addClause.cls = RX0 ∧ yX0_addClause.cls ≠ "java/lang/invoke/MethodHandle" ∧ yX0_addClause.cls ≠ "java/lang/invoke/VarHandle" ∧ (parseMethodDescriptor yX0_addClause.desc).map (fun d => d.parameters.length) = some 3 := by decide +kernel
theorem hd_yX0_dropClause_RX0 : yX0_dropClause.cls = RX0 ∧ yX0_dropClause.cls ≠ "java/lang/invoke/MethodHandle" ∧ yX0_dropClause.cls ≠ "java/lang/invoke/VarHandle" ∧ (parseMethodDescriptor yX0_dropClause.desc).map (fun d => d.parameters.length) = some 0 := by decide +kernel
theorem hd_yX0_least_RX0 : yX0_least.cls = RX0 ∧ yX0_least.cls ≠ "java/lang/invoke/MethodHandle" ∧ yX0_least.cls ≠ "java/lang/invoke/VarHandle" ∧ (parseMethodDescriptor yX0_least.desc).map (fun d => d.parameters.length) = some 1 := by decide +kernel
theorem hd_yX0_models_RX0 : yX0_models.cls = RX0 ∧ yX0_models.cls ≠ "java/lang/invoke/MethodHandle" ∧ yX0_models.cls ≠ "java/lang/invoke/VarHandle" ∧ (parseMethodDescriptor yX0_models.desc).map (fun d => d.parameters.length) = some 0 := by decide +kernel
theorem hd_yX0_core_RX0 : yX0_core.cls = RX0 ∧ yX0_core.cls ≠ "java/lang/invoke/MethodHandle" ∧ yX0_core.cls ≠ "java/lang/invoke/VarHandle" ∧ (parseMethodDescriptor yX0_core.desc).map (fun d => d.parameters.length) = some 0 := by decide +kernel
theorem dX11_theNets_0 : decode cX11_theNets 0 = .ok (.aload_n 0, 1) := dk_42 (by decide +kernel)
theorem dX11_theNets_1 : decode cX11_theNets 1 = .ok (.getfield 415, 3) := dk_180 (by decide +kernel)
theorem dX11_theNets_4 : decode cX11_theNets 4 = .ok (.ifnonnull 14, 3) := dk_199 (by decide +kernel)
theorem dX11_theNets_18 : decode cX11_theNets 18 = .ok (.aload_n 0, 1) := dk_42 (by decide +kernel)
theorem dX11_theNets_19 : decode cX11_theNets 19 = .ok (.getfield 415, 3) := dk_180 (by decide +kernel)
theorem dX11_theNets_22 : decode cX11_theNets 22 = .ok (.areturn, 1) := dk_176 (by decide +kernel)
def wsMX11_theNets_1 : List Cond := .code yX11_theNets cX11_theNets 1 (some (.object "OptimaWorks$NetDesk")) :: ([.fieldLink RX11 415 "OptimaWorks" "nets" "LOptimaWorks$NetDesk;"] ++ wsX110)
theorem iwsMX11_theNets_1_in11 : ∀ w ∈ wsX110, w ∈ wsMX11_theNets_1 := fun _ h => List.mem_cons_of_mem _ (List.mem_append_right _ h)
theorem gdwsMX11_theNets_1 : wsMX11_theNets_1.all goodWord = true := gdC rfl (gdA (by decide +kernel : ([.fieldLink RX11 415 "OptimaWorks" "nets" "LOptimaWorks$NetDesk;"] : List Cond).all goodWord = true) gdwsX110)
theorem hm_m_X11_theNets_1_0 : (.fieldLink RX11 415 "OptimaWorks" "nets" "LOptimaWorks$NetDesk;" : Cond) ∈ wsMX11_theNets_1 := by decide +kernel
set_option maxHeartbeats 4000000 in
set_option maxRecDepth 100000 in
/-- the desk of nets stands -/
theorem m_X11_theNets_1 (l : Launch) (dC : Nat → ClassId) (dI : Nat → Nat → Nat) (hX : Nat → Nat) (aX : Nat → Nat) (kX : Nat → ClassId) (hT : Nat → Nat) (hM : Nat → Nat) (fX_ready : Nat → Int32) (fX_sheet : Nat → Int32) (dX_sheet : Nat) (nX_sheet : Nat) (iX_sheetLength : Int32) (xX_reader : Value) (xX_solver : Value) (xX_prover : Value) (xX_values : Value) (xX_clauses : Value) (hN : Nat → Nat) (aN : Nat → Nat) (kN : Nat → ClassId) (iN_arcs : Int32) (fN_from : Nat → Int32) (fN_to : Nat → Int32) (fN_room : Nat → Int32) (fN_cost : Nat → Int32) (iN_reached : Int32) (fN_free : Nat → Int32) (fN_before : Nat → Int32) (fN_flow : Nat → Int32) (fN_length : Nat → Int32) (fN_stop : Nat → Int32) (iN_stops : Int32) (fN_price : Nat → Int32) (fN_rest : Nat → Int32) (b_fX_sheet : ∀ q : Nat, (-128) ≤ (fX_sheet q).toInt ∧ (fX_sheet q).toInt ≤ 127) (b_nX_sheet : 64 ≤ nX_sheet ∧ nX_sheet ≤ 60000) (b_iX_sheetLength : 0 ≤ iX_sheetLength.toInt ∧ iX_sheetLength.toInt ≤ 30000) (b_shl : iX_sheetLength.toInt ≤ ((nX_sheet : Nat) : Int)) (b_iN_arcs : 0 ≤ iN_arcs.toInt ∧ iN_arcs.toInt ≤ 40) (b_fN_from : ∀ q : Nat, 0 ≤ (fN_from q).toInt ∧ (fN_from q).toInt ≤ 11) (b_fN_to : ∀ q : Nat, 0 ≤ (fN_to q).toInt ∧ (fN_to q).toInt ≤ 11) (b_fN_before : ∀ q : Nat, 0 ≤ (fN_before q).toInt ∧ (fN_before q).toInt ≤ 79) (b_fN_stop : ∀ q : Nat, 0 ≤ (fN_stop q).toInt ∧ (fN_stop q).toInt ≤ 11) (b_iN_stops : 0 ≤ iN_stops.toInt ∧ iN_stops.toInt ≤ 8) (sz : Nat) : Met l yX11_theNets wsMX11_theNets_1 ({ frames := 0, cells := 0, slots := 0, locals := 0 }) (va_Pc [.ref (hX 0)] (fun U => U.heap.size = sz ∧ va_P (dC, dI) vwCl (WX hX aX kX hT hM fX_ready fX_sheet dX_sheet nX_sheet iX_sheetLength xX_reader xX_solver xX_prover xX_values xX_clauses (.ref (hN 0)) ++ (WN hN aN kN iN_arcs fN_from fN_to fN_room fN_cost iN_reached fN_free fN_before fN_flow fN_length fN_stop iN_stops fN_price fN_rest)) U.heap ∧ va_K (dC, dI) vwCl (tX kX ++ (tN kN)) U ∧ va_D (fun _ => True) (WX hX aX kX hT hM fX_ready fX_sheet dX_sheet nX_sheet iX_sheetLength xX_reader xX_solver xX_prover xX_values xX_clauses (.ref (hN 0)) ++ (WN hN aN kN iN_arcs fN_from fN_to fN_room fN_cost iN_reached fN_free fN_before fN_flow fN_length fN_stop iN_stops fN_price fN_rest)))) (va_Qr (fun (u : Unit) => True) (fun (u : Unit) ra t => ra = (hN 0) ∧ va_P (dC, dI) vwCl (WX hX aX kX hT hM fX_ready fX_sheet dX_sheet nX_sheet iX_sheetLength xX_reader xX_solver xX_prover xX_values xX_clauses (.ref (hN 0)) ++ (WN hN aN kN iN_arcs fN_from fN_to fN_room fN_cost iN_reached fN_free fN_before fN_flow fN_length fN_stop iN_stops fN_price fN_rest)) t.heap ∧ va_D (va_A (WX hX aX kX hT hM fX_ready fX_sheet dX_sheet nX_sheet iX_sheetLength xX_reader xX_solver xX_prover xX_values xX_clauses (.ref (hN 0)) ++ (WN hN aN kN iN_arcs fN_from fN_to fN_room fN_cost iN_reached fN_free fN_before fN_flow fN_length fN_stop iN_stops fN_price fN_rest)) sz) (WX hX aX kX hT hM fX_ready fX_sheet dX_sheet nX_sheet iX_sheetLength xX_reader xX_solver xX_prover xX_values xX_clauses (.ref (hN 0)) ++ (WN hN aN kN iN_arcs fN_from fN_to fN_room fN_cost iN_reached fN_free fN_before fN_flow fN_length fN_stop iN_stops fN_price fN_rest))) (va_A (WX hX aX kX hT hM fX_ready fX_sheet dX_sheet nX_sheet iX_sheetLength xX_reader xX_solver xX_prover xX_values xX_clauses (.ref (hN 0)) ++ (WN hN aN kN iN_arcs fN_from fN_to fN_room fN_cost iN_reached fN_free fN_before fN_flow fN_length fN_stop iN_stops fN_price fN_rest)) sz)) 0 0 (va_A (WX hX aX kX hT hM fX_ready fX_sheet dX_sheet nX_sheet iX_sheetLength xX_reader xX_solver xX_prover xX_values xX_clauses (.ref (hN 0)) ++ (WN hN aN kN iN_arcs fN_from fN_to fN_room fN_cost iN_reached fN_free fN_before fN_flow fN_length fN_stop iN_stops fN_price fN_rest)) sz) := by
  refine Met.ofW (cc := cX11_theNets) (maxL := 1) (ret := (some (.object "OptimaWorks$NetDesk"))) (by decide) rfl ?_
  intro p e s m args below meth c s₁ B hml hv
  obtain ⟨rfl, hsz, hP, hK, hD0⟩ := hv
  have hx := B.exec
  have hb := B.bytes
  have hr := B.returns
  have hts := atoms_spec (ws := wsMX11_theNets_1) B.pre
  have hown : s.vm.findClass RX11 = some m.cls := findClass_of_methodNamed B.named
  have hlocks := B.notSynchronized
  subst hsz
  have hD := hD0.self (sz := s.heap.size)
  generalize hAe : va_A (WX hX aX kX hT hM fX_ready fX_sheet dX_sheet nX_sheet iX_sheetLength xX_reader xX_solver xX_prover xX_values xX_clauses (.ref (hN 0)) ++ (WN hN aN kN iN_arcs fN_from fN_to fN_room fN_cost iN_reached fN_free fN_before fN_flow fN_length fN_stop iN_stops fN_price fN_rest)) s.heap.size = A at hD ⊢
  have hA : ∀ q : Nat, s.heap.size ≤ q → A q := fun q h => by rw [← hAe]; exact Or.inr h
  have hS : va_S A s.heap s.heap [] := va_S.rf
  have hl := lv_entry ([.ref (hX 0)]) (n := 1) (Nat.le_of_ble_eq_true rfl)
  rw [lg_entry_eq]
  generalize (lg_sl ([.ref (hX 0)]) ++ List.replicate (1 - (lg_sl ([.ref (hX 0)])).length) Slot.unset).toArray = ls at hl ⊢
  have hl : lv_has ls 1 [(0, .ref (hX 0))] := hl
  refine lv_aload_n hx hb dX11_theNets_0 rfl (lv_at hl 0 rfl) ?_
  refine va_get (D := (dC, dI)) (ci := 11) (v := .ref (hN 0)) (C := RX11) (T := TX11) (N := 11) hx hb hts iwsMX11_theNets_1_in11 hown hK hP 0 rfl rfl 10 (by decide) (hts _ hm_m_X11_theNets_1_0) (fun _ h9 => h9) rfl dX11_theNets_1 ?_
  refine lv_ifnonnull (tgt := 18) hx hb dX11_theNets_4 (by decide) ?_
  refine lv_aload_n hx hb dX11_theNets_18 rfl (lv_at hl 0 rfl) ?_
  refine va_get (D := (dC, dI)) (ci := 11) (v := .ref (hN 0)) (C := RX11) (T := TX11) (N := 11) hx hb hts iwsMX11_theNets_1_in11 hown hK hP 0 rfl rfl 10 (by decide) (hts _ hm_m_X11_theNets_1_0) (fun _ h9 => h9) rfl dX11_theNets_19 ?_
  refine W.widen (k := 0) (n := 0) (by decide +kernel) (by decide +kernel) ?_
  exact W.aret hx hb hr (Or.inl ⟨_, rfl⟩) (Or.inr ⟨_, rfl⟩) (fun t9_ ht hW => ⟨⟨(), _, rfl, trivial, rfl, by rw [ht]; exact hP, hD⟩, hS.F ht⟩) hS.2.2 dX11_theNets_22
theorem dX11_arc_0 : decode cX11_arc 0 = .ok (.iload_n 3, 1) := dk_29 (by decide +kernel)
theorem dX11_arc_1 : decode cX11_arc 1 = .ok (.ifCond .lt 27, 3) := dk_155 (by decide +kernel)
theorem dX11_arc_4 : decode cX11_arc 4 = .ok (.iload_n 3, 1) := dk_29 (by decide +kernel)
theorem dX11_arc_5 : decode cX11_arc 5 = .ok (.sipush 1000, 3) := dk_17 (by decide +kernel)
theorem dX11_arc_8 : decode cX11_arc 8 = .ok (.if_icmp .gt 20, 3) := dk_163 (by decide +kernel)
theorem dX11_arc_11 : decode cX11_arc 11 = .ok (.iload 4, 2) := dk_21 (by decide +kernel)
theorem dX11_arc_13 : decode cX11_arc 13 = .ok (.ifCond .lt 15, 3) := dk_155 (by decide +kernel)
theorem dX11_arc_16 : decode cX11_arc 16 = .ok (.iload 4, 2) := dk_21 (by decide +kernel)
theorem dX11_arc_18 : decode cX11_arc 18 = .ok (.sipush 1000, 3) := dk_17 (by decide +kernel)
theorem dX11_arc_21 : decode cX11_arc 21 = .ok (.if_icmp .gt 7, 3) := dk_163 (by decide +kernel)
theorem dX11_arc_24 : decode cX11_arc 24 = .ok (.iconst 1, 1) := dk_4 (by decide +kernel)
theorem dX11_arc_25 : decode cX11_arc 25 = .ok (.goto 4, 3) := dk_167 (by decide +kernel)
theorem dX11_arc_28 : decode cX11_arc 28 = .ok (.iconst 0, 1) := dk_3 (by decide +kernel)
theorem dX11_arc_29 : decode cX11_arc 29 = .ok (.istore 5, 2) := dk_54 (by decide +kernel)
theorem dX11_arc_31 : decode cX11_arc 31 = .ok (.iload_n 1, 1) := dk_27 (by decide +kernel)
theorem dX11_arc_32 : decode cX11_arc 32 = .ok (.invokestatic 422, 3) := dk_184 (by decide +kernel)
theorem dX11_arc_35 : decode cX11_arc 35 = .ok (.ifCond .eq 20, 3) := dk_153 (by decide +kernel)
theorem dX11_arc_38 : decode cX11_arc 38 = .ok (.iload_n 2, 1) := dk_28 (by decide +kernel)
theorem dX11_arc_39 : decode cX11_arc 39 = .ok (.invokestatic 422, 3) := dk_184 (by decide +kernel)
theorem dX11_arc_42 : decode cX11_arc 42 = .ok (.ifCond .eq 13, 3) := dk_153 (by decide +kernel)
theorem dX11_arc_45 : decode cX11_arc 45 = .ok (.iload 5, 2) := dk_21 (by decide +kernel)
theorem dX11_arc_47 : decode cX11_arc 47 = .ok (.ifCond .eq 8, 3) := dk_153 (by decide +kernel)
theorem dX11_arc_50 : decode cX11_arc 50 = .ok (.iload_n 1, 1) := dk_27 (by decide +kernel)
theorem dX11_arc_51 : decode cX11_arc 51 = .ok (.iload_n 2, 1) := dk_28 (by decide +kernel)
theorem dX11_arc_52 : decode cX11_arc 52 = .ok (.if_icmp .ne 11, 3) := dk_160 (by decide +kernel)
theorem dX11_arc_55 : decode cX11_arc 55 = .ok (.new 77, 3) := dk_187 (by decide +kernel)
theorem dX11_arc_58 : decode cX11_arc 58 = .ok (.dup, 1) := dk_89 (by decide +kernel)
theorem dX11_arc_59 : decode cX11_arc 59 = .ok (.invokespecial 79, 3) := dk_183 (by decide +kernel)
theorem dX11_arc_62 : decode cX11_arc 62 = .ok (.athrow, 1) := dk_191 (by decide +kernel)
theorem dX11_arc_63 : decode cX11_arc 63 = .ok (.aload_n 0, 1) := dk_42 (by decide +kernel)
theorem dX11_arc_64 : decode cX11_arc 64 = .ok (.invokevirtual 425, 3) := dk_182 (by decide +kernel)
theorem dX11_arc_67 : decode cX11_arc 67 = .ok (.getfield 429, 3) := dk_180 (by decide +kernel)
theorem dX11_arc_70 : decode cX11_arc 70 = .ok (.bipush 40, 2) := dk_16 (by decide +kernel)
theorem dX11_arc_72 : decode cX11_arc 72 = .ok (.if_icmp .lt 11, 3) := dk_161 (by decide +kernel)
theorem dX11_arc_75 : decode cX11_arc 75 = .ok (.new 159, 3) := dk_187 (by decide +kernel)
theorem dX11_arc_78 : decode cX11_arc 78 = .ok (.dup, 1) := dk_89 (by decide +kernel)
theorem dX11_arc_79 : decode cX11_arc 79 = .ok (.invokespecial 161, 3) := dk_183 (by decide +kernel)
theorem dX11_arc_82 : decode cX11_arc 82 = .ok (.athrow, 1) := dk_191 (by decide +kernel)
theorem dX11_arc_83 : decode cX11_arc 83 = .ok (.aload_n 0, 1) := dk_42 (by decide +kernel)
theorem dX11_arc_84 : decode cX11_arc 84 = .ok (.getfield 415, 3) := dk_180 (by decide +kernel)
theorem dX11_arc_87 : decode cX11_arc 87 = .ok (.iload_n 1, 1) := dk_27 (by decide +kernel)
theorem dX11_arc_88 : decode cX11_arc 88 = .ok (.iload_n 2, 1) := dk_28 (by decide +kernel)
theorem dX11_arc_89 : decode cX11_arc 89 = .ok (.iload_n 3, 1) := dk_29 (by decide +kernel)
theorem dX11_arc_90 : decode cX11_arc 90 = .ok (.iload 4, 2) := dk_21 (by decide +kernel)
theorem dX11_arc_92 : decode cX11_arc 92 = .ok (.invokevirtual 432, 3) := dk_182 (by decide +kernel)
theorem dX11_arc_95 : decode cX11_arc 95 = .ok (.ireturn, 1) := dk_172 (by decide +kernel)
def wsMX11_arc_1 : List Cond := .code yX11_arc cX11_arc 6 (some .int) :: ([.classLink RX11 77 "java/lang/IllegalArgumentException", .initialized "java/lang/IllegalArgumentException", .fieldLink RX11 429 "OptimaWorks$NetDesk" "arcs" "I", .fieldLink RX11 415 "OptimaWorks" "nets" "LOptimaWorks$NetDesk;", .classLink RX11 159 "java/lang/IllegalStateException", .initialized "java/lang/IllegalStateException"] ++ wsX20 ++ wsX110 ++ (va_wsS RX11 422 yX11_isNode wsMX11_isNode) ++ ((vx_at0 RX11 79 "java/lang/IllegalArgumentException" ["java/lang/RuntimeException", "java/lang/Exception"]).filter goodWord) ++ (wsV RX11 425 RX11 yX11_theNets wsMX11_theNets_1) ++ (wsV RX11 432 RX2 yX2_addArc wsMX2_addArc) ++ ((vx_at0 RX11 161 "java/lang/IllegalStateException" ["java/lang/RuntimeException", "java/lang/Exception"]).filter goodWord))
theorem iwsMX11_arc_1_in2 : ∀ w ∈ wsX20, w ∈ wsMX11_arc_1 := fun _ h => List.mem_cons_of_mem _ (List.mem_append_left _ (List.mem_append_left _ (List.mem_append_left _ (List.mem_append_left _ (List.mem_append_left _ (List.mem_append_left _ (List.mem_append_right _ h)))))))
theorem iwsMX11_arc_1_in11 : ∀ w ∈ wsX110, w ∈ wsMX11_arc_1 := fun _ h => List.mem_cons_of_mem _ (List.mem_append_left _ (List.mem_append_left _ (List.mem_append_left _ (List.mem_append_left _ (List.mem_append_left _ (List.mem_append_right _ h))))))
theorem gwsMX11_arc_1_0 : GoodIn wsMX11_arc_1 (va_wsS RX11 422 yX11_isNode wsMX11_isNode) := goodIn_sub (fun _ h => List.mem_cons_of_mem _ (List.mem_append_left _ (List.mem_append_left _ (List.mem_append_left _ (List.mem_append_left _ (List.mem_append_right _ h)))))) (gdS (by decide +kernel) gdwsMX11_isNode)
theorem gwsMX11_arc_1_2 : GoodIn wsMX11_arc_1 (wsV RX11 425 RX11 yX11_theNets wsMX11_theNets_1) := goodIn_sub (fun _ h => List.mem_cons_of_mem _ (List.mem_append_left _ (List.mem_append_left _ (List.mem_append_right _ h)))) (gdV (by decide +kernel) gdwsMX11_theNets_1)
theorem gwsMX11_arc_1_3 : GoodIn wsMX11_arc_1 (wsV RX11 432 RX2 yX2_addArc wsMX2_addArc) := goodIn_sub (fun _ h => List.mem_cons_of_mem _ (List.mem_append_left _ (List.mem_append_right _ h))) (gdV (by decide +kernel) gdwsMX2_addArc)
theorem gdwsMX11_arc_1 : wsMX11_arc_1.all goodWord = true := gdC rfl (gdA (gdA (gdA (gdA (gdA (gdA (gdA (by decide +kernel : ([.classLink RX11 77 "java/lang/IllegalArgumentException", .initialized "java/lang/IllegalArgumentException", .fieldLink RX11 429 "OptimaWorks$NetDesk" "arcs" "I", .fieldLink RX11 415 "OptimaWorks" "nets" "LOptimaWorks$NetDesk;", .classLink RX11 159 "java/lang/IllegalStateException", .initialized "java/lang/IllegalStateException"] : List Cond).all goodWord = true) gdwsX20) gdwsX110) (gdS (by decide +kernel) gdwsMX11_isNode)) (gdF _)) (gdV (by decide +kernel) gdwsMX11_theNets_1)) (gdV (by decide +kernel) gdwsMX2_addArc)) (gdF _))
theorem hm_m_X11_arc_1_0 : (.classLink RX11 77 "java/lang/IllegalArgumentException" : Cond) ∈ wsMX11_arc_1 := by decide +kernel
theorem hm_m_X11_arc_1_1 : (.initialized "java/lang/IllegalArgumentException" : Cond) ∈ wsMX11_arc_1 := by decide +kernel
set_option maxHeartbeats 4000000 in
set_option maxRecDepth 100000 in
/-- an arc -/
theorem m_X11_arc_1 (l : Launch) (hst : l.stackTraces = false) (dC : Nat → ClassId) (dI : Nat → Nat → Nat) (hX : Nat → Nat) (aX : Nat → Nat) (kX : Nat → ClassId) (hT : Nat → Nat) (hM : Nat → Nat) (fX_ready : Nat → Int32) (fX_sheet : Nat → Int32) (dX_sheet : Nat) (nX_sheet : Nat) (iX_sheetLength : Int32) (xX_reader : Value) (xX_solver : Value) (xX_prover : Value) (xX_values : Value) (xX_clauses : Value) (hN : Nat → Nat) (aN : Nat → Nat) (kN : Nat → ClassId) (iN_arcs : Int32) (fN_from : Nat → Int32) (fN_to : Nat → Int32) (fN_room : Nat → Int32) (fN_cost : Nat → Int32) (iN_reached : Int32) (fN_free : Nat → Int32) (fN_before : Nat → Int32) (fN_flow : Nat → Int32) (fN_length : Nat → Int32) (fN_stop : Nat → Int32) (iN_stops : Int32) (fN_price : Nat → Int32) (fN_rest : Nat → Int32) (p1 : Int32) (p2 : Int32) (p3 : Int32) (p4 : Int32) (b_fX_sheet : ∀ q : Nat, (-128) ≤ (fX_sheet q).toInt ∧ (fX_sheet q).toInt ≤ 127) (b_nX_sheet : 64 ≤ nX_sheet ∧ nX_sheet ≤ 60000) (b_iX_sheetLength : 0 ≤ iX_sheetLength.toInt ∧ iX_sheetLength.toInt ≤ 30000) (b_shl : iX_sheetLength.toInt ≤ ((nX_sheet : Nat) : Int)) (b_iN_arcs : 0 ≤ iN_arcs.toInt ∧ iN_arcs.toInt ≤ 40) (b_fN_from : ∀ q : Nat, 0 ≤ (fN_from q).toInt ∧ (fN_from q).toInt ≤ 11) (b_fN_to : ∀ q : Nat, 0 ≤ (fN_to q).toInt ∧ (fN_to q).toInt ≤ 11) (b_fN_before : ∀ q : Nat, 0 ≤ (fN_before q).toInt ∧ (fN_before q).toInt ≤ 79) (b_fN_stop : ∀ q : Nat, 0 ≤ (fN_stop q).toInt ∧ (fN_stop q).toInt ≤ 11) (b_iN_stops : 0 ≤ iN_stops.toInt ∧ iN_stops.toInt ≤ 8) (sz : Nat) : vx_Met l yX11_arc wsMX11_arc_1 ({ frames := 6, cells := 1, slots := 6, locals := 81 }) (va_Pc [.ref (hX 0), .int p1, .int p2, .int p3, .int p4] (fun U => U.heap.size = sz ∧ va_P (dC, dI) vwCl (WX hX aX kX hT hM fX_ready fX_sheet dX_sheet nX_sheet iX_sheetLength xX_reader xX_solver xX_prover xX_values xX_clauses (.ref (hN 0)) ++ (WN hN aN kN iN_arcs fN_from fN_to fN_room fN_cost iN_reached fN_free fN_before fN_flow fN_length fN_stop iN_stops fN_price fN_rest)) U.heap ∧ va_K (dC, dI) vwCl (tX kX ++ (tN kN)) U ∧ va_D (fun _ => True) (WX hX aX kX hT hM fX_ready fX_sheet dX_sheet nX_sheet iX_sheetLength xX_reader xX_solver xX_prover xX_values xX_clauses (.ref (hN 0)) ++ (WN hN aN kN iN_arcs fN_from fN_to fN_room fN_cost iN_reached fN_free fN_before fN_flow fN_length fN_stop iN_stops fN_price fN_rest)) ∧ CE (va_A (WX hX aX kX hT hM fX_ready fX_sheet dX_sheet nX_sheet iX_sheetLength xX_reader xX_solver xX_prover xX_values xX_clauses (.ref (hN 0)) ++ (WN hN aN kN iN_arcs fN_from fN_to fN_room fN_cost iN_reached fN_free fN_before fN_flow fN_length fN_stop iN_stops fN_price fN_rest)) sz) U U.heap)) (va_Qi (fun (r : Int32) (u : (Int32) × (Nat → Int32) × (Nat → Int32) × (Nat → Int32) × (Nat → Int32)) => (0 ≤ (u.1).toInt ∧ (u.1).toInt ≤ 40) ∧ (∀ q : Nat, 0 ≤ ((u.2.1) q).toInt ∧ ((u.2.1) q).toInt ≤ 11) ∧ (∀ q : Nat, 0 ≤ ((u.2.2.1) q).toInt ∧ ((u.2.2.1) q).toInt ≤ 11) ∧ ((u.1).toInt = iN_arcs.toInt + 1) ∧ (r.toInt = iN_arcs.toInt) ∧ ((u.2.1) = upd fN_from iN_arcs.toInt.toNat p1) ∧ ((u.2.2.1) = upd fN_to iN_arcs.toInt.toNat p2) ∧ ((u.2.2.2.1) = upd fN_room iN_arcs.toInt.toNat p3) ∧ ((u.2.2.2.2) = upd fN_cost iN_arcs.toInt.toNat p4) ∧ ((0 ≤ p1.toInt ∧ p1.toInt ≤ 11 ∧ 0 ≤ p2.toInt ∧ p2.toInt ≤ 11 ∧ p1.toInt ≠ p2.toInt ∧ 0 ≤ p3.toInt ∧ p3.toInt ≤ 1000 ∧ 0 ≤ p4.toInt ∧ p4.toInt ≤ 1000) ∧ iN_arcs.toInt < 40)) (fun (u : (Int32) × (Nat → Int32) × (Nat → Int32) × (Nat → Int32) × (Nat → Int32)) t => va_P (dC, dI) vwCl (WX hX aX kX hT hM fX_ready fX_sheet dX_sheet nX_sheet iX_sheetLength xX_reader xX_solver xX_prover xX_values xX_clauses (.ref (hN 0)) ++ (WN hN aN kN (u.1) (u.2.1) (u.2.2.1) (u.2.2.2.1) (u.2.2.2.2) iN_reached fN_free fN_before fN_flow fN_length fN_stop iN_stops fN_price fN_rest)) t.heap ∧ va_D (va_A (WX hX aX kX hT hM fX_ready fX_sheet dX_sheet nX_sheet iX_sheetLength xX_reader xX_solver xX_prover xX_values xX_clauses (.ref (hN 0)) ++ (WN hN aN kN iN_arcs fN_from fN_to fN_room fN_cost iN_reached fN_free fN_before fN_flow fN_length fN_stop iN_stops fN_price fN_rest)) sz) (WX hX aX kX hT hM fX_ready fX_sheet dX_sheet nX_sheet iX_sheetLength xX_reader xX_solver xX_prover xX_values xX_clauses (.ref (hN 0)) ++ (WN hN aN kN (u.1) (u.2.1) (u.2.2.1) (u.2.2.2.1) (u.2.2.2.2) iN_reached fN_free fN_before fN_flow fN_length fN_stop iN_stops fN_price fN_rest)) ∧ t.heap.size = sz) (va_A (WX hX aX kX hT hM fX_ready fX_sheet dX_sheet nX_sheet iX_sheetLength xX_reader xX_solver xX_prover xX_values xX_clauses (.ref (hN 0)) ++ (WN hN aN kN iN_arcs fN_from fN_to fN_room fN_cost iN_reached fN_free fN_before fN_flow fN_length fN_stop iN_stops fN_price fN_rest)) sz)) (vx_X (fun (u : (Int32) × (Nat → Int32) × (Nat → Int32) × (Nat → Int32) × (Nat → Int32)) => (0 ≤ (u.1).toInt ∧ (u.1).toInt ≤ 40) ∧ (∀ q : Nat, 0 ≤ ((u.2.1) q).toInt ∧ ((u.2.1) q).toInt ≤ 11) ∧ (∀ q : Nat, 0 ≤ ((u.2.2.1) q).toInt ∧ ((u.2.2.1) q).toInt ≤ 11) ∧ ((u.1).toInt = iN_arcs.toInt ∧ (u.2.1) = fN_from ∧ (u.2.2.1) = fN_to ∧ (u.2.2.2.1) = fN_room ∧ (u.2.2.2.2) = fN_cost)) (fun E (u : (Int32) × (Nat → Int32) × (Nat → Int32) × (Nat → Int32) × (Nat → Int32)) t => ((E = "java/lang/IllegalArgumentException" ∧ (¬ (0 ≤ p1.toInt ∧ p1.toInt ≤ 11 ∧ 0 ≤ p2.toInt ∧ p2.toInt ≤ 11 ∧ p1.toInt ≠ p2.toInt ∧ 0 ≤ p3.toInt ∧ p3.toInt ≤ 1000 ∧ 0 ≤ p4.toInt ∧ p4.toInt ≤ 1000))) ∨ (E = "java/lang/IllegalStateException" ∧ ((0 ≤ p1.toInt ∧ p1.toInt ≤ 11 ∧ 0 ≤ p2.toInt ∧ p2.toInt ≤ 11 ∧ p1.toInt ≠ p2.toInt ∧ 0 ≤ p3.toInt ∧ p3.toInt ≤ 1000 ∧ 0 ≤ p4.toInt ∧ p4.toInt ≤ 1000) ∧ iN_arcs.toInt = 40))) ∧ va_P (dC, dI) vwCl (WX hX aX kX hT hM fX_ready fX_sheet dX_sheet nX_sheet iX_sheetLength xX_reader xX_solver xX_prover xX_values xX_clauses (.ref (hN 0)) ++ (WN hN aN kN (u.1) (u.2.1) (u.2.2.1) (u.2.2.2.1) (u.2.2.2.2) iN_reached fN_free fN_before fN_flow fN_length fN_stop iN_stops fN_price fN_rest)) t.heap ∧ va_D (va_A (WX hX aX kX hT hM fX_ready fX_sheet dX_sheet nX_sheet iX_sheetLength xX_reader xX_solver xX_prover xX_values xX_clauses (.ref (hN 0)) ++ (WN hN aN kN iN_arcs fN_from fN_to fN_room fN_cost iN_reached fN_free fN_before fN_flow fN_length fN_stop iN_stops fN_price fN_rest)) sz) (WX hX aX kX hT hM fX_ready fX_sheet dX_sheet nX_sheet iX_sheetLength xX_reader xX_solver xX_prover xX_values xX_clauses (.ref (hN 0)) ++ (WN hN aN kN (u.1) (u.2.1) (u.2.2.1) (u.2.2.2.1) (u.2.2.2.2) iN_reached fN_free fN_before fN_flow fN_length fN_stop iN_stops fN_price fN_rest))) (va_A (WX hX aX kX hT hM fX_ready fX_sheet dX_sheet nX_sheet iX_sheetLength xX_reader xX_solver xX_prover xX_values xX_clauses (.ref (hN 0)) ++ (WN hN aN kN iN_arcs fN_from fN_to fN_room fN_cost iN_reached fN_free fN_before fN_flow fN_length fN_stop iN_stops fN_price fN_rest)) sz)) 1 6 (va_A (WX hX aX kX hT hM fX_ready fX_sheet dX_sheet nX_sheet iX_sheetLength xX_reader xX_solver xX_prover xX_values xX_clauses (.ref (hN 0)) ++ (WN hN aN kN iN_arcs fN_from fN_to fN_room fN_cost iN_reached fN_free fN_before fN_flow fN_length fN_stop iN_stops fN_price fN_rest)) sz) := by
  refine vx_ofW (cc := cX11_arc) (maxL := 6) (ret := (some .int)) (by decide) rfl ?_
  intro p e s m args below meth c s₁ B hml htab hv
  obtain ⟨rfl, hsz, hP, hK, hD0, hE⟩ := hv
  have hx := B.exec
  have hb := B.bytes
  have hr := B.returns
  have hts := atoms_spec (ws := wsMX11_arc_1) B.pre
  have hown : s.vm.findClass RX11 = some m.cls := findClass_of_methodNamed B.named
  have hlocks := B.notSynchronized
  subst hsz
  have hD := hD0.self (sz := s.heap.size)
  generalize hAe : va_A (WX hX aX kX hT hM fX_ready fX_sheet dX_sheet nX_sheet iX_sheetLength xX_reader xX_solver xX_prover xX_values xX_clauses (.ref (hN 0)) ++ (WN hN aN kN iN_arcs fN_from fN_to fN_room fN_cost iN_reached fN_free fN_before fN_flow fN_length fN_stop iN_stops fN_price fN_rest)) s.heap.size = A at hD hE ⊢
  have hA : ∀ q : Nat, s.heap.size ≤ q → A q := fun q h => by rw [← hAe]; exact Or.inr h
  have hS : va_S A s.heap s.heap [] := va_S.rf
  have hl := lv_entry ([.ref (hX 0), .int p1, .int p2, .int p3, .int p4]) (n := 6) (Nat.le_of_ble_eq_true rfl)
  rw [lg_entry_eq]
  generalize (lg_sl ([.ref (hX 0), .int p1, .int p2, .int p3, .int p4]) ++ List.replicate (6 - (lg_sl ([.ref (hX 0), .int p1, .int p2, .int p3, .int p4])).length) Slot.unset).toArray = ls at hl ⊢
  have hl : lv_has ls 6 [(0, .ref (hX 0)), (1, .int p1), (2, .int p2), (3, .int p3), (4, .int p4)] := hl
  refine lv_iload_n hx hb dX11_arc_0 rfl (lv_at hl 3 rfl) ?_
  refine W.cut (pc := 29) (fun H locs ls stk => ∃ (k0_j2 : Int32), (0 ≤ k0_j2.toInt ∧ k0_j2.toInt ≤ 1) ∧ ((k0_j2.toInt = 1 ∧ (0 ≤ p3.toInt ∧ p3.toInt ≤ 1000 ∧ 0 ≤ p4.toInt ∧ p4.toInt ≤ 1000)) ∨ (k0_j2.toInt = 0 ∧ ¬ (0 ≤ p3.toInt ∧ p3.toInt ≤ 1000 ∧ 0 ≤ p4.toInt ∧ p4.toInt ≤ 1000))) ∧  stk = [.int k0_j2] ∧ va_P (dC, dI) vwCl (WX hX aX kX hT hM fX_ready fX_sheet dX_sheet nX_sheet iX_sheetLength xX_reader xX_solver xX_prover xX_values xX_clauses (.ref (hN 0)) ++ (WN hN aN kN iN_arcs fN_from fN_to fN_room fN_cost iN_reached fN_free fN_before fN_flow fN_length fN_stop iN_stops fN_price fN_rest)) H ∧ va_D A (WX hX aX kX hT hM fX_ready fX_sheet dX_sheet nX_sheet iX_sheetLength xX_reader xX_solver xX_prover xX_values xX_clauses (.ref (hN 0)) ++ (WN hN aN kN iN_arcs fN_from fN_to fN_room fN_cost iN_reached fN_free fN_before fN_flow fN_length fN_stop iN_stops fN_price fN_rest)) ∧ va_S A s.heap H locs ∧ lv_has ls 6 [(0, .ref (hX 0)), (1, .int p1), (2, .int p2), (3, .int p3), (4, .int p4)]) (fun join2 => ?_) ?_
  · refine lv_if_lt (tgt := 28) hx hb dX11_arc_1 (by decide) (fun c_1 => ?_) (fun c_1 => ?_)
    · have t_1 : p3.toInt < 0 := toI_lt c_1 rfl (by decide : (0 : Int32).toInt = 0)
      refine lv_iconst (v := 0) hx hb dX11_arc_28 (by decide) ?_
      have hl : lv_has _ _ ([(0, .ref (hX 0)), (1, .int p1), (2, .int p2), (3, .int p3), (4, .int p4)]) := lv_sub hl [0, 1, 2, 3, 4] rfl
      exact join2 _ _ _ _ ⟨0, (show 0 ≤ (0 : Int32).toInt ∧ (0 : Int32).toInt ≤ 1 from by decide), (show ((0 : Int32).toInt = 1 ∧ (0 ≤ p3.toInt ∧ p3.toInt ≤ 1000 ∧ 0 ≤ p4.toInt ∧ p4.toInt ≤ 1000)) ∨ ((0 : Int32).toInt = 0 ∧ ¬ (0 ≤ p3.toInt ∧ p3.toInt ≤ 1000 ∧ 0 ≤ p4.toInt ∧ p4.toInt ≤ 1000)) from by first | exact Or.inl ⟨by decide, by omega⟩ | exact Or.inr ⟨by decide, by omega⟩), rfl, hP, hD, hS, hl⟩
    · have t_1 : ¬ p3.toInt < 0 := toI_nlt c_1 rfl (by decide : (0 : Int32).toInt = 0)
      refine lv_iload_n hx hb dX11_arc_4 rfl (lv_at hl 3 rfl) ?_
      refine lv_sipush (v := 1000) hx hb dX11_arc_5 (by decide) ?_
      refine lv_icmp_gt (tgt := 28) hx hb dX11_arc_8 (by decide) (fun c_8 => ?_) (fun c_8 => ?_)
      · have t_8 : p3.toInt > 1000 := toI_gt c_8 rfl (by decide : (1000 : Int32).toInt = 1000)
        refine lv_iconst (v := 0) hx hb dX11_arc_28 (by decide) ?_
        have hl : lv_has _ _ ([(0, .ref (hX 0)), (1, .int p1), (2, .int p2), (3, .int p3), (4, .int p4)]) := lv_sub hl [0, 1, 2, 3, 4] rfl
        exact join2 _ _ _ _ ⟨0, (show 0 ≤ (0 : Int32).toInt ∧ (0 : Int32).toInt ≤ 1 from by decide), (show ((0 : Int32).toInt = 1 ∧ (0 ≤ p3.toInt ∧ p3.toInt ≤ 1000 ∧ 0 ≤ p4.toInt ∧ p4.toInt ≤ 1000)) ∨ ((0 : Int32).toInt = 0 ∧ ¬ (0 ≤ p3.toInt ∧ p3.toInt ≤ 1000 ∧ 0 ≤ p4.toInt ∧ p4.toInt ≤ 1000)) from by first | exact Or.inl ⟨by decide, by omega⟩ | exact Or.inr ⟨by decide, by omega⟩), rfl, hP, hD, hS, hl⟩
      · have t_8 : ¬ p3.toInt > 1000 := toI_ngt c_8 rfl (by decide : (1000 : Int32).toInt = 1000)
        refine lv_iload hx hb dX11_arc_11 (lv_at hl 4 rfl) ?_
        refine lv_if_lt (tgt := 28) hx hb dX11_arc_13 (by decide) (fun c_13 => ?_) (fun c_13 => ?_)
        · have t_13 : p4.toInt < 0 := toI_lt c_13 rfl (by decide : (0 : Int32).toInt = 0)
          refine lv_iconst (v := 0) hx hb dX11_arc_28 (by decide) ?_
          have hl : lv_has _ _ ([(0, .ref (hX 0)), (1, .int p1), (2, .int p2), (3, .int p3), (4, .int p4)]) := lv_sub hl [0, 1, 2, 3, 4] rfl
          exact join2 _ _ _ _ ⟨0, (show 0 ≤ (0 : Int32).toInt ∧ (0 : Int32).toInt ≤ 1 from by decide), (show ((0 : Int32).toInt = 1 ∧ (0 ≤ p3.toInt ∧ p3.toInt ≤ 1000 ∧ 0 ≤ p4.toInt ∧ p4.toInt ≤ 1000)) ∨ ((0 : Int32).toInt = 0 ∧ ¬ (0 ≤ p3.toInt ∧ p3.toInt ≤ 1000 ∧ 0 ≤ p4.toInt ∧ p4.toInt ≤ 1000)) from by first | exact Or.inl ⟨by decide, by omega⟩ | exact Or.inr ⟨by decide, by omega⟩), rfl, hP, hD, hS, hl⟩
        · have t_13 : ¬ p4.toInt < 0 := toI_nlt c_13 rfl (by decide : (0 : Int32).toInt = 0)
          refine lv_iload hx hb dX11_arc_16 (lv_at hl 4 rfl) ?_
          refine lv_sipush (v := 1000) hx hb dX11_arc_18 (by decide) ?_
          refine lv_icmp_gt (tgt := 28) hx hb dX11_arc_21 (by decide) (fun c_21 => ?_) (fun c_21 => ?_)
          · have t_21 : p4.toInt > 1000 := toI_gt c_21 rfl (by decide : (1000 : Int32).toInt = 1000)
            refine lv_iconst (v := 0) hx hb dX11_arc_28 (by decide) ?_
            have hl : lv_has _ _ ([(0, .ref (hX 0)), (1, .int p1), (2, .int p2), (3, .int p3), (4, .int p4)]) := lv_sub hl [0, 1, 2, 3, 4] rfl
            exact join2 _ _ _ _ ⟨0, (show 0 ≤ (0 : Int32).toInt ∧ (0 : Int32).toInt ≤ 1 from by decide), (show ((0 : Int32).toInt = 1 ∧ (0 ≤ p3.toInt ∧ p3.toInt ≤ 1000 ∧ 0 ≤ p4.toInt ∧ p4.toInt ≤ 1000)) ∨ ((0 : Int32).toInt = 0 ∧ ¬ (0 ≤ p3.toInt ∧ p3.toInt ≤ 1000 ∧ 0 ≤ p4.toInt ∧ p4.toInt ≤ 1000)) from by first | exact Or.inl ⟨by decide, by omega⟩ | exact Or.inr ⟨by decide, by omega⟩), rfl, hP, hD, hS, hl⟩
          · have t_21 : ¬ p4.toInt > 1000 := toI_ngt c_21 rfl (by decide : (1000 : Int32).toInt = 1000)
            refine lv_iconst (v := 1) hx hb dX11_arc_24 (by decide) ?_
            refine lv_goto (tgt := 29) hx hb dX11_arc_25 (by decide) ?_
            have hl : lv_has _ _ ([(0, .ref (hX 0)), (1, .int p1), (2, .int p2), (3, .int p3), (4, .int p4)]) := lv_sub hl [0, 1, 2, 3, 4] rfl
            exact join2 _ _ _ _ ⟨1, (show 0 ≤ (1 : Int32).toInt ∧ (1 : Int32).toInt ≤ 1 from by decide), (show ((1 : Int32).toInt = 1 ∧ (0 ≤ p3.toInt ∧ p3.toInt ≤ 1000 ∧ 0 ≤ p4.toInt ∧ p4.toInt ≤ 1000)) ∨ ((1 : Int32).toInt = 0 ∧ ¬ (0 ≤ p3.toInt ∧ p3.toInt ≤ 1000 ∧ 0 ≤ p4.toInt ∧ p4.toInt ≤ 1000)) from by first | exact Or.inl ⟨by decide, by omega⟩ | exact Or.inr ⟨by decide, by omega⟩), rfl, hP, hD, hS, hl⟩
  · rintro H locs ls stk ⟨k0_j2, b_k0_j2, hlen, rfl, hP, hD, hS, hl⟩
    refine lv_istore hx hb dX11_arc_29 hl (by decide) rfl (fun ls (hl : lv_has ls _ ([(5, .int k0_j2), (0, .ref (hX 0)), (1, .int p1), (2, .int p2), (3, .int p3), (4, .int p4)])) => ?_)
    refine lv_iload_n hx hb dX11_arc_31 rfl (lv_at hl 2 rfl) ?_
    have hFc := noneFree hS hA
    refine va_calli (va_runS (As := [.int p1]) (rest := []) ⟨hx, hb, hml, hown, hts⟩ (m_X11_isNode l dC dI p1 H.size) (va_cwS 1 hts gwsMX11_arc_1_0 rfl rfl rfl (by decide +kernel) ⟨by decide +kernel, by decide +kernel⟩) ⟨fun a U g mk q => by obtain ⟨q0, q1, qP, qK, qD⟩ := q; exact ⟨q0, q1, qP, va_K.moved (u := U) (U := U.calling g mk a) (Vm.Alike.refl U.vm) qK, qD⟩, fun U hU9 hW => ⟨rfl, by rw [hU9], by rw [hU9]; exact nilP, va_K.moved hW.alike (hK.sub (tys' := []) [] rfl), nilD⟩⟩ rfl rfl hl.1 rfl (lv_room (Nat.le_of_ble_eq_true rfl)) dX11_arc_32 (by decide +kernel)) hS (fun q _ h => hFc q h) hFc (fun r1 u t9_ H1 locs ht hvm hw9 hB9 hz1 hk1 hS => ?_)
    revert hw9
    refine fz_a3 ?_
    intro b_r1 f1_0 f1_1
    clear hB9
    have hP := keepAll hP hk1
    generalize H1 = H at hP hS ⊢
    have hP : va_P (dC, dI) vwCl (WX hX aX kX hT hM fX_ready fX_sheet dX_sheet nX_sheet iX_sheetLength xX_reader xX_solver xX_prover xX_values xX_clauses (.ref (hN 0)) ++ (WN hN aN kN iN_arcs fN_from fN_to fN_room fN_cost iN_reached fN_free fN_before fN_flow fN_length fN_stop iN_stops fN_price fN_rest)) H := hP
    have hD := fz_sd hP (hD) rfl
    have hn1 := f1_0
    have hy1 := f1_1
    refine lv_if_eq (tgt := 55) hx hb dX11_arc_35 (by decide) (fun c_35 => ?_) (fun c_35 => ?_)
    · have t_35 : r1.toInt = 0 := toI_eq c_35 rfl (by decide : (0 : Int32).toInt = 0)
      exact vx_throw0 (own := RX11) (cls := "java/lang/IllegalArgumentException") (names := ["java/lang/RuntimeException", "java/lang/Exception"]) (ik := 77) (ic := 79) (A := A) hx hb hst hown (by decide +kernel) (by decide +kernel) (hts _ hm_m_X11_arc_1_0) (hts _ hm_m_X11_arc_1_1) (vx_hat (B := ngX11_79) (fun w h => hts w (List.mem_cons_of_mem _ (List.mem_append_left _ (List.mem_append_left _ (List.mem_append_left _ (List.mem_append_right _ h)))))) (fun _ h => h) (fun w h => va_Nw.use (ngX11_79_ot w h) (hE.2.2.1.2.2.1 w h))) (by decide +kernel) hE.2.1.1 hE.2.1.2 hS (by rw [hml]; exact hl.1) dX11_arc_55 dX11_arc_58 dX11_arc_59 dX11_arc_62 (fun x hx9 => (htab x hx9).elim) (by decide +kernel) (Nat.le_of_ble_eq_true rfl) (by decide +kernel) (by decide +kernel) hlocks (fun t hvm hz hk => ⟨(iN_arcs, fN_from, fN_to, fN_room, fN_cost), ⟨(b_iN_arcs), b_fN_from, b_fN_to, (by first | exact ⟨rfl, rfl, rfl, rfl, rfl⟩ | ((try dsimp only); exact ⟨rfl, rfl, rfl, rfl, rfl⟩))⟩, ⟨Or.inl ⟨rfl, by omega⟩, hP.kept (fun k q h => hk q.1 ((hP k q h).lt)), hD⟩, ⟨Nat.le_trans hS.1 hz, fun q h1 h2 => (hk q (Nat.lt_of_lt_of_le h1 hS.1)).trans (hS.2.1 q h1 h2)⟩⟩) hS.2.2 (by decide +kernel) (by decide +kernel)
    · have t_35 : ¬ r1.toInt = 0 := toI_neq c_35 rfl (by decide : (0 : Int32).toInt = 0)
      refine lv_iload_n hx hb dX11_arc_38 rfl (lv_at hl 3 rfl) ?_
      have hFc := noneFree hS hA
      refine va_calli (va_runS (As := [.int p2]) (rest := []) ⟨hx, hb, hml, hown, hts⟩ (m_X11_isNode l dC dI p2 H.size) (va_cwS 1 hts gwsMX11_arc_1_0 rfl rfl rfl (by decide +kernel) ⟨by decide +kernel, by decide +kernel⟩) ⟨fun a U g mk q => by obtain ⟨q0, q1, qP, qK, qD⟩ := q; exact ⟨q0, q1, qP, va_K.moved (u := U) (U := U.calling g mk a) (Vm.Alike.refl U.vm) qK, qD⟩, fun U hU9 hW => ⟨rfl, by rw [hU9], by rw [hU9]; exact nilP, va_K.moved hW.alike (hK.sub (tys' := []) [] rfl), nilD⟩⟩ rfl rfl hl.1 rfl (lv_room (Nat.le_of_ble_eq_true rfl)) dX11_arc_39 (by decide +kernel)) hS (fun q _ h => hFc q h) hFc (fun r2 u t9_ H1 locs ht hvm hw9 hB9 hz1 hk1 hS => ?_)
      revert hw9
      refine fz_a3 ?_
      intro b_r2 f2_0 f2_1
      clear hB9
      have hP := keepAll hP hk1
      generalize H1 = H at hP hS ⊢
      have hP : va_P (dC, dI) vwCl (WX hX aX kX hT hM fX_ready fX_sheet dX_sheet nX_sheet iX_sheetLength xX_reader xX_solver xX_prover xX_values xX_clauses (.ref (hN 0)) ++ (WN hN aN kN iN_arcs fN_from fN_to fN_room fN_cost iN_reached fN_free fN_before fN_flow fN_length fN_stop iN_stops fN_price fN_rest)) H := hP
      have hD := fz_sd hP (hD) rfl
      have hn2 := f2_0
      have hy2 := f2_1
      refine lv_if_eq (tgt := 55) hx hb dX11_arc_42 (by decide) (fun c_42 => ?_) (fun c_42 => ?_)
      · have t_42 : r2.toInt = 0 := toI_eq c_42 rfl (by decide : (0 : Int32).toInt = 0)
        exact vx_throw0 (own := RX11) (cls := "java/lang/IllegalArgumentException") (names := ["java/lang/RuntimeException", "java/lang/Exception"]) (ik := 77) (ic := 79) (A := A) hx hb hst hown (by decide +kernel) (by decide +kernel) (hts _ hm_m_X11_arc_1_0) (hts _ hm_m_X11_arc_1_1) (vx_hat (B := ngX11_79) (fun w h => hts w (List.mem_cons_of_mem _ (List.mem_append_left _ (List.mem_append_left _ (List.mem_append_left _ (List.mem_append_right _ h)))))) (fun _ h => h) (fun w h => va_Nw.use (ngX11_79_ot w h) (hE.2.2.1.2.2.1 w h))) (by decide +kernel) hE.2.1.1 hE.2.1.2 hS (by rw [hml]; exact hl.1) dX11_arc_55 dX11_arc_58 dX11_arc_59 dX11_arc_62 (fun x hx9 => (htab x hx9).elim) (by decide +kernel) (Nat.le_of_ble_eq_true rfl) (by decide +kernel) (by decide +kernel) hlocks (fun t hvm hz hk => ⟨(iN_arcs, fN_from, fN_to, fN_room, fN_cost), ⟨(b_iN_arcs), b_fN_from, b_fN_to, (by first | exact ⟨rfl, rfl, rfl, rfl, rfl⟩ | ((try dsimp only); exact ⟨rfl, rfl, rfl, rfl, rfl⟩))⟩, ⟨Or.inl ⟨rfl, by omega⟩, hP.kept (fun k q h => hk q.1 ((hP k q h).lt)), hD⟩, ⟨Nat.le_trans hS.1 hz, fun q h1 h2 => (hk q (Nat.lt_of_lt_of_le h1 hS.1)).trans (hS.2.1 q h1 h2)⟩⟩) hS.2.2 (by decide +kernel) (by decide +kernel)
      · have t_42 : ¬ r2.toInt = 0 := toI_neq c_42 rfl (by decide : (0 : Int32).toInt = 0)
        refine lv_iload hx hb dX11_arc_45 (lv_at hl 0 rfl) ?_
        refine lv_if_eq (tgt := 55) hx hb dX11_arc_47 (by decide) (fun c_47 => ?_) (fun c_47 => ?_)
        · have t_47 : k0_j2.toInt = 0 := toI_eq c_47 rfl (by decide : (0 : Int32).toInt = 0)
          exact vx_throw0 (own := RX11) (cls := "java/lang/IllegalArgumentException") (names := ["java/lang/RuntimeException", "java/lang/Exception"]) (ik := 77) (ic := 79) (A := A) hx hb hst hown (by decide +kernel) (by decide +kernel) (hts _ hm_m_X11_arc_1_0) (hts _ hm_m_X11_arc_1_1) (vx_hat (B := ngX11_79) (fun w h => hts w (List.mem_cons_of_mem _ (List.mem_append_left _ (List.mem_append_left _ (List.mem_append_left _ (List.mem_append_right _ h)))))) (fun _ h => h) (fun w h => va_Nw.use (ngX11_79_ot w h) (hE.2.2.1.2.2.1 w h))) (by decide +kernel) hE.2.1.1 hE.2.1.2 hS (by rw [hml]; exact hl.1) dX11_arc_55 dX11_arc_58 dX11_arc_59 dX11_arc_62 (fun x hx9 => (htab x hx9).elim) (by decide +kernel) (Nat.le_of_ble_eq_true rfl) (by decide +kernel) (by decide +kernel) hlocks (fun t hvm hz hk => ⟨(iN_arcs, fN_from, fN_to, fN_room, fN_cost), ⟨(b_iN_arcs), b_fN_from, b_fN_to, (by first | exact ⟨rfl, rfl, rfl, rfl, rfl⟩ | ((try dsimp only); exact ⟨rfl, rfl, rfl, rfl, rfl⟩))⟩, ⟨Or.inl ⟨rfl, by omega⟩, hP.kept (fun k q h => hk q.1 ((hP k q h).lt)), hD⟩, ⟨Nat.le_trans hS.1 hz, fun q h1 h2 => (hk q (Nat.lt_of_lt_of_le h1 hS.1)).trans (hS.2.1 q h1 h2)⟩⟩) hS.2.2 (by decide +kernel) (by decide +kernel)
        · have t_47 : ¬ k0_j2.toInt = 0 := toI_neq c_47 rfl (by decide : (0 : Int32).toInt = 0)
          refine lv_iload_n hx hb dX11_arc_50 rfl (lv_at hl 2 rfl) ?_
          refine lv_iload_n hx hb dX11_arc_51 rfl (lv_at hl 3 rfl) ?_
          refine lv_icmp_ne (tgt := 63) hx hb dX11_arc_52 (by decide) (fun c_52 => ?_) (fun c_52 => ?_)
          · have t_52 : p1.toInt ≠ p2.toInt := toI_ne c_52 rfl rfl
            refine lv_aload_n hx hb dX11_arc_63 rfl (lv_at hl 1 rfl) ?_
            have hFc := allFree hD hS hA
            refine va_callr (va_runV (As := []) (rest := []) ⟨hx, hb, hml, hown, hts⟩ (m_X11_theNets_1 l dC dI hX aX kX hT hM fX_ready fX_sheet dX_sheet nX_sheet iX_sheetLength xX_reader xX_solver xX_prover xX_values xX_clauses hN aN kN iN_arcs fN_from fN_to fN_room fN_cost iN_reached fN_free fN_before fN_flow fN_length fN_stop iN_stops fN_price fN_rest b_fX_sheet (by first | exact b_nX_sheet | with_reducible assumption | exact ⟨by omega, by omega⟩ | assumption) (b_iX_sheetLength) (by first | with_reducible assumption | omega | assumption) (b_iN_arcs) b_fN_from b_fN_to b_fN_before b_fN_stop (b_iN_stops) H.size) (cwV 0 hts gwsMX11_arc_1_2 rfl rfl rfl hd_yX11_theNets_RX11 (by decide +kernel)) (fz_pre (va_recv hK hP (ci := 11) (q0 := 0) rfl rfl) hP hK hD) rfl rfl hl.1 rfl (lv_room (Nat.le_of_ble_eq_true rfl)) dX11_arc_64 (by decide +kernel)) hS (fun q _ h => hFc q h) hFc (fun u ra3 t9_ H locs ht hvm hw9 hB9 hz1 hk1 hS => ?_)
            revert hB9
            refine fz_a2 ?_
            intro hra hB9
            subst hra
            clear hw9
            have hP : va_P (dC, dI) vwCl (WX hX aX kX hT hM fX_ready fX_sheet dX_sheet nX_sheet iX_sheetLength xX_reader xX_solver xX_prover xX_values xX_clauses (.ref (hN 0)) ++ (WN hN aN kN iN_arcs fN_from fN_to fN_room fN_cost iN_reached fN_free fN_before fN_flow fN_length fN_stop iN_stops fN_price fN_rest)) H := fz_P ht hB9.1
            have hD := fz_sd hP (hB9.2.weaken (fun _ q _ h => hFc q.1 h)) rfl
            refine va_get (D := (dC, dI)) (ci := 2) (v := .int iN_arcs) (C := RX2) (T := TX2) (N := 14) hx hb hts iwsMX11_arc_1_in2 hown hK hP 3 rfl rfl 0 (by decide) (hts (.fieldLink RX11 429 "OptimaWorks$NetDesk" "arcs" "I") (by decide +kernel)) (fun _ h9 => h9) rfl dX11_arc_67 ?_
            refine lv_bipush (v := 40) hx hb dX11_arc_70 (by decide) ?_
            refine lv_icmp_lt (tgt := 83) hx hb dX11_arc_72 (by decide) (fun c_72 => ?_) (fun c_72 => ?_)
            · have t_72 : iN_arcs.toInt < 40 := toI_lt c_72 rfl (by decide : (40 : Int32).toInt = 40)
              refine lv_aload_n hx hb dX11_arc_83 rfl (lv_at hl 1 rfl) ?_
              refine va_get (D := (dC, dI)) (ci := 11) (v := .ref (hN 0)) (C := RX11) (T := TX11) (N := 11) hx hb hts iwsMX11_arc_1_in11 hown hK hP 0 rfl rfl 10 (by decide) (hts (.fieldLink RX11 415 "OptimaWorks" "nets" "LOptimaWorks$NetDesk;") (by decide +kernel)) (fun _ h9 => h9) rfl dX11_arc_84 ?_
              refine lv_iload_n hx hb dX11_arc_87 rfl (lv_at hl 2 rfl) ?_
              refine lv_iload_n hx hb dX11_arc_88 rfl (lv_at hl 3 rfl) ?_
              refine lv_iload_n hx hb dX11_arc_89 rfl (lv_at hl 4 rfl) ?_
              refine lv_iload hx hb dX11_arc_90 (lv_at hl 5 rfl) ?_
              have p9 := cj_2_1 (WX hX aX kX hT hM fX_ready fX_sheet dX_sheet nX_sheet iX_sheetLength xX_reader xX_solver xX_prover xX_values xX_clauses (.ref (hN 0))) (WN hN aN kN iN_arcs fN_from fN_to fN_room fN_cost iN_reached fN_free fN_before fN_flow fN_length fN_stop iN_stops fN_price fN_rest)
              have hPc := hP.mem (fun q h => p9.mem_iff.mpr (List.mem_append_left _ h))
              have hDc := (hD.perm p9).left
              have hKc : va_K (dC, dI) vwCl (tN kN) _ := hK.sub [2, 3, 4, 5, 6, 7, 8, 9, 10, 11, 12] rfl
              have hFc := freeG p9 hD hS hA
              refine va_calli (va_runV (As := [.int p1, .int p2, .int p3, .int p4]) (rest := []) ⟨hx, hb, hml, hown, hts⟩ (m_X2_addArc l dC dI hN aN kN iN_arcs fN_from fN_to fN_room fN_cost iN_reached fN_free fN_before fN_flow fN_length fN_stop iN_stops fN_price fN_rest p1 p2 p3 p4 (b_iN_arcs) b_fN_from b_fN_to b_fN_before b_fN_stop (b_iN_stops) (by first | exact b_p1 | with_reducible assumption | exact ⟨by omega, by omega⟩ | assumption) (by first | exact b_p2 | with_reducible assumption | exact ⟨by omega, by omega⟩ | assumption) (by first | with_reducible assumption | omega | (rw [iI_t (by omega) (by omega)]; omega) | decide | assumption) H.size) (cwV 4 hts gwsMX11_arc_1_3 rfl rfl rfl hd_yX2_addArc_RX2 (by decide +kernel)) (fz_pre (va_recv hK hP (ci := 2) (q0 := 3) rfl rfl) hPc hKc hDc) rfl rfl hl.1 rfl (lv_room (Nat.le_of_ble_eq_true rfl)) dX11_arc_92 (by decide +kernel)) hS (fun q _ h => hFc q h) hFc (fun r4 u t9_ H locs ht hvm hw9 hB9 hz1 hk1 hS => ?_)
              revert u hw9 hB9
              refine fz_p5 ?_
              intro iN_arcs_4 fN_from_4 fN_to_4 fN_room_4 fN_cost_4 hw9 hB9
              try dsimp only at hw9 hB9
              revert hw9
              refine fz_a9 ?_
              intro b_iN_arcs_4 b_fN_from_4 b_fN_to_4 f4_0 f4_1 f4_2 f4_3 f4_4 f4_5
              have p8 := cj_2_1 (WX hX aX kX hT hM fX_ready fX_sheet dX_sheet nX_sheet iX_sheetLength xX_reader xX_solver xX_prover xX_values xX_clauses (.ref (hN 0))) (WN hN aN kN iN_arcs_4 fN_from_4 fN_to_4 fN_room_4 fN_cost_4 iN_reached fN_free fN_before fN_flow fN_length fN_stop iN_stops fN_price fN_rest)
              obtain ⟨hP, hD⟩ := frameG p9 p8 hP hD hk1 hFc (fz_P ht hB9.1) hB9.2
              refine vx_ret ?_
              refine W.known (fun hz9 _ => ?_)
              refine W.widen (k := 1) (n := 6) (by decide +kernel) (by decide +kernel) ?_
              exact W.iret (v := r4) hx hb hr (fun t9_ ht hW => ⟨⟨r4, (iN_arcs_4, fN_from_4, fN_to_4, fN_room_4, fN_cost_4), rfl, ⟨b_iN_arcs_4, b_fN_from_4, b_fN_to_4, (by (try dsimp only); first | assumption | omega), (by (try dsimp only); first | assumption | omega), (by (try dsimp only); assumption), (by (try dsimp only); assumption), (by (try dsimp only); assumption), (by (try dsimp only); assumption), (by (try dsimp only); omega)⟩, by rw [ht]; exact hP, hD, by rw [ht]; first | done | exact Nat.le_antisymm hz9 hS.1⟩, hS.F ht⟩) hS.2.2 dX11_arc_95
            · have t_72 : ¬ iN_arcs.toInt < 40 := toI_nlt c_72 rfl (by decide : (40 : Int32).toInt = 40)
              exact vx_throw0 (own := RX11) (cls := "java/lang/IllegalStateException") (names := ["java/lang/RuntimeException", "java/lang/Exception"]) (ik := 159) (ic := 161) (A := A) hx hb hst hown (by decide +kernel) (by decide +kernel) (hts (.classLink RX11 159 "java/lang/IllegalStateException") (by decide +kernel)) (hts (.initialized "java/lang/IllegalStateException") (by decide +kernel)) (vx_hat (B := ngX11_161) (fun w h => hts w (List.mem_cons_of_mem _ (List.mem_append_right _ h))) (fun _ h => h) (fun w h => va_Nw.use (ngX11_161_ot w h) (hE.2.2.1.2.1 w h))) (by decide +kernel) hE.2.1.1 hE.2.1.2 hS (by rw [hml]; exact hl.1) dX11_arc_75 dX11_arc_78 dX11_arc_79 dX11_arc_82 (fun x hx9 => (htab x hx9).elim) (by decide +kernel) (Nat.le_of_ble_eq_true rfl) (by decide +kernel) (by decide +kernel) hlocks (fun t hvm hz hk => ⟨(iN_arcs, fN_from, fN_to, fN_room, fN_cost), ⟨(b_iN_arcs), b_fN_from, b_fN_to, (by first | exact ⟨rfl, rfl, rfl, rfl, rfl⟩ | ((try dsimp only); exact ⟨rfl, rfl, rfl, rfl, rfl⟩))⟩, ⟨Or.inr (⟨rfl, by omega⟩), hP.kept (fun k q h => hk q.1 ((hP k q h).lt)), hD⟩, ⟨Nat.le_trans hS.1 hz, fun q h1 h2 => (hk q (Nat.lt_of_lt_of_le h1 hS.1)).trans (hS.2.1 q h1 h2)⟩⟩) hS.2.2 (by decide +kernel) (by decide +kernel)
          · have t_52 : p1.toInt = p2.toInt := toI_nne c_52 rfl rfl
            exact vx_throw0 (own := RX11) (cls := "java/lang/IllegalArgumentException") (names := ["java/lang/RuntimeException", "java/lang/Exception"]) (ik := 77) (ic := 79) (A := A) hx hb hst hown (by decide +kernel) (by decide +kernel) (hts _ hm_m_X11_arc_1_0) (hts _ hm_m_X11_arc_1_1) (vx_hat (B := ngX11_79) (fun w h => hts w (List.mem_cons_of_mem _ (List.mem_append_left _ (List.mem_append_left _ (List.mem_append_left _ (List.mem_append_right _ h)))))) (fun _ h => h) (fun w h => va_Nw.use (ngX11_79_ot w h) (hE.2.2.1.2.2.1 w h))) (by decide +kernel) hE.2.1.1 hE.2.1.2 hS (by rw [hml]; exact hl.1) dX11_arc_55 dX11_arc_58 dX11_arc_59 dX11_arc_62 (fun x hx9 => (htab x hx9).elim) (by decide +kernel) (Nat.le_of_ble_eq_true rfl) (by decide +kernel) (by decide +kernel) hlocks (fun t hvm hz hk => ⟨(iN_arcs, fN_from, fN_to, fN_room, fN_cost), ⟨(b_iN_arcs), b_fN_from, b_fN_to, (by first | exact ⟨rfl, rfl, rfl, rfl, rfl⟩ | ((try dsimp only); exact ⟨rfl, rfl, rfl, rfl, rfl⟩))⟩, ⟨Or.inl ⟨rfl, by omega⟩, hP.kept (fun k q h => hk q.1 ((hP k q h).lt)), hD⟩, ⟨Nat.le_trans hS.1 hz, fun q h1 h2 => (hk q (Nat.lt_of_lt_of_le h1 hS.1)).trans (hS.2.1 q h1 h2)⟩⟩) hS.2.2 (by decide +kernel) (by decide +kernel)
theorem dX11_unarc_0 : decode cX11_unarc 0 = .ok (.aload_n 0, 1) := dk_42 (by decide +kernel)
theorem dX11_unarc_1 : decode cX11_unarc 1 = .ok (.invokevirtual 425, 3) := dk_182 (by decide +kernel)
theorem dX11_unarc_4 : decode cX11_unarc 4 = .ok (.invokevirtual 435, 3) := dk_182 (by decide +kernel)
theorem dX11_unarc_7 : decode cX11_unarc 7 = .ok (.ireturn, 1) := dk_172 (by decide +kernel)
def wsMX11_unarc_1 : List Cond := .code yX11_unarc cX11_unarc 1 (some .boolean) :: ([] ++ (wsV RX11 425 RX11 yX11_theNets wsMX11_theNets_1) ++ (wsV RX11 435 RX2 yX2_dropArc wsMX2_dropArc))
theorem gwsMX11_unarc_1_0 : GoodIn wsMX11_unarc_1 (wsV RX11 425 RX11 yX11_theNets wsMX11_theNets_1) := goodIn_sub (fun _ h => List.mem_cons_of_mem _ (List.mem_append_left _ (List.mem_append_right _ h))) (gdV (by decide +kernel) gdwsMX11_theNets_1)
theorem gwsMX11_unarc_1_1 : GoodIn wsMX11_unarc_1 (wsV RX11 435 RX2 yX2_dropArc wsMX2_dropArc) := goodIn_sub (fun _ h => List.mem_cons_of_mem _ (List.mem_append_right _ h)) (gdV (by decide +kernel) gdwsMX2_dropArc)
theorem gdwsMX11_unarc_1 : wsMX11_unarc_1.all goodWord = true := gdC rfl (gdA (gdA (by decide +kernel : ([] : List Cond).all goodWord = true) (gdV (by decide +kernel) gdwsMX11_theNets_1)) (gdV (by decide +kernel) gdwsMX2_dropArc))
set_option maxHeartbeats 4000000 in
set_option maxRecDepth 100000 in
/-- an arc less -/
theorem m_X11_unarc_1 (l : Launch) (dC : Nat → ClassId) (dI : Nat → Nat → Nat) (hX : Nat → Nat) (aX : Nat → Nat) (kX : Nat → ClassId) (hT : Nat → Nat) (hM : Nat → Nat) (fX_ready : Nat → Int32) (fX_sheet : Nat → Int32) (dX_sheet : Nat) (nX_sheet : Nat) (iX_sheetLength : Int32) (xX_reader : Value) (xX_solver : Value) (xX_prover : Value) (xX_values : Value) (xX_clauses : Value) (hN : Nat → Nat) (aN : Nat → Nat) (kN : Nat → ClassId) (iN_arcs : Int32) (fN_from : Nat → Int32) (fN_to : Nat → Int32) (fN_room : Nat → Int32) (fN_cost : Nat → Int32) (iN_reached : Int32) (fN_free : Nat → Int32) (fN_before : Nat → Int32) (fN_flow : Nat → Int32) (fN_length : Nat → Int32) (fN_stop : Nat → Int32) (iN_stops : Int32) (fN_price : Nat → Int32) (fN_rest : Nat → Int32) (b_fX_sheet : ∀ q : Nat, (-128) ≤ (fX_sheet q).toInt ∧ (fX_sheet q).toInt ≤ 127) (b_nX_sheet : 64 ≤ nX_sheet ∧ nX_sheet ≤ 60000) (b_iX_sheetLength : 0 ≤ iX_sheetLength.toInt ∧ iX_sheetLength.toInt ≤ 30000) (b_shl : iX_sheetLength.toInt ≤ ((nX_sheet : Nat) : Int)) (b_iN_arcs : 0 ≤ iN_arcs.toInt ∧ iN_arcs.toInt ≤ 40) (b_fN_from : ∀ q : Nat, 0 ≤ (fN_from q).toInt ∧ (fN_from q).toInt ≤ 11) (b_fN_to : ∀ q : Nat, 0 ≤ (fN_to q).toInt ∧ (fN_to q).toInt ≤ 11) (b_fN_before : ∀ q : Nat, 0 ≤ (fN_before q).toInt ∧ (fN_before q).toInt ≤ 79) (b_fN_stop : ∀ q : Nat, 0 ≤ (fN_stop q).toInt ∧ (fN_stop q).toInt ≤ 11) (b_iN_stops : 0 ≤ iN_stops.toInt ∧ iN_stops.toInt ≤ 8) (sz : Nat) : Met l yX11_unarc wsMX11_unarc_1 ({ frames := 1, cells := 0, slots := 0, locals := 20 }) (va_Pc [.ref (hX 0)] (fun U => U.heap.size = sz ∧ va_P (dC, dI) vwCl (WX hX aX kX hT hM fX_ready fX_sheet dX_sheet nX_sheet iX_sheetLength xX_reader xX_solver xX_prover xX_values xX_clauses (.ref (hN 0)) ++ (WN hN aN kN iN_arcs fN_from fN_to fN_room fN_cost iN_reached fN_free fN_before fN_flow fN_length fN_stop iN_stops fN_price fN_rest)) U.heap ∧ va_K (dC, dI) vwCl (tX kX ++ (tN kN)) U ∧ va_D (fun _ => True) (WX hX aX kX hT hM fX_ready fX_sheet dX_sheet nX_sheet iX_sheetLength xX_reader xX_solver xX_prover xX_values xX_clauses (.ref (hN 0)) ++ (WN hN aN kN iN_arcs fN_from fN_to fN_room fN_cost iN_reached fN_free fN_before fN_flow fN_length fN_stop iN_stops fN_price fN_rest)))) (va_Qi (fun (r : Int32) (u : Int32) => (0 ≤ u.toInt ∧ u.toInt ≤ 40) ∧ (0 ≤ r.toInt ∧ r.toInt ≤ 1) ∧ ((iN_arcs.toInt = 0 ∧ r.toInt = 0 ∧ u.toInt = 0) ∨ (0 < iN_arcs.toInt ∧ r.toInt = 1 ∧ u.toInt = iN_arcs.toInt - 1))) (fun (u : Int32) t => va_P (dC, dI) vwCl (WX hX aX kX hT hM fX_ready fX_sheet dX_sheet nX_sheet iX_sheetLength xX_reader xX_solver xX_prover xX_values xX_clauses (.ref (hN 0)) ++ (WN hN aN kN u fN_from fN_to fN_room fN_cost iN_reached fN_free fN_before fN_flow fN_length fN_stop iN_stops fN_price fN_rest)) t.heap ∧ va_D (va_A (WX hX aX kX hT hM fX_ready fX_sheet dX_sheet nX_sheet iX_sheetLength xX_reader xX_solver xX_prover xX_values xX_clauses (.ref (hN 0)) ++ (WN hN aN kN iN_arcs fN_from fN_to fN_room fN_cost iN_reached fN_free fN_before fN_flow fN_length fN_stop iN_stops fN_price fN_rest)) sz) (WX hX aX kX hT hM fX_ready fX_sheet dX_sheet nX_sheet iX_sheetLength xX_reader xX_solver xX_prover xX_values xX_clauses (.ref (hN 0)) ++ (WN hN aN kN u fN_from fN_to fN_room fN_cost iN_reached fN_free fN_before fN_flow fN_length fN_stop iN_stops fN_price fN_rest))) (va_A (WX hX aX kX hT hM fX_ready fX_sheet dX_sheet nX_sheet iX_sheetLength xX_reader xX_solver xX_prover xX_values xX_clauses (.ref (hN 0)) ++ (WN hN aN kN iN_arcs fN_from fN_to fN_room fN_cost iN_reached fN_free fN_before fN_flow fN_length fN_stop iN_stops fN_price fN_rest)) sz)) 0 0 (va_A (WX hX aX kX hT hM fX_ready fX_sheet dX_sheet nX_sheet iX_sheetLength xX_reader xX_solver xX_prover xX_values xX_clauses (.ref (hN 0)) ++ (WN hN aN kN iN_arcs fN_from fN_to fN_room fN_cost iN_reached fN_free fN_before fN_flow fN_length fN_stop iN_stops fN_price fN_rest)) sz) := by
  refine Met.ofW (cc := cX11_unarc) (maxL := 1) (ret := (some .boolean)) (by decide) rfl ?_
  intro p e s m args below meth c s₁ B hml hv
  obtain ⟨rfl, hsz, hP, hK, hD0⟩ := hv
  have hx := B.exec
  have hb := B.bytes
  have hr := B.returns
  have hts := atoms_spec (ws := wsMX11_unarc_1) B.pre
  have hown : s.vm.findClass RX11 = some m.cls := findClass_of_methodNamed B.named
  have hlocks := B.notSynchronized
  subst hsz
  have hD := hD0.self (sz := s.heap.size)
  generalize hAe : va_A (WX hX aX kX hT hM fX_ready fX_sheet dX_sheet nX_sheet iX_sheetLength xX_reader xX_solver xX_prover xX_values xX_clauses (.ref (hN 0)) ++ (WN hN aN kN iN_arcs fN_from fN_to fN_room fN_cost iN_reached fN_free fN_before fN_flow fN_length fN_stop iN_stops fN_price fN_rest)) s.heap.size = A at hD ⊢
  have hA : ∀ q : Nat, s.heap.size ≤ q → A q := fun q h => by rw [← hAe]; exact Or.inr h
  have hS : va_S A s.heap s.heap [] := va_S.rf
  have hl := lv_entry ([.ref (hX 0)]) (n := 1) (Nat.le_of_ble_eq_true rfl)
  rw [lg_entry_eq]
  generalize (lg_sl ([.ref (hX 0)]) ++ List.replicate (1 - (lg_sl ([.ref (hX 0)])).length) Slot.unset).toArray = ls at hl ⊢
  have hl : lv_has ls 1 [(0, .ref (hX 0))] := hl
  refine lv_aload_n hx hb dX11_unarc_0 rfl (lv_at hl 0 rfl) ?_
  have hFc := allFree hD hS hA
  refine va_callr (va_runV (As := []) (rest := []) ⟨hx, hb, hml, hown, hts⟩ (m_X11_theNets_1 l dC dI hX aX kX hT hM fX_ready fX_sheet dX_sheet nX_sheet iX_sheetLength xX_reader xX_solver xX_prover xX_values xX_clauses hN aN kN iN_arcs fN_from fN_to fN_room fN_cost iN_reached fN_free fN_before fN_flow fN_length fN_stop iN_stops fN_price fN_rest b_fX_sheet (by first | exact b_nX_sheet | with_reducible assumption | exact ⟨by omega, by omega⟩ | assumption) (b_iX_sheetLength) (by first | with_reducible assumption | omega | assumption) (b_iN_arcs) b_fN_from b_fN_to b_fN_before b_fN_stop (b_iN_stops) s.heap.size) (cwV 0 hts gwsMX11_unarc_1_0 rfl rfl rfl hd_yX11_theNets_RX11 (by decide +kernel)) (fz_pre (va_recv hK hP (ci := 11) (q0 := 0) rfl rfl) hP hK hD) rfl rfl hl.1 rfl (lv_room (Nat.le_of_ble_eq_true rfl)) dX11_unarc_1 (by decide +kernel)) hS (fun q _ h => hFc q h) hFc (fun u ra1 t9_ H locs ht hvm hw9 hB9 hz1 hk1 hS => ?_)
  revert hB9
  refine fz_a2 ?_
  intro hra hB9
  subst hra
  clear hw9
  have hP : va_P (dC, dI) vwCl (WX hX aX kX hT hM fX_ready fX_sheet dX_sheet nX_sheet iX_sheetLength xX_reader xX_solver xX_prover xX_values xX_clauses (.ref (hN 0)) ++ (WN hN aN kN iN_arcs fN_from fN_to fN_room fN_cost iN_reached fN_free fN_before fN_flow fN_length fN_stop iN_stops fN_price fN_rest)) H := fz_P ht hB9.1
  have hD := fz_sd hP (hB9.2.weaken (fun _ q _ h => hFc q.1 h)) rfl
  have p9 := cj_2_1 (WX hX aX kX hT hM fX_ready fX_sheet dX_sheet nX_sheet iX_sheetLength xX_reader xX_solver xX_prover xX_values xX_clauses (.ref (hN 0))) (WN hN aN kN iN_arcs fN_from fN_to fN_room fN_cost iN_reached fN_free fN_before fN_flow fN_length fN_stop iN_stops fN_price fN_rest)
  have hPc := hP.mem (fun q h => p9.mem_iff.mpr (List.mem_append_left _ h))
  have hDc := (hD.perm p9).left
  have hKc : va_K (dC, dI) vwCl (tN kN) _ := hK.sub [2, 3, 4, 5, 6, 7, 8, 9, 10, 11, 12] rfl
  have hFc := freeG p9 hD hS hA
  refine va_calli (va_runV (As := []) (rest := []) ⟨hx, hb, hml, hown, hts⟩ (m_X2_dropArc l dC dI hN aN kN iN_arcs fN_from fN_to fN_room fN_cost iN_reached fN_free fN_before fN_flow fN_length fN_stop iN_stops fN_price fN_rest (b_iN_arcs) b_fN_from b_fN_to b_fN_before b_fN_stop (b_iN_stops) H.size) (cwV 0 hts gwsMX11_unarc_1_1 rfl rfl rfl hd_yX2_dropArc_RX2 (by decide +kernel)) (fz_pre (va_recv hK hP (ci := 2) (q0 := 3) rfl rfl) hPc hKc hDc) rfl rfl hl.1 rfl (lv_room (Nat.le_of_ble_eq_true rfl)) dX11_unarc_4 (by decide +kernel)) hS (fun q _ h => hFc q h) hFc (fun r2 iN_arcs_2 t9_ H locs ht hvm hw9 hB9 hz1 hk1 hS => ?_)
  revert hw9
  refine fz_a3 ?_
  intro b_iN_arcs_2 b_r2 f2_0
  have p8 := cj_2_1 (WX hX aX kX hT hM fX_ready fX_sheet dX_sheet nX_sheet iX_sheetLength xX_reader xX_solver xX_prover xX_values xX_clauses (.ref (hN 0))) (WN hN aN kN iN_arcs_2 fN_from fN_to fN_room fN_cost iN_reached fN_free fN_before fN_flow fN_length fN_stop iN_stops fN_price fN_rest)
  obtain ⟨hP, hD⟩ := frameG p9 p8 hP hD hk1 hFc (fz_P ht hB9.1) hB9.2
  refine W.widen (k := 0) (n := 0) (by decide +kernel) (by decide +kernel) ?_
  exact W.zret (v := r2) hx hb hr (by rcases z01 (x := r2) (by first | exact b_r2 | with_reducible assumption | exact ⟨by omega, by omega⟩ | assumption) with h9 | h9 <;> rw [h9] <;> rfl) (fun t9_ ht hW => ⟨⟨r2, iN_arcs_2, rfl, ⟨b_iN_arcs_2, (by first | exact b_r2 | with_reducible assumption | exact ⟨by omega, by omega⟩ | assumption), (by (try dsimp only); assumption)⟩, by rw [ht]; exact hP, hD⟩, hS.F ht⟩) hS.2.2 dX11_unarc_7
theorem dX11_greatest_0 : decode cX11_greatest 0 = .ok (.iload_n 1, 1) := dk_27 (by decide +kernel)
theorem dX11_greatest_1 : decode cX11_greatest 1 = .ok (.iload_n 2, 1) := dk_28 (by decide +kernel)
theorem dX11_greatest_2 : decode cX11_greatest 2 = .ok (.invokestatic 438, 3) := dk_184 (by decide +kernel)
theorem dX11_greatest_5 : decode cX11_greatest 5 = .ok (.aload_n 0, 1) := dk_42 (by decide +kernel)
theorem dX11_greatest_6 : decode cX11_greatest 6 = .ok (.invokevirtual 425, 3) := dk_182 (by decide +kernel)
theorem dX11_greatest_9 : decode cX11_greatest 9 = .ok (.iload_n 1, 1) := dk_27 (by decide +kernel)
theorem dX11_greatest_10 : decode cX11_greatest 10 = .ok (.iload_n 2, 1) := dk_28 (by decide +kernel)
theorem dX11_greatest_11 : decode cX11_greatest 11 = .ok (.invokevirtual 441, 3) := dk_182 (by decide +kernel)
theorem dX11_greatest_14 : decode cX11_greatest 14 = .ok (.ireturn, 1) := dk_172 (by decide +kernel)
def wsMX11_greatest_1 : List Cond := .code yX11_greatest cX11_greatest 3 (some .int) :: ([] ++ (va_wsS RX11 438 yX11_needNodes wsMX11_needNodes) ++ (wsV RX11 425 RX11 yX11_theNets wsMX11_theNets_1) ++ (wsV RX11 441 RX2 yX2_fill wsMX2_fill))
theorem gwsMX11_greatest_1_0 : GoodIn wsMX11_greatest_1 (va_wsS RX11 438 yX11_needNodes wsMX11_needNodes) := goodIn_sub (fun _ h => List.mem_cons_of_mem _ (List.mem_append_left _ (List.mem_append_left _ (List.mem_append_right _ h)))) (gdS (by decide +kernel) gdwsMX11_needNodes)
theorem gwsMX11_greatest_1_1 : GoodIn wsMX11_greatest_1 (wsV RX11 425 RX11 yX11_theNets wsMX11_theNets_1) := goodIn_sub (fun _ h => List.mem_cons_of_mem _ (List.mem_append_left _ (List.mem_append_right _ h))) (gdV (by decide +kernel) gdwsMX11_theNets_1)
theorem gwsMX11_greatest_1_2 : GoodIn wsMX11_greatest_1 (wsV RX11 441 RX2 yX2_fill wsMX2_fill) := goodIn_sub (fun _ h => List.mem_cons_of_mem _ (List.mem_append_right _ h)) (gdV (by decide +kernel) gdwsMX2_fill)
theorem gdwsMX11_greatest_1 : wsMX11_greatest_1.all goodWord = true := gdC rfl (gdA (gdA (gdA (by decide +kernel : ([] : List Cond).all goodWord = true) (gdS (by decide +kernel) gdwsMX11_needNodes)) (gdV (by decide +kernel) gdwsMX11_theNets_1)) (gdV (by decide +kernel) gdwsMX2_fill))
set_option maxHeartbeats 4000000 in
set_option maxRecDepth 100000 in
/-- a greatest flow -/
theorem m_X11_greatest_1 (l : Launch) (hst : l.stackTraces = false) (dC : Nat → ClassId) (dI : Nat → Nat → Nat) (hX : Nat → Nat) (aX : Nat → Nat) (kX : Nat → ClassId) (hT : Nat → Nat) (hM : Nat → Nat) (fX_ready : Nat → Int32) (fX_sheet : Nat → Int32) (dX_sheet : Nat) (nX_sheet : Nat) (iX_sheetLength : Int32) (xX_reader : Value) (xX_solver : Value) (xX_prover : Value) (xX_values : Value) (xX_clauses : Value) (hN : Nat → Nat) (aN : Nat → Nat) (kN : Nat → ClassId) (iN_arcs : Int32) (fN_from : Nat → Int32) (fN_to : Nat → Int32) (fN_room : Nat → Int32) (fN_cost : Nat → Int32) (iN_reached : Int32) (fN_free : Nat → Int32) (fN_before : Nat → Int32) (fN_flow : Nat → Int32) (fN_length : Nat → Int32) (fN_stop : Nat → Int32) (iN_stops : Int32) (fN_price : Nat → Int32) (fN_rest : Nat → Int32) (p1 : Int32) (p2 : Int32) (b_fX_sheet : ∀ q : Nat, (-128) ≤ (fX_sheet q).toInt ∧ (fX_sheet q).toInt ≤ 127) (b_nX_sheet : 64 ≤ nX_sheet ∧ nX_sheet ≤ 60000) (b_iX_sheetLength : 0 ≤ iX_sheetLength.toInt ∧ iX_sheetLength.toInt ≤ 30000) (b_shl : iX_sheetLength.toInt ≤ ((nX_sheet : Nat) : Int)) (b_iN_arcs : 0 ≤ iN_arcs.toInt ∧ iN_arcs.toInt ≤ 40) (b_fN_from : ∀ q : Nat, 0 ≤ (fN_from q).toInt ∧ (fN_from q).toInt ≤ 11) (b_fN_to : ∀ q : Nat, 0 ≤ (fN_to q).toInt ∧ (fN_to q).toInt ≤ 11) (b_fN_before : ∀ q : Nat, 0 ≤ (fN_before q).toInt ∧ (fN_before q).toInt ≤ 79) (b_fN_stop : ∀ q : Nat, 0 ≤ (fN_stop q).toInt ∧ (fN_stop q).toInt ≤ 11) (b_iN_stops : 0 ≤ iN_stops.toInt ∧ iN_stops.toInt ≤ 8) (hVal : tVal (iN_arcs.toInt, fN_from, fN_to, fN_room, fN_cost)) (hRm : tRm (iN_arcs.toInt, fN_from, fN_to, fN_room, fN_cost)) (sz : Nat) : vx_Met l yX11_greatest wsMX11_greatest_1 ({ frames := 7, cells := 1, slots := 6, locals := 102 }) (va_Pc [.ref (hX 0), .int p1, .int p2] (fun U => U.heap.size = sz ∧ va_P (dC, dI) vwCl (WX hX aX kX hT hM fX_ready fX_sheet dX_sheet nX_sheet iX_sheetLength xX_reader xX_solver xX_prover xX_values xX_clauses (.ref (hN 0)) ++ (WN hN aN kN iN_arcs fN_from fN_to fN_room fN_cost iN_reached fN_free fN_before fN_flow fN_length fN_stop iN_stops fN_price fN_rest)) U.heap ∧ va_K (dC, dI) vwCl (tX kX ++ (tN kN)) U ∧ va_D (fun _ => True) (WX hX aX kX hT hM fX_ready fX_sheet dX_sheet nX_sheet iX_sheetLength xX_reader xX_solver xX_prover xX_values xX_clauses (.ref (hN 0)) ++ (WN hN aN kN iN_arcs fN_from fN_to fN_room fN_cost iN_reached fN_free fN_before fN_flow fN_length fN_stop iN_stops fN_price fN_rest)) ∧ CE (va_A (WX hX aX kX hT hM fX_ready fX_sheet dX_sheet nX_sheet iX_sheetLength xX_reader xX_solver xX_prover xX_values xX_clauses (.ref (hN 0)) ++ (WN hN aN kN iN_arcs fN_from fN_to fN_room fN_cost iN_reached fN_free fN_before fN_flow fN_length fN_stop iN_stops fN_price fN_rest)) sz) U U.heap)) (va_Qi (fun (r : Int32) (u : (Int32) × (Nat → Int32) × (Nat → Int32)) => (∀ q : Nat, 0 ≤ ((u.2.2) q).toInt ∧ ((u.2.2) q).toInt ≤ 79) ∧ (((0 ≤ p1.toInt ∧ p1.toInt ≤ 11) ∧ 0 ≤ p2.toInt ∧ p2.toInt ≤ 11) ∧ p1.toInt ≠ p2.toInt) ∧ (mxF (iN_arcs.toInt, fN_from, fN_to, fN_room, fN_cost) p1.toInt.toNat p2.toInt.toNat r.toInt)) (fun (u : (Int32) × (Nat → Int32) × (Nat → Int32)) t => va_P (dC, dI) vwCl (WX hX aX kX hT hM fX_ready fX_sheet dX_sheet nX_sheet iX_sheetLength xX_reader xX_solver xX_prover xX_values xX_clauses (.ref (hN 0)) ++ (WN hN aN kN iN_arcs fN_from fN_to fN_room fN_cost (u.1) (u.2.1) (u.2.2) fN_flow fN_length fN_stop iN_stops fN_price fN_rest)) t.heap ∧ va_D (va_A (WX hX aX kX hT hM fX_ready fX_sheet dX_sheet nX_sheet iX_sheetLength xX_reader xX_solver xX_prover xX_values xX_clauses (.ref (hN 0)) ++ (WN hN aN kN iN_arcs fN_from fN_to fN_room fN_cost iN_reached fN_free fN_before fN_flow fN_length fN_stop iN_stops fN_price fN_rest)) sz) (WX hX aX kX hT hM fX_ready fX_sheet dX_sheet nX_sheet iX_sheetLength xX_reader xX_solver xX_prover xX_values xX_clauses (.ref (hN 0)) ++ (WN hN aN kN iN_arcs fN_from fN_to fN_room fN_cost (u.1) (u.2.1) (u.2.2) fN_flow fN_length fN_stop iN_stops fN_price fN_rest)) ∧ t.heap.size = sz) (va_A (WX hX aX kX hT hM fX_ready fX_sheet dX_sheet nX_sheet iX_sheetLength xX_reader xX_solver xX_prover xX_values xX_clauses (.ref (hN 0)) ++ (WN hN aN kN iN_arcs fN_from fN_to fN_room fN_cost iN_reached fN_free fN_before fN_flow fN_length fN_stop iN_stops fN_price fN_rest)) sz)) (vx_X (fun (u : (Int32) × (Nat → Int32) × (Nat → Int32)) => (∀ q : Nat, 0 ≤ ((u.2.2) q).toInt ∧ ((u.2.2) q).toInt ≤ 79)) (fun E (u : (Int32) × (Nat → Int32) × (Nat → Int32)) t => ((E = "java/lang/IndexOutOfBoundsException" ∧ (¬ ((0 ≤ p1.toInt ∧ p1.toInt ≤ 11) ∧ 0 ≤ p2.toInt ∧ p2.toInt ≤ 11))) ∨ (E = "java/lang/IllegalArgumentException" ∧ (((0 ≤ p1.toInt ∧ p1.toInt ≤ 11) ∧ 0 ≤ p2.toInt ∧ p2.toInt ≤ 11) ∧ p1.toInt = p2.toInt))) ∧ va_P (dC, dI) vwCl (WX hX aX kX hT hM fX_ready fX_sheet dX_sheet nX_sheet iX_sheetLength xX_reader xX_solver xX_prover xX_values xX_clauses (.ref (hN 0)) ++ (WN hN aN kN iN_arcs fN_from fN_to fN_room fN_cost (u.1) (u.2.1) (u.2.2) fN_flow fN_length fN_stop iN_stops fN_price fN_rest)) t.heap ∧ va_D (va_A (WX hX aX kX hT hM fX_ready fX_sheet dX_sheet nX_sheet iX_sheetLength xX_reader xX_solver xX_prover xX_values xX_clauses (.ref (hN 0)) ++ (WN hN aN kN iN_arcs fN_from fN_to fN_room fN_cost iN_reached fN_free fN_before fN_flow fN_length fN_stop iN_stops fN_price fN_rest)) sz) (WX hX aX kX hT hM fX_ready fX_sheet dX_sheet nX_sheet iX_sheetLength xX_reader xX_solver xX_prover xX_values xX_clauses (.ref (hN 0)) ++ (WN hN aN kN iN_arcs fN_from fN_to fN_room fN_cost (u.1) (u.2.1) (u.2.2) fN_flow fN_length fN_stop iN_stops fN_price fN_rest))) (va_A (WX hX aX kX hT hM fX_ready fX_sheet dX_sheet nX_sheet iX_sheetLength xX_reader xX_solver xX_prover xX_values xX_clauses (.ref (hN 0)) ++ (WN hN aN kN iN_arcs fN_from fN_to fN_room fN_cost iN_reached fN_free fN_before fN_flow fN_length fN_stop iN_stops fN_price fN_rest)) sz)) 1 6 (va_A (WX hX aX kX hT hM fX_ready fX_sheet dX_sheet nX_sheet iX_sheetLength xX_reader xX_solver xX_prover xX_values xX_clauses (.ref (hN 0)) ++ (WN hN aN kN iN_arcs fN_from fN_to fN_room fN_cost iN_reached fN_free fN_before fN_flow fN_length fN_stop iN_stops fN_price fN_rest)) sz) := by
  refine vx_ofW (cc := cX11_greatest) (maxL := 3) (ret := (some .int)) (by decide) rfl ?_
  intro p e s m args below meth c s₁ B hml htab hv
  obtain ⟨rfl, hsz, hP, hK, hD0, hE⟩ := hv
  have hx := B.exec
  have hb := B.bytes
  have hr := B.returns
  have hts := atoms_spec (ws := wsMX11_greatest_1) B.pre
  have hown : s.vm.findClass RX11 = some m.cls := findClass_of_methodNamed B.named
  have hlocks := B.notSynchronized
  subst hsz
  have hD := hD0.self (sz := s.heap.size)
  generalize hAe : va_A (WX hX aX kX hT hM fX_ready fX_sheet dX_sheet nX_sheet iX_sheetLength xX_reader xX_solver xX_prover xX_values xX_clauses (.ref (hN 0)) ++ (WN hN aN kN iN_arcs fN_from fN_to fN_room fN_cost iN_reached fN_free fN_before fN_flow fN_length fN_stop iN_stops fN_price fN_rest)) s.heap.size = A at hD hE ⊢
  have hA : ∀ q : Nat, s.heap.size ≤ q → A q := fun q h => by rw [← hAe]; exact Or.inr h
  have hS : va_S A s.heap s.heap [] := va_S.rf
  have hl := lv_entry ([.ref (hX 0), .int p1, .int p2]) (n := 3) (Nat.le_of_ble_eq_true rfl)
  rw [lg_entry_eq]
  generalize (lg_sl ([.ref (hX 0), .int p1, .int p2]) ++ List.replicate (3 - (lg_sl ([.ref (hX 0), .int p1, .int p2])).length) Slot.unset).toArray = ls at hl ⊢
  have hl : lv_has ls 3 [(0, .ref (hX 0)), (1, .int p1), (2, .int p2)] := hl
  refine lv_iload_n hx hb dX11_greatest_0 rfl (lv_at hl 1 rfl) ?_
  refine lv_iload_n hx hb dX11_greatest_1 rfl (lv_at hl 2 rfl) ?_
  refine W.known (fun hz0 _ => ?_)
  have hFc := noneFree hS hA
  refine vx_callv (vx_runS (As := [.int p1, .int p2]) (rest := []) ⟨hx, hb, hml, hown, hts⟩ (m_X11_needNodes l hst dC dI p1 p2 s.heap.size) (va_cwS 2 hts gwsMX11_greatest_1_0 rfl rfl rfl (by decide +kernel) ⟨by decide +kernel, by decide +kernel⟩) ⟨fun a U g mk q => by obtain ⟨q0, q1, qP, qK, qD, qE⟩ := q; exact ⟨q0, q1, qP, va_K.moved (u := U) (U := U.calling g mk a) (Vm.Alike.refl U.vm) qK, qD, qE.call⟩, fun U hU9 hW => ⟨rfl, by rw [hU9], by rw [hU9]; exact nilP, va_K.moved hW.alike (hK.sub (tys' := []) [] rfl), nilD, by rw [hU9]; exact (((hE : CE A s s.heap).kept hS.2.1).narrow (fun q h => hFc q h)).warm hW⟩⟩ rfl rfl hl.1 rfl (lv_room (Nat.le_of_ble_eq_true rfl)) dX11_greatest_2 (by decide +kernel)) hS (fun q _ h => hFc q h) hFc (fun q _ h => hFc q h) (fun E ce q9 u t9_ H1 locs ht hvm hw9 hB9 hz1 hk1 hS hc1 hc2 hc3 => ?_) (fun u t9_ H1 locs ht hvm hw9 hB9 hz1 hk1 hS => ?_)
  · revert hB9
    refine fz_a2 ?_
    intro hEx hB9
    clear hw9
    clear hB9
    have hP := keepAll hP hk1
    generalize H1 = H at hP hS hc1 ⊢
    have hP : va_P (dC, dI) vwCl (WX hX aX kX hT hM fX_ready fX_sheet dX_sheet nX_sheet iX_sheetLength xX_reader xX_solver xX_prover xX_values xX_clauses (.ref (hN 0)) ++ (WN hN aN kN iN_arcs fN_from fN_to fN_room fN_cost iN_reached fN_free fN_before fN_flow fN_length fN_stop iN_stops fN_price fN_rest)) H := hP
    have hD := fz_sd hP (hD) rfl
    exact vx_out (fun x hx9 => (htab x hx9).elim) hlocks hc1 hc2 hc3 (fun t9_ ht hvm => ⟨(iN_reached, fN_free, fN_before), b_fN_before, ⟨(by rcases hEx with h9 | h9; exact Or.inl ⟨h9.1, (by have h8 := h9.2; omega)⟩; exact Or.inr (⟨h9.1, (by have h8 := h9.2; omega)⟩)), by rw [ht]; exact hP, hD⟩, hS.F ht⟩) hS.2.2 (by decide +kernel) (by decide +kernel)
  have f1_0 := hw9
  try dsimp only at f1_0
  obtain ⟨_, hz8⟩ := hB9
  rw [ht] at hz8
  have hz9 : H1.size ≤ s.heap.size + 0 := by rw [hz8]; exact hz0
  refine W.tight (cells2 := 0) (slots2 := 0) hz9 (nS_0 hz9) ?_
  clear hz8 hz9
  have hP := keepAll hP hk1
  generalize H1 = H at hP hS ⊢
  have hP : va_P (dC, dI) vwCl (WX hX aX kX hT hM fX_ready fX_sheet dX_sheet nX_sheet iX_sheetLength xX_reader xX_solver xX_prover xX_values xX_clauses (.ref (hN 0)) ++ (WN hN aN kN iN_arcs fN_from fN_to fN_room fN_cost iN_reached fN_free fN_before fN_flow fN_length fN_stop iN_stops fN_price fN_rest)) H := hP
  have hD := fz_sd hP (hD) rfl
  have hnn := f1_0
  refine lv_aload_n hx hb dX11_greatest_5 rfl (lv_at hl 0 rfl) ?_
  have hFc := allFree hD hS hA
  refine va_callr (va_runV (As := []) (rest := []) ⟨hx, hb, hml, hown, hts⟩ (m_X11_theNets_1 l dC dI hX aX kX hT hM fX_ready fX_sheet dX_sheet nX_sheet iX_sheetLength xX_reader xX_solver xX_prover xX_values xX_clauses hN aN kN iN_arcs fN_from fN_to fN_room fN_cost iN_reached fN_free fN_before fN_flow fN_length fN_stop iN_stops fN_price fN_rest b_fX_sheet (by first | exact b_nX_sheet | with_reducible assumption | exact ⟨by omega, by omega⟩ | assumption) (b_iX_sheetLength) (by first | with_reducible assumption | omega | assumption) (b_iN_arcs) b_fN_from b_fN_to b_fN_before b_fN_stop (b_iN_stops) H.size) (cwV 0 hts gwsMX11_greatest_1_1 rfl rfl rfl hd_yX11_theNets_RX11 (by decide +kernel)) (fz_pre (va_recv hK hP (ci := 11) (q0 := 0) rfl rfl) hP hK hD) rfl rfl hl.1 rfl (lv_room (Nat.le_of_ble_eq_true rfl)) dX11_greatest_6 (by decide +kernel)) hS (fun q _ h => hFc q h) hFc (fun u ra2 t9_ H locs ht hvm hw9 hB9 hz1 hk1 hS => ?_)
  revert hB9
  refine fz_a2 ?_
  intro hra hB9
  subst hra
  clear hw9
  have hP : va_P (dC, dI) vwCl (WX hX aX kX hT hM fX_ready fX_sheet dX_sheet nX_sheet iX_sheetLength xX_reader xX_solver xX_prover xX_values xX_clauses (.ref (hN 0)) ++ (WN hN aN kN iN_arcs fN_from fN_to fN_room fN_cost iN_reached fN_free fN_before fN_flow fN_length fN_stop iN_stops fN_price fN_rest)) H := fz_P ht hB9.1
  have hD := fz_sd hP (hB9.2.weaken (fun _ q _ h => hFc q.1 h)) rfl
  refine lv_iload_n hx hb dX11_greatest_9 rfl (lv_at hl 1 rfl) ?_
  refine lv_iload_n hx hb dX11_greatest_10 rfl (lv_at hl 2 rfl) ?_
  have p9 := cj_2_1 (WX hX aX kX hT hM fX_ready fX_sheet dX_sheet nX_sheet iX_sheetLength xX_reader xX_solver xX_prover xX_values xX_clauses (.ref (hN 0))) (WN hN aN kN iN_arcs fN_from fN_to fN_room fN_cost iN_reached fN_free fN_before fN_flow fN_length fN_stop iN_stops fN_price fN_rest)
  have hPc := hP.mem (fun q h => p9.mem_iff.mpr (List.mem_append_left _ h))
  have hDc := (hD.perm p9).left
  have hKc : va_K (dC, dI) vwCl (tN kN) _ := hK.sub [2, 3, 4, 5, 6, 7, 8, 9, 10, 11, 12] rfl
  have hFc := freeG p9 hD hS hA
  refine va_calli (va_runV (As := [.int p1, .int p2]) (rest := []) ⟨hx, hb, hml, hown, hts⟩ (m_X2_fill l dC dI hN aN kN iN_arcs fN_from fN_to fN_room fN_cost iN_reached fN_free fN_before fN_flow fN_length fN_stop iN_stops fN_price fN_rest p1 p2 (b_iN_arcs) b_fN_from b_fN_to b_fN_before b_fN_stop (b_iN_stops) (by first | exact b_p1 | with_reducible assumption | exact ⟨by omega, by omega⟩ | assumption) (by first | exact b_p2 | with_reducible assumption | exact ⟨by omega, by omega⟩ | assumption) (hVal) (hRm) (by omega) H.size) (cwV 2 hts gwsMX11_greatest_1_2 rfl rfl rfl hd_yX2_fill_RX2 (by decide +kernel)) (fz_pre (va_recv hK hP (ci := 2) (q0 := 3) rfl rfl) hPc hKc hDc) rfl rfl hl.1 rfl (lv_room (Nat.le_of_ble_eq_true rfl)) dX11_greatest_11 (by decide +kernel)) hS (fun q _ h => hFc q h) hFc (fun r3 u t9_ H locs ht hvm hw9 hB9 hz1 hk1 hS => ?_)
  revert u hw9 hB9
  refine fz_p3 ?_
  intro iN_reached_3 fN_free_3 fN_before_3 hw9 hB9
  try dsimp only at hw9 hB9
  revert hw9
  refine fz_a3 ?_
  intro b_fN_before_3 f3_0 f3_1
  have p8 := cj_2_1 (WX hX aX kX hT hM fX_ready fX_sheet dX_sheet nX_sheet iX_sheetLength xX_reader xX_solver xX_prover xX_values xX_clauses (.ref (hN 0))) (WN hN aN kN iN_arcs fN_from fN_to fN_room fN_cost iN_reached_3 fN_free_3 fN_before_3 fN_flow fN_length fN_stop iN_stops fN_price fN_rest)
  obtain ⟨hP, hD⟩ := frameG p9 p8 hP hD hk1 hFc (fz_P ht hB9.1) hB9.2
  refine vx_ret ?_
  refine W.known (fun hz9 _ => ?_)
  refine W.widen (k := 1) (n := 6) (by decide +kernel) (by decide +kernel) ?_
  exact W.iret (v := r3) hx hb hr (fun t9_ ht hW => ⟨⟨r3, (iN_reached_3, fN_free_3, fN_before_3), rfl, ⟨b_fN_before_3, (by (try dsimp only); omega), (by (try dsimp only); assumption)⟩, by rw [ht]; exact hP, hD, by rw [ht]; first | done | exact Nat.le_antisymm hz9 hS.1⟩, hS.F ht⟩) hS.2.2 dX11_greatest_14
theorem dX11_cut_0 : decode cX11_cut 0 = .ok (.iload_n 1, 1) := dk_27 (by decide +kernel)
theorem dX11_cut_1 : decode cX11_cut 1 = .ok (.iload_n 2, 1) := dk_28 (by decide +kernel)
theorem dX11_cut_2 : decode cX11_cut 2 = .ok (.invokestatic 438, 3) := dk_184 (by decide +kernel)
theorem dX11_cut_5 : decode cX11_cut 5 = .ok (.aload_n 0, 1) := dk_42 (by decide +kernel)
theorem dX11_cut_6 : decode cX11_cut 6 = .ok (.invokevirtual 425, 3) := dk_182 (by decide +kernel)
theorem dX11_cut_9 : decode cX11_cut 9 = .ok (.iload_n 1, 1) := dk_27 (by decide +kernel)
theorem dX11_cut_10 : decode cX11_cut 10 = .ok (.iload_n 2, 1) := dk_28 (by decide +kernel)
theorem dX11_cut_11 : decode cX11_cut 11 = .ok (.invokevirtual 441, 3) := dk_182 (by decide +kernel)
theorem dX11_cut_14 : decode cX11_cut 14 = .ok (.pop, 1) := dk_87 (by decide +kernel)
theorem dX11_cut_15 : decode cX11_cut 15 = .ok (.aload_n 0, 1) := dk_42 (by decide +kernel)
theorem dX11_cut_16 : decode cX11_cut 16 = .ok (.getfield 415, 3) := dk_180 (by decide +kernel)
theorem dX11_cut_19 : decode cX11_cut 19 = .ok (.getfield 443, 3) := dk_180 (by decide +kernel)
theorem dX11_cut_22 : decode cX11_cut 22 = .ok (.ireturn, 1) := dk_172 (by decide +kernel)
def wsMX11_cut_1 : List Cond := .code yX11_cut cX11_cut 3 (some .int) :: ([.fieldLink RX11 415 "OptimaWorks" "nets" "LOptimaWorks$NetDesk;", .fieldLink RX11 443 "OptimaWorks$NetDesk" "reached" "I"] ++ wsX20 ++ wsX110 ++ (va_wsS RX11 438 yX11_needNodes wsMX11_needNodes) ++ (wsV RX11 425 RX11 yX11_theNets wsMX11_theNets_1) ++ (wsV RX11 441 RX2 yX2_fill wsMX2_fill))
theorem iwsMX11_cut_1_in2 : ∀ w ∈ wsX20, w ∈ wsMX11_cut_1 := fun _ h => List.mem_cons_of_mem _ (List.mem_append_left _ (List.mem_append_left _ (List.mem_append_left _ (List.mem_append_left _ (List.mem_append_right _ h)))))
theorem iwsMX11_cut_1_in11 : ∀ w ∈ wsX110, w ∈ wsMX11_cut_1 := fun _ h => List.mem_cons_of_mem _ (List.mem_append_left _ (List.mem_append_left _ (List.mem_append_left _ (List.mem_append_right _ h))))
theorem gwsMX11_cut_1_0 : GoodIn wsMX11_cut_1 (va_wsS RX11 438 yX11_needNodes wsMX11_needNodes) := goodIn_sub (fun _ h => List.mem_cons_of_mem _ (List.mem_append_left _ (List.mem_append_left _ (List.mem_append_right _ h)))) (gdS (by decide +kernel) gdwsMX11_needNodes)
theorem gwsMX11_cut_1_1 : GoodIn wsMX11_cut_1 (wsV RX11 425 RX11 yX11_theNets wsMX11_theNets_1) := goodIn_sub (fun _ h => List.mem_cons_of_mem _ (List.mem_append_left _ (List.mem_append_right _ h))) (gdV (by decide +kernel) gdwsMX11_theNets_1)
theorem gwsMX11_cut_1_2 : GoodIn wsMX11_cut_1 (wsV RX11 441 RX2 yX2_fill wsMX2_fill) := goodIn_sub (fun _ h => List.mem_cons_of_mem _ (List.mem_append_right _ h)) (gdV (by decide +kernel) gdwsMX2_fill)
theorem gdwsMX11_cut_1 : wsMX11_cut_1.all goodWord = true := gdC rfl (gdA (gdA (gdA (gdA (gdA (by decide +kernel : ([.fieldLink RX11 415 "OptimaWorks" "nets" "LOptimaWorks$NetDesk;", .fieldLink RX11 443 "OptimaWorks$NetDesk" "reached" "I"] : List Cond).all goodWord = true) gdwsX20) gdwsX110) (gdS (by decide +kernel) gdwsMX11_needNodes)) (gdV (by decide +kernel) gdwsMX11_theNets_1)) (gdV (by decide +kernel) gdwsMX2_fill))
set_option maxHeartbeats 4000000 in
set_option maxRecDepth 100000 in
/-- a cut -/
theorem m_X11_cut_1 (l : Launch) (hst : l.stackTraces = false) (dC : Nat → ClassId) (dI : Nat → Nat → Nat) (hX : Nat → Nat) (aX : Nat → Nat) (kX : Nat → ClassId) (hT : Nat → Nat) (hM : Nat → Nat) (fX_ready : Nat → Int32) (fX_sheet : Nat → Int32) (dX_sheet : Nat) (nX_sheet : Nat) (iX_sheetLength : Int32) (xX_reader : Value) (xX_solver : Value) (xX_prover : Value) (xX_values : Value) (xX_clauses : Value) (hN : Nat → Nat) (aN : Nat → Nat) (kN : Nat → ClassId) (iN_arcs : Int32) (fN_from : Nat → Int32) (fN_to : Nat → Int32) (fN_room : Nat → Int32) (fN_cost : Nat → Int32) (iN_reached : Int32) (fN_free : Nat → Int32) (fN_before : Nat → Int32) (fN_flow : Nat → Int32) (fN_length : Nat → Int32) (fN_stop : Nat → Int32) (iN_stops : Int32) (fN_price : Nat → Int32) (fN_rest : Nat → Int32) (p1 : Int32) (p2 : Int32) (b_fX_sheet : ∀ q : Nat, (-128) ≤ (fX_sheet q).toInt ∧ (fX_sheet q).toInt ≤ 127) (b_nX_sheet : 64 ≤ nX_sheet ∧ nX_sheet ≤ 60000) (b_iX_sheetLength : 0 ≤ iX_sheetLength.toInt ∧ iX_sheetLength.toInt ≤ 30000) (b_shl : iX_sheetLength.toInt ≤ ((nX_sheet : Nat) : Int)) (b_iN_arcs : 0 ≤ iN_arcs.toInt ∧ iN_arcs.toInt ≤ 40) (b_fN_from : ∀ q : Nat, 0 ≤ (fN_from q).toInt ∧ (fN_from q).toInt ≤ 11) (b_fN_to : ∀ q : Nat, 0 ≤ (fN_to q).toInt ∧ (fN_to q).toInt ≤ 11) (b_fN_before : ∀ q : Nat, 0 ≤ (fN_before q).toInt ∧ (fN_before q).toInt ≤ 79) (b_fN_stop : ∀ q : Nat, 0 ≤ (fN_stop q).toInt ∧ (fN_stop q).toInt ≤ 11) (b_iN_stops : 0 ≤ iN_stops.toInt ∧ iN_stops.toInt ≤ 8) (hVal : tVal (iN_arcs.toInt, fN_from, fN_to, fN_room, fN_cost)) (hRm : tRm (iN_arcs.toInt, fN_from, fN_to, fN_room, fN_cost)) (sz : Nat) : vx_Met l yX11_cut wsMX11_cut_1 ({ frames := 7, cells := 1, slots := 6, locals := 102 }) (va_Pc [.ref (hX 0), .int p1, .int p2] (fun U => U.heap.size = sz ∧ va_P (dC, dI) vwCl (WX hX aX kX hT hM fX_ready fX_sheet dX_sheet nX_sheet iX_sheetLength xX_reader xX_solver xX_prover xX_values xX_clauses (.ref (hN 0)) ++ (WN hN aN kN iN_arcs fN_from fN_to fN_room fN_cost iN_reached fN_free fN_before fN_flow fN_length fN_stop iN_stops fN_price fN_rest)) U.heap ∧ va_K (dC, dI) vwCl (tX kX ++ (tN kN)) U ∧ va_D (fun _ => True) (WX hX aX kX hT hM fX_ready fX_sheet dX_sheet nX_sheet iX_sheetLength xX_reader xX_solver xX_prover xX_values xX_clauses (.ref (hN 0)) ++ (WN hN aN kN iN_arcs fN_from fN_to fN_room fN_cost iN_reached fN_free fN_before fN_flow fN_length fN_stop iN_stops fN_price fN_rest)) ∧ CE (va_A (WX hX aX kX hT hM fX_ready fX_sheet dX_sheet nX_sheet iX_sheetLength xX_reader xX_solver xX_prover xX_values xX_clauses (.ref (hN 0)) ++ (WN hN aN kN iN_arcs fN_from fN_to fN_room fN_cost iN_reached fN_free fN_before fN_flow fN_length fN_stop iN_stops fN_price fN_rest)) sz) U U.heap)) (va_Qi (fun (r : Int32) (u : (Int32) × (Nat → Int32) × (Nat → Int32)) => (∀ q : Nat, 0 ≤ ((u.2.2) q).toInt ∧ ((u.2.2) q).toInt ≤ 79) ∧ (((0 ≤ p1.toInt ∧ p1.toInt ≤ 11) ∧ 0 ≤ p2.toInt ∧ p2.toInt ≤ 11) ∧ p1.toInt ≠ p2.toInt) ∧ (mxC (iN_arcs.toInt, fN_from, fN_to, fN_room, fN_cost) p1.toInt.toNat p2.toInt.toNat r)) (fun (u : (Int32) × (Nat → Int32) × (Nat → Int32)) t => va_P (dC, dI) vwCl (WX hX aX kX hT hM fX_ready fX_sheet dX_sheet nX_sheet iX_sheetLength xX_reader xX_solver xX_prover xX_values xX_clauses (.ref (hN 0)) ++ (WN hN aN kN iN_arcs fN_from fN_to fN_room fN_cost (u.1) (u.2.1) (u.2.2) fN_flow fN_length fN_stop iN_stops fN_price fN_rest)) t.heap ∧ va_D (va_A (WX hX aX kX hT hM fX_ready fX_sheet dX_sheet nX_sheet iX_sheetLength xX_reader xX_solver xX_prover xX_values xX_clauses (.ref (hN 0)) ++ (WN hN aN kN iN_arcs fN_from fN_to fN_room fN_cost iN_reached fN_free fN_before fN_flow fN_length fN_stop iN_stops fN_price fN_rest)) sz) (WX hX aX kX hT hM fX_ready fX_sheet dX_sheet nX_sheet iX_sheetLength xX_reader xX_solver xX_prover xX_values xX_clauses (.ref (hN 0)) ++ (WN hN aN kN iN_arcs fN_from fN_to fN_room fN_cost (u.1) (u.2.1) (u.2.2) fN_flow fN_length fN_stop iN_stops fN_price fN_rest)) ∧ t.heap.size = sz) (va_A (WX hX aX kX hT hM fX_ready fX_sheet dX_sheet nX_sheet iX_sheetLength xX_reader xX_solver xX_prover xX_values xX_clauses (.ref (hN 0)) ++ (WN hN aN kN iN_arcs fN_from fN_to fN_room fN_cost iN_reached fN_free fN_before fN_flow fN_length fN_stop iN_stops fN_price fN_rest)) sz)) (vx_X (fun (u : (Int32) × (Nat → Int32) × (Nat → Int32)) => (∀ q : Nat, 0 ≤ ((u.2.2) q).toInt ∧ ((u.2.2) q).toInt ≤ 79)) (fun E (u : (Int32) × (Nat → Int32) × (Nat → Int32)) t => ((E = "java/lang/IndexOutOfBoundsException" ∧ (¬ ((0 ≤ p1.toInt ∧ p1.toInt ≤ 11) ∧ 0 ≤ p2.toInt ∧ p2.toInt ≤ 11))) ∨ (E = "java/lang/IllegalArgumentException" ∧ (((0 ≤ p1.toInt ∧ p1.toInt ≤ 11) ∧ 0 ≤ p2.toInt ∧ p2.toInt ≤ 11) ∧ p1.toInt = p2.toInt))) ∧ va_P (dC, dI) vwCl (WX hX aX kX hT hM fX_ready fX_sheet dX_sheet nX_sheet iX_sheetLength xX_reader xX_solver xX_prover xX_values xX_clauses (.ref (hN 0)) ++ (WN hN aN kN iN_arcs fN_from fN_to fN_room fN_cost (u.1) (u.2.1) (u.2.2) fN_flow fN_length fN_stop iN_stops fN_price fN_rest)) t.heap ∧ va_D (va_A (WX hX aX kX hT hM fX_ready fX_sheet dX_sheet nX_sheet iX_sheetLength xX_reader xX_solver xX_prover xX_values xX_clauses (.ref (hN 0)) ++ (WN hN aN kN iN_arcs fN_from fN_to fN_room fN_cost iN_reached fN_free fN_before fN_flow fN_length fN_stop iN_stops fN_price fN_rest)) sz) (WX hX aX kX hT hM fX_ready fX_sheet dX_sheet nX_sheet iX_sheetLength xX_reader xX_solver xX_prover xX_values xX_clauses (.ref (hN 0)) ++ (WN hN aN kN iN_arcs fN_from fN_to fN_room fN_cost (u.1) (u.2.1) (u.2.2) fN_flow fN_length fN_stop iN_stops fN_price fN_rest))) (va_A (WX hX aX kX hT hM fX_ready fX_sheet dX_sheet nX_sheet iX_sheetLength xX_reader xX_solver xX_prover xX_values xX_clauses (.ref (hN 0)) ++ (WN hN aN kN iN_arcs fN_from fN_to fN_room fN_cost iN_reached fN_free fN_before fN_flow fN_length fN_stop iN_stops fN_price fN_rest)) sz)) 1 6 (va_A (WX hX aX kX hT hM fX_ready fX_sheet dX_sheet nX_sheet iX_sheetLength xX_reader xX_solver xX_prover xX_values xX_clauses (.ref (hN 0)) ++ (WN hN aN kN iN_arcs fN_from fN_to fN_room fN_cost iN_reached fN_free fN_before fN_flow fN_length fN_stop iN_stops fN_price fN_rest)) sz) := by
  refine vx_ofW (cc := cX11_cut) (maxL := 3) (ret := (some .int)) (by decide) rfl ?_
  intro p e s m args below meth c s₁ B hml htab hv
  obtain ⟨rfl, hsz, hP, hK, hD0, hE⟩ := hv
  have hx := B.exec
  have hb := B.bytes
  have hr := B.returns
  have hts := atoms_spec (ws := wsMX11_cut_1) B.pre
  have hown : s.vm.findClass RX11 = some m.cls := findClass_of_methodNamed B.named
  have hlocks := B.notSynchronized
  subst hsz
  have hD := hD0.self (sz := s.heap.size)
  generalize hAe : va_A (WX hX aX kX hT hM fX_ready fX_sheet dX_sheet nX_sheet iX_sheetLength xX_reader xX_solver xX_prover xX_values xX_clauses (.ref (hN 0)) ++ (WN hN aN kN iN_arcs fN_from fN_to fN_room fN_cost iN_reached fN_free fN_before fN_flow fN_length fN_stop iN_stops fN_price fN_rest)) s.heap.size = A at hD hE ⊢
  have hA : ∀ q : Nat, s.heap.size ≤ q → A q := fun q h => by rw [← hAe]; exact Or.inr h
  have hS : va_S A s.heap s.heap [] := va_S.rf
  have hl := lv_entry ([.ref (hX 0), .int p1, .int p2]) (n := 3) (Nat.le_of_ble_eq_true rfl)
  rw [lg_entry_eq]
  generalize (lg_sl ([.ref (hX 0), .int p1, .int p2]) ++ List.replicate (3 - (lg_sl ([.ref (hX 0), .int p1, .int p2])).length) Slot.unset).toArray = ls at hl ⊢
  have hl : lv_has ls 3 [(0, .ref (hX 0)), (1, .int p1), (2, .int p2)] := hl
  refine lv_iload_n hx hb dX11_cut_0 rfl (lv_at hl 1 rfl) ?_
  refine lv_iload_n hx hb dX11_cut_1 rfl (lv_at hl 2 rfl) ?_
  refine W.known (fun hz0 _ => ?_)
  have hFc := noneFree hS hA
  refine vx_callv (vx_runS (As := [.int p1, .int p2]) (rest := []) ⟨hx, hb, hml, hown, hts⟩ (m_X11_needNodes l hst dC dI p1 p2 s.heap.size) (va_cwS 2 hts gwsMX11_cut_1_0 rfl rfl rfl (by decide +kernel) ⟨by decide +kernel, by decide +kernel⟩) ⟨fun a U g mk q => by obtain ⟨q0, q1, qP, qK, qD, qE⟩ := q; exact ⟨q0, q1, qP, va_K.moved (u := U) (U := U.calling g mk a) (Vm.Alike.refl U.vm) qK, qD, qE.call⟩, fun U hU9 hW => ⟨rfl, by rw [hU9], by rw [hU9]; exact nilP, va_K.moved hW.alike (hK.sub (tys' := []) [] rfl), nilD, by rw [hU9]; exact (((hE : CE A s s.heap).kept hS.2.1).narrow (fun q h => hFc q h)).warm hW⟩⟩ rfl rfl hl.1 rfl (lv_room (Nat.le_of_ble_eq_true rfl)) dX11_cut_2 (by decide +kernel)) hS (fun q _ h => hFc q h) hFc (fun q _ h => hFc q h) (fun E ce q9 u t9_ H1 locs ht hvm hw9 hB9 hz1 hk1 hS hc1 hc2 hc3 => ?_) (fun u t9_ H1 locs ht hvm hw9 hB9 hz1 hk1 hS => ?_)
  · revert hB9
    refine fz_a2 ?_
    intro hEx hB9
    clear hw9
    clear hB9
    have hP := keepAll hP hk1
    generalize H1 = H at hP hS hc1 ⊢
    have hP : va_P (dC, dI) vwCl (WX hX aX kX hT hM fX_ready fX_sheet dX_sheet nX_sheet iX_sheetLength xX_reader xX_solver xX_prover xX_values xX_clauses (.ref (hN 0)) ++ (WN hN aN kN iN_arcs fN_from fN_to fN_room fN_cost iN_reached fN_free fN_before fN_flow fN_length fN_stop iN_stops fN_price fN_rest)) H := hP
    have hD := fz_sd hP (hD) rfl
    exact vx_out (fun x hx9 => (htab x hx9).elim) hlocks hc1 hc2 hc3 (fun t9_ ht hvm => ⟨(iN_reached, fN_free, fN_before), b_fN_before, ⟨(by rcases hEx with h9 | h9; exact Or.inl ⟨h9.1, (by have h8 := h9.2; omega)⟩; exact Or.inr (⟨h9.1, (by have h8 := h9.2; omega)⟩)), by rw [ht]; exact hP, hD⟩, hS.F ht⟩) hS.2.2 (by decide +kernel) (by decide +kernel)
  have f1_0 := hw9
  try dsimp only at f1_0
  obtain ⟨_, hz8⟩ := hB9
  rw [ht] at hz8
  have hz9 : H1.size ≤ s.heap.size + 0 := by rw [hz8]; exact hz0
  refine W.tight (cells2 := 0) (slots2 := 0) hz9 (nS_0 hz9) ?_
  clear hz8 hz9
  have hP := keepAll hP hk1
  generalize H1 = H at hP hS ⊢
  have hP : va_P (dC, dI) vwCl (WX hX aX kX hT hM fX_ready fX_sheet dX_sheet nX_sheet iX_sheetLength xX_reader xX_solver xX_prover xX_values xX_clauses (.ref (hN 0)) ++ (WN hN aN kN iN_arcs fN_from fN_to fN_room fN_cost iN_reached fN_free fN_before fN_flow fN_length fN_stop iN_stops fN_price fN_rest)) H := hP
  have hD := fz_sd hP (hD) rfl
  have hnn := f1_0
  refine lv_aload_n hx hb dX11_cut_5 rfl (lv_at hl 0 rfl) ?_
  have hFc := allFree hD hS hA
  refine va_callr (va_runV (As := []) (rest := []) ⟨hx, hb, hml, hown, hts⟩ (m_X11_theNets_1 l dC dI hX aX kX hT hM fX_ready fX_sheet dX_sheet nX_sheet iX_sheetLength xX_reader xX_solver xX_prover xX_values xX_clauses hN aN kN iN_arcs fN_from fN_to fN_room fN_cost iN_reached fN_free fN_before fN_flow fN_length fN_stop iN_stops fN_price fN_rest b_fX_sheet (by first | exact b_nX_sheet | with_reducible assumption | exact ⟨by omega, by omega⟩ | assumption) (b_iX_sheetLength) (by first | with_reducible assumption | omega | assumption) (b_iN_arcs) b_fN_from b_fN_to b_fN_before b_fN_stop (b_iN_stops) H.size) (cwV 0 hts gwsMX11_cut_1_1 rfl rfl rfl hd_yX11_theNets_RX11 (by decide +kernel)) (fz_pre (va_recv hK hP (ci := 11) (q0 := 0) rfl rfl) hP hK hD) rfl rfl hl.1 rfl (lv_room (Nat.le_of_ble_eq_true rfl)) dX11_cut_6 (by decide +kernel)) hS (fun q _ h => hFc q h) hFc (fun u ra2 t9_ H locs ht hvm hw9 hB9 hz1 hk1 hS => ?_)
  revert hB9
  refine fz_a2 ?_
  intro hra hB9
  subst hra
  clear hw9
  have hP : va_P (dC, dI) vwCl (WX hX aX kX hT hM fX_ready fX_sheet dX_sheet nX_sheet iX_sheetLength xX_reader xX_solver xX_prover xX_values xX_clauses (.ref (hN 0)) ++ (WN hN aN kN iN_arcs fN_from fN_to fN_room fN_cost iN_reached fN_free fN_before fN_flow fN_length fN_stop iN_stops fN_price fN_rest)) H := fz_P ht hB9.1
  have hD := fz_sd hP (hB9.2.weaken (fun _ q _ h => hFc q.1 h)) rfl
  refine lv_iload_n hx hb dX11_cut_9 rfl (lv_at hl 1 rfl) ?_
  refine lv_iload_n hx hb dX11_cut_10 rfl (lv_at hl 2 rfl) ?_
  have p9 := cj_2_1 (WX hX aX kX hT hM fX_ready fX_sheet dX_sheet nX_sheet iX_sheetLength xX_reader xX_solver xX_prover xX_values xX_clauses (.ref (hN 0))) (WN hN aN kN iN_arcs fN_from fN_to fN_room fN_cost iN_reached fN_free fN_before fN_flow fN_length fN_stop iN_stops fN_price fN_rest)
  have hPc := hP.mem (fun q h => p9.mem_iff.mpr (List.mem_append_left _ h))
  have hDc := (hD.perm p9).left
  have hKc : va_K (dC, dI) vwCl (tN kN) _ := hK.sub [2, 3, 4, 5, 6, 7, 8, 9, 10, 11, 12] rfl
  have hFc := freeG p9 hD hS hA
  refine va_calli (va_runV (As := [.int p1, .int p2]) (rest := []) ⟨hx, hb, hml, hown, hts⟩ (m_X2_fill l dC dI hN aN kN iN_arcs fN_from fN_to fN_room fN_cost iN_reached fN_free fN_before fN_flow fN_length fN_stop iN_stops fN_price fN_rest p1 p2 (b_iN_arcs) b_fN_from b_fN_to b_fN_before b_fN_stop (b_iN_stops) (by first | exact b_p1 | with_reducible assumption | exact ⟨by omega, by omega⟩ | assumption) (by first | exact b_p2 | with_reducible assumption | exact ⟨by omega, by omega⟩ | assumption) (hVal) (hRm) (by omega) H.size) (cwV 2 hts gwsMX11_cut_1_2 rfl rfl rfl hd_yX2_fill_RX2 (by decide +kernel)) (fz_pre (va_recv hK hP (ci := 2) (q0 := 3) rfl rfl) hPc hKc hDc) rfl rfl hl.1 rfl (lv_room (Nat.le_of_ble_eq_true rfl)) dX11_cut_11 (by decide +kernel)) hS (fun q _ h => hFc q h) hFc (fun r3 u t9_ H locs ht hvm hw9 hB9 hz1 hk1 hS => ?_)
  revert u hw9 hB9
  refine fz_p3 ?_
  intro iN_reached_3 fN_free_3 fN_before_3 hw9 hB9
  try dsimp only at hw9 hB9
  revert hw9
  refine fz_a3 ?_
  intro b_fN_before_3 f3_0 f3_1
  have p8 := cj_2_1 (WX hX aX kX hT hM fX_ready fX_sheet dX_sheet nX_sheet iX_sheetLength xX_reader xX_solver xX_prover xX_values xX_clauses (.ref (hN 0))) (WN hN aN kN iN_arcs fN_from fN_to fN_room fN_cost iN_reached_3 fN_free_3 fN_before_3 fN_flow fN_length fN_stop iN_stops fN_price fN_rest)
  obtain ⟨hP, hD⟩ := frameG p9 p8 hP hD hk1 hFc (fz_P ht hB9.1) hB9.2
  refine lv_pop hx hb dX11_cut_14 rfl ?_
  refine lv_aload_n hx hb dX11_cut_15 rfl (lv_at hl 0 rfl) ?_
  refine va_get (D := (dC, dI)) (ci := 11) (v := .ref (hN 0)) (C := RX11) (T := TX11) (N := 11) hx hb hts iwsMX11_cut_1_in11 hown hK hP 0 rfl rfl 10 (by decide) (hts (.fieldLink RX11 415 "OptimaWorks" "nets" "LOptimaWorks$NetDesk;") (by decide +kernel)) (fun _ h9 => h9) rfl dX11_cut_16 ?_
  refine va_get (D := (dC, dI)) (ci := 2) (v := .int iN_reached_3) (C := RX2) (T := TX2) (N := 14) hx hb hts iwsMX11_cut_1_in2 hown hK hP 3 rfl rfl 5 (by decide) (hts (.fieldLink RX11 443 "OptimaWorks$NetDesk" "reached" "I") (by decide +kernel)) (fun _ h9 => h9) rfl dX11_cut_19 ?_
  refine vx_ret ?_
  refine W.known (fun hz9 _ => ?_)
  refine W.widen (k := 1) (n := 6) (by decide +kernel) (by decide +kernel) ?_
  exact W.iret (v := iN_reached_3) hx hb hr (fun t9_ ht hW => ⟨⟨iN_reached_3, (iN_reached_3, fN_free_3, fN_before_3), rfl, ⟨b_fN_before_3, (by (try dsimp only); omega), (by (try dsimp only); assumption)⟩, by rw [ht]; exact hP, hD, by rw [ht]; first | done | exact Nat.le_antisymm hz9 hS.1⟩, hS.F ht⟩) hS.2.2 dX11_cut_22
theorem dX11_cheapest_0 : decode cX11_cheapest 0 = .ok (.iload_n 1, 1) := dk_27 (by decide +kernel)
theorem dX11_cheapest_1 : decode cX11_cheapest 1 = .ok (.iload_n 2, 1) := dk_28 (by decide +kernel)
theorem dX11_cheapest_2 : decode cX11_cheapest 2 = .ok (.invokestatic 438, 3) := dk_184 (by decide +kernel)
theorem dX11_cheapest_5 : decode cX11_cheapest 5 = .ok (.aload_n 0, 1) := dk_42 (by decide +kernel)
theorem dX11_cheapest_6 : decode cX11_cheapest 6 = .ok (.invokevirtual 425, 3) := dk_182 (by decide +kernel)
theorem dX11_cheapest_9 : decode cX11_cheapest 9 = .ok (.iload_n 1, 1) := dk_27 (by decide +kernel)
theorem dX11_cheapest_10 : decode cX11_cheapest 10 = .ok (.iload_n 2, 1) := dk_28 (by decide +kernel)
theorem dX11_cheapest_11 : decode cX11_cheapest 11 = .ok (.iload_n 3, 1) := dk_29 (by decide +kernel)
theorem dX11_cheapest_12 : decode cX11_cheapest 12 = .ok (.invokevirtual 446, 3) := dk_182 (by decide +kernel)
theorem dX11_cheapest_15 : decode cX11_cheapest 15 = .ok (.ireturn, 1) := dk_172 (by decide +kernel)
def wsMX11_cheapest_1 : List Cond := .code yX11_cheapest cX11_cheapest 4 (some .int) :: ([] ++ (va_wsS RX11 438 yX11_needNodes wsMX11_needNodes) ++ (wsV RX11 425 RX11 yX11_theNets wsMX11_theNets_1) ++ (wsV RX11 446 RX2 yX2_leastCost wsMX2_leastCost))
theorem gwsMX11_cheapest_1_0 : GoodIn wsMX11_cheapest_1 (va_wsS RX11 438 yX11_needNodes wsMX11_needNodes) := goodIn_sub (fun _ h => List.mem_cons_of_mem _ (List.mem_append_left _ (List.mem_append_left _ (List.mem_append_right _ h)))) (gdS (by decide +kernel) gdwsMX11_needNodes)
theorem gwsMX11_cheapest_1_1 : GoodIn wsMX11_cheapest_1 (wsV RX11 425 RX11 yX11_theNets wsMX11_theNets_1) := goodIn_sub (fun _ h => List.mem_cons_of_mem _ (List.mem_append_left _ (List.mem_append_right _ h))) (gdV (by decide +kernel) gdwsMX11_theNets_1)
theorem gwsMX11_cheapest_1_2 : GoodIn wsMX11_cheapest_1 (wsV RX11 446 RX2 yX2_leastCost wsMX2_leastCost) := goodIn_sub (fun _ h => List.mem_cons_of_mem _ (List.mem_append_right _ h)) (gdV (by decide +kernel) gdwsMX2_leastCost)
theorem gdwsMX11_cheapest_1 : wsMX11_cheapest_1.all goodWord = true := gdC rfl (gdA (gdA (gdA (by decide +kernel : ([] : List Cond).all goodWord = true) (gdS (by decide +kernel) gdwsMX11_needNodes)) (gdV (by decide +kernel) gdwsMX11_theNets_1)) (gdV (by decide +kernel) gdwsMX2_leastCost))
set_option maxHeartbeats 4000000 in
set_option maxRecDepth 100000 in
/-- the cheapest -/
theorem m_X11_cheapest_1 (l : Launch) (hst : l.stackTraces = false) (dC : Nat → ClassId) (dI : Nat → Nat → Nat) (hX : Nat → Nat) (aX : Nat → Nat) (kX : Nat → ClassId) (hT : Nat → Nat) (hM : Nat → Nat) (fX_ready : Nat → Int32) (fX_sheet : Nat → Int32) (dX_sheet : Nat) (nX_sheet : Nat) (iX_sheetLength : Int32) (xX_reader : Value) (xX_solver : Value) (xX_prover : Value) (xX_values : Value) (xX_clauses : Value) (hN : Nat → Nat) (aN : Nat → Nat) (kN : Nat → ClassId) (iN_arcs : Int32) (fN_from : Nat → Int32) (fN_to : Nat → Int32) (fN_room : Nat → Int32) (fN_cost : Nat → Int32) (iN_reached : Int32) (fN_free : Nat → Int32) (fN_before : Nat → Int32) (fN_flow : Nat → Int32) (fN_length : Nat → Int32) (fN_stop : Nat → Int32) (iN_stops : Int32) (fN_price : Nat → Int32) (fN_rest : Nat → Int32) (p1 : Int32) (p2 : Int32) (p3 : Int32) (b_fX_sheet : ∀ q : Nat, (-128) ≤ (fX_sheet q).toInt ∧ (fX_sheet q).toInt ≤ 127) (b_nX_sheet : 64 ≤ nX_sheet ∧ nX_sheet ≤ 60000) (b_iX_sheetLength : 0 ≤ iX_sheetLength.toInt ∧ iX_sheetLength.toInt ≤ 30000) (b_shl : iX_sheetLength.toInt ≤ ((nX_sheet : Nat) : Int)) (b_iN_arcs : 0 ≤ iN_arcs.toInt ∧ iN_arcs.toInt ≤ 40) (b_fN_from : ∀ q : Nat, 0 ≤ (fN_from q).toInt ∧ (fN_from q).toInt ≤ 11) (b_fN_to : ∀ q : Nat, 0 ≤ (fN_to q).toInt ∧ (fN_to q).toInt ≤ 11) (b_fN_before : ∀ q : Nat, 0 ≤ (fN_before q).toInt ∧ (fN_before q).toInt ≤ 79) (b_fN_stop : ∀ q : Nat, 0 ≤ (fN_stop q).toInt ∧ (fN_stop q).toInt ≤ 11) (b_iN_stops : 0 ≤ iN_stops.toInt ∧ iN_stops.toInt ≤ 8) (hAr : ArO fN_from fN_to fN_room fN_cost iN_arcs.toInt.toNat) (sz : Nat) : vx_Met l yX11_cheapest wsMX11_cheapest_1 ({ frames := 7, cells := 1, slots := 6, locals := 102 }) (va_Pc [.ref (hX 0), .int p1, .int p2, .int p3] (fun U => U.heap.size = sz ∧ va_P (dC, dI) vwCl (WX hX aX kX hT hM fX_ready fX_sheet dX_sheet nX_sheet iX_sheetLength xX_reader xX_solver xX_prover xX_values xX_clauses (.ref (hN 0)) ++ (WN hN aN kN iN_arcs fN_from fN_to fN_room fN_cost iN_reached fN_free fN_before fN_flow fN_length fN_stop iN_stops fN_price fN_rest)) U.heap ∧ va_K (dC, dI) vwCl (tX kX ++ (tN kN)) U ∧ va_D (fun _ => True) (WX hX aX kX hT hM fX_ready fX_sheet dX_sheet nX_sheet iX_sheetLength xX_reader xX_solver xX_prover xX_values xX_clauses (.ref (hN 0)) ++ (WN hN aN kN iN_arcs fN_from fN_to fN_room fN_cost iN_reached fN_free fN_before fN_flow fN_length fN_stop iN_stops fN_price fN_rest)) ∧ CE (va_A (WX hX aX kX hT hM fX_ready fX_sheet dX_sheet nX_sheet iX_sheetLength xX_reader xX_solver xX_prover xX_values xX_clauses (.ref (hN 0)) ++ (WN hN aN kN iN_arcs fN_from fN_to fN_room fN_cost iN_reached fN_free fN_before fN_flow fN_length fN_stop iN_stops fN_price fN_rest)) sz) U U.heap)) (va_Qi (fun (r : Int32) (u : (Nat → Int32) × (Nat → Int32) × (Nat → Int32)) => (∀ q : Nat, 0 ≤ ((u.1) q).toInt ∧ ((u.1) q).toInt ≤ 79) ∧ (((0 ≤ p1.toInt ∧ p1.toInt ≤ 11) ∧ 0 ≤ p2.toInt ∧ p2.toInt ≤ 11) ∧ p1.toInt ≠ p2.toInt) ∧ (mnC (iN_arcs.toInt, fN_from, fN_to, fN_room, fN_cost) p1.toInt.toNat p2.toInt.toNat p3.toInt r.toInt)) (fun (u : (Nat → Int32) × (Nat → Int32) × (Nat → Int32)) t => va_P (dC, dI) vwCl (WX hX aX kX hT hM fX_ready fX_sheet dX_sheet nX_sheet iX_sheetLength xX_reader xX_solver xX_prover xX_values xX_clauses (.ref (hN 0)) ++ (WN hN aN kN iN_arcs fN_from fN_to fN_room fN_cost iN_reached fN_free (u.1) (u.2.1) (u.2.2) fN_stop iN_stops fN_price fN_rest)) t.heap ∧ va_D (va_A (WX hX aX kX hT hM fX_ready fX_sheet dX_sheet nX_sheet iX_sheetLength xX_reader xX_solver xX_prover xX_values xX_clauses (.ref (hN 0)) ++ (WN hN aN kN iN_arcs fN_from fN_to fN_room fN_cost iN_reached fN_free fN_before fN_flow fN_length fN_stop iN_stops fN_price fN_rest)) sz) (WX hX aX kX hT hM fX_ready fX_sheet dX_sheet nX_sheet iX_sheetLength xX_reader xX_solver xX_prover xX_values xX_clauses (.ref (hN 0)) ++ (WN hN aN kN iN_arcs fN_from fN_to fN_room fN_cost iN_reached fN_free (u.1) (u.2.1) (u.2.2) fN_stop iN_stops fN_price fN_rest)) ∧ t.heap.size = sz) (va_A (WX hX aX kX hT hM fX_ready fX_sheet dX_sheet nX_sheet iX_sheetLength xX_reader xX_solver xX_prover xX_values xX_clauses (.ref (hN 0)) ++ (WN hN aN kN iN_arcs fN_from fN_to fN_room fN_cost iN_reached fN_free fN_before fN_flow fN_length fN_stop iN_stops fN_price fN_rest)) sz)) (vx_X (fun (u : (Nat → Int32) × (Nat → Int32) × (Nat → Int32)) => (∀ q : Nat, 0 ≤ ((u.1) q).toInt ∧ ((u.1) q).toInt ≤ 79)) (fun E (u : (Nat → Int32) × (Nat → Int32) × (Nat → Int32)) t => ((E = "java/lang/IndexOutOfBoundsException" ∧ (¬ ((0 ≤ p1.toInt ∧ p1.toInt ≤ 11) ∧ 0 ≤ p2.toInt ∧ p2.toInt ≤ 11))) ∨ (E = "java/lang/IllegalArgumentException" ∧ (((0 ≤ p1.toInt ∧ p1.toInt ≤ 11) ∧ 0 ≤ p2.toInt ∧ p2.toInt ≤ 11) ∧ p1.toInt = p2.toInt))) ∧ va_P (dC, dI) vwCl (WX hX aX kX hT hM fX_ready fX_sheet dX_sheet nX_sheet iX_sheetLength xX_reader xX_solver xX_prover xX_values xX_clauses (.ref (hN 0)) ++ (WN hN aN kN iN_arcs fN_from fN_to fN_room fN_cost iN_reached fN_free (u.1) (u.2.1) (u.2.2) fN_stop iN_stops fN_price fN_rest)) t.heap ∧ va_D (va_A (WX hX aX kX hT hM fX_ready fX_sheet dX_sheet nX_sheet iX_sheetLength xX_reader xX_solver xX_prover xX_values xX_clauses (.ref (hN 0)) ++ (WN hN aN kN iN_arcs fN_from fN_to fN_room fN_cost iN_reached fN_free fN_before fN_flow fN_length fN_stop iN_stops fN_price fN_rest)) sz) (WX hX aX kX hT hM fX_ready fX_sheet dX_sheet nX_sheet iX_sheetLength xX_reader xX_solver xX_prover xX_values xX_clauses (.ref (hN 0)) ++ (WN hN aN kN iN_arcs fN_from fN_to fN_room fN_cost iN_reached fN_free (u.1) (u.2.1) (u.2.2) fN_stop iN_stops fN_price fN_rest))) (va_A (WX hX aX kX hT hM fX_ready fX_sheet dX_sheet nX_sheet iX_sheetLength xX_reader xX_solver xX_prover xX_values xX_clauses (.ref (hN 0)) ++ (WN hN aN kN iN_arcs fN_from fN_to fN_room fN_cost iN_reached fN_free fN_before fN_flow fN_length fN_stop iN_stops fN_price fN_rest)) sz)) 1 6 (va_A (WX hX aX kX hT hM fX_ready fX_sheet dX_sheet nX_sheet iX_sheetLength xX_reader xX_solver xX_prover xX_values xX_clauses (.ref (hN 0)) ++ (WN hN aN kN iN_arcs fN_from fN_to fN_room fN_cost iN_reached fN_free fN_before fN_flow fN_length fN_stop iN_stops fN_price fN_rest)) sz) := by
  refine vx_ofW (cc := cX11_cheapest) (maxL := 4) (ret := (some .int)) (by decide) rfl ?_
  intro p e s m args below meth c s₁ B hml htab hv
  obtain ⟨rfl, hsz, hP, hK, hD0, hE⟩ := hv
  have hx := B.exec
  have hb := B.bytes
  have hr := B.returns
  have hts := atoms_spec (ws := wsMX11_cheapest_1) B.pre
  have hown : s.vm.findClass RX11 = some m.cls := findClass_of_methodNamed B.named
  have hlocks := B.notSynchronized
  subst hsz
  have hD := hD0.self (sz := s.heap.size)
  generalize hAe : va_A (WX hX aX kX hT hM fX_ready fX_sheet dX_sheet nX_sheet iX_sheetLength xX_reader xX_solver xX_prover xX_values xX_clauses (.ref (hN 0)) ++ (WN hN aN kN iN_arcs fN_from fN_to fN_room fN_cost iN_reached fN_free fN_before fN_flow fN_length fN_stop iN_stops fN_price fN_rest)) s.heap.size = A at hD hE ⊢
  have hA : ∀ q : Nat, s.heap.size ≤ q → A q := fun q h => by rw [← hAe]; exact Or.inr h
  have hS : va_S A s.heap s.heap [] := va_S.rf
  have hl := lv_entry ([.ref (hX 0), .int p1, .int p2, .int p3]) (n := 4) (Nat.le_of_ble_eq_true rfl)
  rw [lg_entry_eq]
  generalize (lg_sl ([.ref (hX 0), .int p1, .int p2, .int p3]) ++ List.replicate (4 - (lg_sl ([.ref (hX 0), .int p1, .int p2, .int p3])).length) Slot.unset).toArray = ls at hl ⊢
  have hl : lv_has ls 4 [(0, .ref (hX 0)), (1, .int p1), (2, .int p2), (3, .int p3)] := hl
  refine lv_iload_n hx hb dX11_cheapest_0 rfl (lv_at hl 1 rfl) ?_
  refine lv_iload_n hx hb dX11_cheapest_1 rfl (lv_at hl 2 rfl) ?_
  refine W.known (fun hz0 _ => ?_)
  have hFc := noneFree hS hA
  refine vx_callv (vx_runS (As := [.int p1, .int p2]) (rest := []) ⟨hx, hb, hml, hown, hts⟩ (m_X11_needNodes l hst dC dI p1 p2 s.heap.size) (va_cwS 2 hts gwsMX11_cheapest_1_0 rfl rfl rfl (by decide +kernel) ⟨by decide +kernel, by decide +kernel⟩) ⟨fun a U g mk q => by obtain ⟨q0, q1, qP, qK, qD, qE⟩ := q; exact ⟨q0, q1, qP, va_K.moved (u := U) (U := U.calling g mk a) (Vm.Alike.refl U.vm) qK, qD, qE.call⟩, fun U hU9 hW => ⟨rfl, by rw [hU9], by rw [hU9]; exact nilP, va_K.moved hW.alike (hK.sub (tys' := []) [] rfl), nilD, by rw [hU9]; exact (((hE : CE A s s.heap).kept hS.2.1).narrow (fun q h => hFc q h)).warm hW⟩⟩ rfl rfl hl.1 rfl (lv_room (Nat.le_of_ble_eq_true rfl)) dX11_cheapest_2 (by decide +kernel)) hS (fun q _ h => hFc q h) hFc (fun q _ h => hFc q h) (fun E ce q9 u t9_ H1 locs ht hvm hw9 hB9 hz1 hk1 hS hc1 hc2 hc3 => ?_) (fun u t9_ H1 locs ht hvm hw9 hB9 hz1 hk1 hS => ?_)
  · revert hB9
    refine fz_a2 ?_
    intro hEx hB9
    clear hw9
    clear hB9
    have hP := keepAll hP hk1
    generalize H1 = H at hP hS hc1 ⊢
    have hP : va_P (dC, dI) vwCl (WX hX aX kX hT hM fX_ready fX_sheet dX_sheet nX_sheet iX_sheetLength xX_reader xX_solver xX_prover xX_values xX_clauses (.ref (hN 0)) ++ (WN hN aN kN iN_arcs fN_from fN_to fN_room fN_cost iN_reached fN_free fN_before fN_flow fN_length fN_stop iN_stops fN_price fN_rest)) H := hP
    have hD := fz_sd hP (hD) rfl
    exact vx_out (fun x hx9 => (htab x hx9).elim) hlocks hc1 hc2 hc3 (fun t9_ ht hvm => ⟨(fN_before, fN_flow, fN_length), b_fN_before, ⟨(by rcases hEx with h9 | h9; exact Or.inl ⟨h9.1, (by have h8 := h9.2; omega)⟩; exact Or.inr (⟨h9.1, (by have h8 := h9.2; omega)⟩)), by rw [ht]; exact hP, hD⟩, hS.F ht⟩) hS.2.2 (by decide +kernel) (by decide +kernel)
  have f1_0 := hw9
  try dsimp only at f1_0
  obtain ⟨_, hz8⟩ := hB9
  rw [ht] at hz8
  have hz9 : H1.size ≤ s.heap.size + 0 := by rw [hz8]; exact hz0
  refine W.tight (cells2 := 0) (slots2 := 0) hz9 (nS_0 hz9) ?_
  clear hz8 hz9
  have hP := keepAll hP hk1
  generalize H1 = H at hP hS ⊢
  have hP : va_P (dC, dI) vwCl (WX hX aX kX hT hM fX_ready fX_sheet dX_sheet nX_sheet iX_sheetLength xX_reader xX_solver xX_prover xX_values xX_clauses (.ref (hN 0)) ++ (WN hN aN kN iN_arcs fN_from fN_to fN_room fN_cost iN_reached fN_free fN_before fN_flow fN_length fN_stop iN_stops fN_price fN_rest)) H := hP
  have hD := fz_sd hP (hD) rfl
  have hnn := f1_0
  refine lv_aload_n hx hb dX11_cheapest_5 rfl (lv_at hl 0 rfl) ?_
  have hFc := allFree hD hS hA
  refine va_callr (va_runV (As := []) (rest := []) ⟨hx, hb, hml, hown, hts⟩ (m_X11_theNets_1 l dC dI hX aX kX hT hM fX_ready fX_sheet dX_sheet nX_sheet iX_sheetLength xX_reader xX_solver xX_prover xX_values xX_clauses hN aN kN iN_arcs fN_from fN_to fN_room fN_cost iN_reached fN_free fN_before fN_flow fN_length fN_stop iN_stops fN_price fN_rest b_fX_sheet (by first | exact b_nX_sheet | with_reducible assumption | exact ⟨by omega, by omega⟩ | assumption) (b_iX_sheetLength) (by first | with_reducible assumption | omega | assumption) (b_iN_arcs) b_fN_from b_fN_to b_fN_before b_fN_stop (b_iN_stops) H.size) (cwV 0 hts gwsMX11_cheapest_1_1 rfl rfl rfl hd_yX11_theNets_RX11 (by decide +kernel)) (fz_pre (va_recv hK hP (ci := 11) (q0 := 0) rfl rfl) hP hK hD) rfl rfl hl.1 rfl (lv_room (Nat.le_of_ble_eq_true rfl)) dX11_cheapest_6 (by decide +kernel)) hS (fun q _ h => hFc q h) hFc (fun u ra2 t9_ H locs ht hvm hw9 hB9 hz1 hk1 hS => ?_)
  revert hB9
  refine fz_a2 ?_
  intro hra hB9
  subst hra
  clear hw9
  have hP : va_P (dC, dI) vwCl (WX hX aX kX hT hM fX_ready fX_sheet dX_sheet nX_sheet iX_sheetLength xX_reader xX_solver xX_prover xX_values xX_clauses (.ref (hN 0)) ++ (WN hN aN kN iN_arcs fN_from fN_to fN_room fN_cost iN_reached fN_free fN_before fN_flow fN_length fN_stop iN_stops fN_price fN_rest)) H := fz_P ht hB9.1
  have hD := fz_sd hP (hB9.2.weaken (fun _ q _ h => hFc q.1 h)) rfl
  refine lv_iload_n hx hb dX11_cheapest_9 rfl (lv_at hl 1 rfl) ?_
  refine lv_iload_n hx hb dX11_cheapest_10 rfl (lv_at hl 2 rfl) ?_
  refine lv_iload_n hx hb dX11_cheapest_11 rfl (lv_at hl 3 rfl) ?_
  have p9 := cj_2_1 (WX hX aX kX hT hM fX_ready fX_sheet dX_sheet nX_sheet iX_sheetLength xX_reader xX_solver xX_prover xX_values xX_clauses (.ref (hN 0))) (WN hN aN kN iN_arcs fN_from fN_to fN_room fN_cost iN_reached fN_free fN_before fN_flow fN_length fN_stop iN_stops fN_price fN_rest)
  have hPc := hP.mem (fun q h => p9.mem_iff.mpr (List.mem_append_left _ h))
  have hDc := (hD.perm p9).left
  have hKc : va_K (dC, dI) vwCl (tN kN) _ := hK.sub [2, 3, 4, 5, 6, 7, 8, 9, 10, 11, 12] rfl
  have hFc := freeG p9 hD hS hA
  refine va_calli (va_runV (As := [.int p1, .int p2, .int p3]) (rest := []) ⟨hx, hb, hml, hown, hts⟩ (m_X2_leastCost l dC dI hN aN kN iN_arcs fN_from fN_to fN_room fN_cost iN_reached fN_free fN_before fN_flow fN_length fN_stop iN_stops fN_price fN_rest p1 p2 p3 (b_iN_arcs) b_fN_from b_fN_to b_fN_before b_fN_stop (b_iN_stops) (by first | exact b_p1 | with_reducible assumption | exact ⟨by omega, by omega⟩ | assumption) (by first | exact b_p2 | with_reducible assumption | exact ⟨by omega, by omega⟩ | assumption) (hAr) (by omega) H.size) (cwV 3 hts gwsMX11_cheapest_1_2 rfl rfl rfl hd_yX2_leastCost_RX2 (by decide +kernel)) (fz_pre (va_recv hK hP (ci := 2) (q0 := 3) rfl rfl) hPc hKc hDc) rfl rfl hl.1 rfl (lv_room (Nat.le_of_ble_eq_true rfl)) dX11_cheapest_12 (by decide +kernel)) hS (fun q _ h => hFc q h) hFc (fun r3 u t9_ H locs ht hvm hw9 hB9 hz1 hk1 hS => ?_)
  revert u hw9 hB9
  refine fz_p3 ?_
  intro fN_before_3 fN_flow_3 fN_length_3 hw9 hB9
  try dsimp only at hw9 hB9
  revert hw9
  refine fz_a2 ?_
  intro b_fN_before_3 f3_0
  have p8 := cj_2_1 (WX hX aX kX hT hM fX_ready fX_sheet dX_sheet nX_sheet iX_sheetLength xX_reader xX_solver xX_prover xX_values xX_clauses (.ref (hN 0))) (WN hN aN kN iN_arcs fN_from fN_to fN_room fN_cost iN_reached fN_free fN_before_3 fN_flow_3 fN_length_3 fN_stop iN_stops fN_price fN_rest)
  obtain ⟨hP, hD⟩ := frameG p9 p8 hP hD hk1 hFc (fz_P ht hB9.1) hB9.2
  refine vx_ret ?_
  refine W.known (fun hz9 _ => ?_)
  refine W.widen (k := 1) (n := 6) (by decide +kernel) (by decide +kernel) ?_
  exact W.iret (v := r3) hx hb hr (fun t9_ ht hW => ⟨⟨r3, (fN_before_3, fN_flow_3, fN_length_3), rfl, ⟨b_fN_before_3, (by (try dsimp only); omega), (by (try dsimp only); assumption)⟩, by rw [ht]; exact hP, hD, by rw [ht]; first | done | exact Nat.le_antisymm hz9 hS.1⟩, hS.F ht⟩) hS.2.2 dX11_cheapest_15
theorem dX11_path_0 : decode cX11_path 0 = .ok (.iload_n 1, 1) := dk_27 (by decide +kernel)
theorem dX11_path_1 : decode cX11_path 1 = .ok (.iload_n 2, 1) := dk_28 (by decide +kernel)
theorem dX11_path_2 : decode cX11_path 2 = .ok (.invokestatic 438, 3) := dk_184 (by decide +kernel)
theorem dX11_path_5 : decode cX11_path 5 = .ok (.aload_n 0, 1) := dk_42 (by decide +kernel)
theorem dX11_path_6 : decode cX11_path 6 = .ok (.invokevirtual 425, 3) := dk_182 (by decide +kernel)
theorem dX11_path_9 : decode cX11_path 9 = .ok (.iload_n 1, 1) := dk_27 (by decide +kernel)
theorem dX11_path_10 : decode cX11_path 10 = .ok (.iload_n 2, 1) := dk_28 (by decide +kernel)
theorem dX11_path_11 : decode cX11_path 11 = .ok (.iload_n 3, 1) := dk_29 (by decide +kernel)
theorem dX11_path_12 : decode cX11_path 12 = .ok (.invokevirtual 449, 3) := dk_182 (by decide +kernel)
theorem dX11_path_15 : decode cX11_path 15 = .ok (.ireturn, 1) := dk_172 (by decide +kernel)
def wsMX11_path_1 : List Cond := .code yX11_path cX11_path 4 (some .int) :: ([] ++ (va_wsS RX11 438 yX11_needNodes wsMX11_needNodes) ++ (wsV RX11 425 RX11 yX11_theNets wsMX11_theNets_1) ++ (wsV RX11 449 RX2 yX2_shortest wsMX2_shortest))
theorem gwsMX11_path_1_0 : GoodIn wsMX11_path_1 (va_wsS RX11 438 yX11_needNodes wsMX11_needNodes) := goodIn_sub (fun _ h => List.mem_cons_of_mem _ (List.mem_append_left _ (List.mem_append_left _ (List.mem_append_right _ h)))) (gdS (by decide +kernel) gdwsMX11_needNodes)
theorem gwsMX11_path_1_1 : GoodIn wsMX11_path_1 (wsV RX11 425 RX11 yX11_theNets wsMX11_theNets_1) := goodIn_sub (fun _ h => List.mem_cons_of_mem _ (List.mem_append_left _ (List.mem_append_right _ h))) (gdV (by decide +kernel) gdwsMX11_theNets_1)
theorem gwsMX11_path_1_2 : GoodIn wsMX11_path_1 (wsV RX11 449 RX2 yX2_shortest wsMX2_shortest) := goodIn_sub (fun _ h => List.mem_cons_of_mem _ (List.mem_append_right _ h)) (gdV (by decide +kernel) gdwsMX2_shortest)
theorem gdwsMX11_path_1 : wsMX11_path_1.all goodWord = true := gdC rfl (gdA (gdA (gdA (by decide +kernel : ([] : List Cond).all goodWord = true) (gdS (by decide +kernel) gdwsMX11_needNodes)) (gdV (by decide +kernel) gdwsMX11_theNets_1)) (gdV (by decide +kernel) gdwsMX2_shortest))
set_option maxHeartbeats 4000000 in
set_option maxRecDepth 100000 in
/-- a path -/
theorem m_X11_path_1 (l : Launch) (hst : l.stackTraces = false) (dC : Nat → ClassId) (dI : Nat → Nat → Nat) (hX : Nat → Nat) (aX : Nat → Nat) (kX : Nat → ClassId) (hT : Nat → Nat) (hM : Nat → Nat) (fX_ready : Nat → Int32) (fX_sheet : Nat → Int32) (dX_sheet : Nat) (nX_sheet : Nat) (iX_sheetLength : Int32) (xX_reader : Value) (xX_solver : Value) (xX_prover : Value) (xX_values : Value) (xX_clauses : Value) (hN : Nat → Nat) (aN : Nat → Nat) (kN : Nat → ClassId) (iN_arcs : Int32) (fN_from : Nat → Int32) (fN_to : Nat → Int32) (fN_room : Nat → Int32) (fN_cost : Nat → Int32) (iN_reached : Int32) (fN_free : Nat → Int32) (fN_before : Nat → Int32) (fN_flow : Nat → Int32) (fN_length : Nat → Int32) (fN_stop : Nat → Int32) (iN_stops : Int32) (fN_price : Nat → Int32) (fN_rest : Nat → Int32) (p1 : Int32) (p2 : Int32) (p3 : Int32) (b_fX_sheet : ∀ q : Nat, (-128) ≤ (fX_sheet q).toInt ∧ (fX_sheet q).toInt ≤ 127) (b_nX_sheet : 64 ≤ nX_sheet ∧ nX_sheet ≤ 60000) (b_iX_sheetLength : 0 ≤ iX_sheetLength.toInt ∧ iX_sheetLength.toInt ≤ 30000) (b_shl : iX_sheetLength.toInt ≤ ((nX_sheet : Nat) : Int)) (b_iN_arcs : 0 ≤ iN_arcs.toInt ∧ iN_arcs.toInt ≤ 40) (b_fN_from : ∀ q : Nat, 0 ≤ (fN_from q).toInt ∧ (fN_from q).toInt ≤ 11) (b_fN_to : ∀ q : Nat, 0 ≤ (fN_to q).toInt ∧ (fN_to q).toInt ≤ 11) (b_fN_before : ∀ q : Nat, 0 ≤ (fN_before q).toInt ∧ (fN_before q).toInt ≤ 79) (b_fN_stop : ∀ q : Nat, 0 ≤ (fN_stop q).toInt ∧ (fN_stop q).toInt ≤ 11) (b_iN_stops : 0 ≤ iN_stops.toInt ∧ iN_stops.toInt ≤ 8) (hVal : tVal (iN_arcs.toInt, fN_from, fN_to, fN_room, fN_cost)) (sz : Nat) : vx_Met l yX11_path wsMX11_path_1 ({ frames := 7, cells := 1, slots := 6, locals := 102 }) (va_Pc [.ref (hX 0), .int p1, .int p2, .int p3] (fun U => U.heap.size = sz ∧ va_P (dC, dI) vwCl (WX hX aX kX hT hM fX_ready fX_sheet dX_sheet nX_sheet iX_sheetLength xX_reader xX_solver xX_prover xX_values xX_clauses (.ref (hN 0)) ++ (WN hN aN kN iN_arcs fN_from fN_to fN_room fN_cost iN_reached fN_free fN_before fN_flow fN_length fN_stop iN_stops fN_price fN_rest)) U.heap ∧ va_K (dC, dI) vwCl (tX kX ++ (tN kN)) U ∧ va_D (fun _ => True) (WX hX aX kX hT hM fX_ready fX_sheet dX_sheet nX_sheet iX_sheetLength xX_reader xX_solver xX_prover xX_values xX_clauses (.ref (hN 0)) ++ (WN hN aN kN iN_arcs fN_from fN_to fN_room fN_cost iN_reached fN_free fN_before fN_flow fN_length fN_stop iN_stops fN_price fN_rest)) ∧ CE (va_A (WX hX aX kX hT hM fX_ready fX_sheet dX_sheet nX_sheet iX_sheetLength xX_reader xX_solver xX_prover xX_values xX_clauses (.ref (hN 0)) ++ (WN hN aN kN iN_arcs fN_from fN_to fN_room fN_cost iN_reached fN_free fN_before fN_flow fN_length fN_stop iN_stops fN_price fN_rest)) sz) U U.heap)) (va_Qi (fun (r : Int32) (u : Nat → Int32) => (((0 ≤ p1.toInt ∧ p1.toInt ≤ 11) ∧ 0 ≤ p2.toInt ∧ p2.toInt ≤ 11) ∧ p1.toInt ≠ p2.toInt) ∧ (pAns (iN_arcs.toInt, fN_from, fN_to, fN_room, fN_cost) p1.toInt.toNat p2.toInt.toNat p3.toInt r.toInt)) (fun (u : Nat → Int32) t => va_P (dC, dI) vwCl (WX hX aX kX hT hM fX_ready fX_sheet dX_sheet nX_sheet iX_sheetLength xX_reader xX_solver xX_prover xX_values xX_clauses (.ref (hN 0)) ++ (WN hN aN kN iN_arcs fN_from fN_to fN_room fN_cost iN_reached fN_free fN_before fN_flow u fN_stop iN_stops fN_price fN_rest)) t.heap ∧ va_D (va_A (WX hX aX kX hT hM fX_ready fX_sheet dX_sheet nX_sheet iX_sheetLength xX_reader xX_solver xX_prover xX_values xX_clauses (.ref (hN 0)) ++ (WN hN aN kN iN_arcs fN_from fN_to fN_room fN_cost iN_reached fN_free fN_before fN_flow fN_length fN_stop iN_stops fN_price fN_rest)) sz) (WX hX aX kX hT hM fX_ready fX_sheet dX_sheet nX_sheet iX_sheetLength xX_reader xX_solver xX_prover xX_values xX_clauses (.ref (hN 0)) ++ (WN hN aN kN iN_arcs fN_from fN_to fN_room fN_cost iN_reached fN_free fN_before fN_flow u fN_stop iN_stops fN_price fN_rest)) ∧ t.heap.size = sz) (va_A (WX hX aX kX hT hM fX_ready fX_sheet dX_sheet nX_sheet iX_sheetLength xX_reader xX_solver xX_prover xX_values xX_clauses (.ref (hN 0)) ++ (WN hN aN kN iN_arcs fN_from fN_to fN_room fN_cost iN_reached fN_free fN_before fN_flow fN_length fN_stop iN_stops fN_price fN_rest)) sz)) (vx_X (fun (u : Nat → Int32) => True) (fun E (u : Nat → Int32) t => ((E = "java/lang/IndexOutOfBoundsException" ∧ (¬ ((0 ≤ p1.toInt ∧ p1.toInt ≤ 11) ∧ 0 ≤ p2.toInt ∧ p2.toInt ≤ 11))) ∨ (E = "java/lang/IllegalArgumentException" ∧ (((0 ≤ p1.toInt ∧ p1.toInt ≤ 11) ∧ 0 ≤ p2.toInt ∧ p2.toInt ≤ 11) ∧ p1.toInt = p2.toInt))) ∧ va_P (dC, dI) vwCl (WX hX aX kX hT hM fX_ready fX_sheet dX_sheet nX_sheet iX_sheetLength xX_reader xX_solver xX_prover xX_values xX_clauses (.ref (hN 0)) ++ (WN hN aN kN iN_arcs fN_from fN_to fN_room fN_cost iN_reached fN_free fN_before fN_flow u fN_stop iN_stops fN_price fN_rest)) t.heap ∧ va_D (va_A (WX hX aX kX hT hM fX_ready fX_sheet dX_sheet nX_sheet iX_sheetLength xX_reader xX_solver xX_prover xX_values xX_clauses (.ref (hN 0)) ++ (WN hN aN kN iN_arcs fN_from fN_to fN_room fN_cost iN_reached fN_free fN_before fN_flow fN_length fN_stop iN_stops fN_price fN_rest)) sz) (WX hX aX kX hT hM fX_ready fX_sheet dX_sheet nX_sheet iX_sheetLength xX_reader xX_solver xX_prover xX_values xX_clauses (.ref (hN 0)) ++ (WN hN aN kN iN_arcs fN_from fN_to fN_room fN_cost iN_reached fN_free fN_before fN_flow u fN_stop iN_stops fN_price fN_rest))) (va_A (WX hX aX kX hT hM fX_ready fX_sheet dX_sheet nX_sheet iX_sheetLength xX_reader xX_solver xX_prover xX_values xX_clauses (.ref (hN 0)) ++ (WN hN aN kN iN_arcs fN_from fN_to fN_room fN_cost iN_reached fN_free fN_before fN_flow fN_length fN_stop iN_stops fN_price fN_rest)) sz)) 1 6 (va_A (WX hX aX kX hT hM fX_ready fX_sheet dX_sheet nX_sheet iX_sheetLength xX_reader xX_solver xX_prover xX_values xX_clauses (.ref (hN 0)) ++ (WN hN aN kN iN_arcs fN_from fN_to fN_room fN_cost iN_reached fN_free fN_before fN_flow fN_length fN_stop iN_stops fN_price fN_rest)) sz) := by
  refine vx_ofW (cc := cX11_path) (maxL := 4) (ret := (some .int)) (by decide) rfl ?_
  intro p e s m args below meth c s₁ B hml htab hv
  obtain ⟨rfl, hsz, hP, hK, hD0, hE⟩ := hv
  have hx := B.exec
  have hb := B.bytes
  have hr := B.returns
  have hts := atoms_spec (ws := wsMX11_path_1) B.pre
  have hown : s.vm.findClass RX11 = some m.cls := findClass_of_methodNamed B.named
  have hlocks := B.notSynchronized
  subst hsz
  have hD := hD0.self (sz := s.heap.size)
  generalize hAe : va_A (WX hX aX kX hT hM fX_ready fX_sheet dX_sheet nX_sheet iX_sheetLength xX_reader xX_solver xX_prover xX_values xX_clauses (.ref (hN 0)) ++ (WN hN aN kN iN_arcs fN_from fN_to fN_room fN_cost iN_reached fN_free fN_before fN_flow fN_length fN_stop iN_stops fN_price fN_rest)) s.heap.size = A at hD hE ⊢
  have hA : ∀ q : Nat, s.heap.size ≤ q → A q := fun q h => by rw [← hAe]; exact Or.inr h
  have hS : va_S A s.heap s.heap [] := va_S.rf
  have hl := lv_entry ([.ref (hX 0), .int p1, .int p2, .int p3]) (n := 4) (Nat.le_of_ble_eq_true rfl)
  rw [lg_entry_eq]
  generalize (lg_sl ([.ref (hX 0), .int p1, .int p2, .int p3]) ++ List.replicate (4 - (lg_sl ([.ref (hX 0), .int p1, .int p2, .int p3])).length) Slot.unset).toArray = ls at hl ⊢
  have hl : lv_has ls 4 [(0, .ref (hX 0)), (1, .int p1), (2, .int p2), (3, .int p3)] := hl
  refine lv_iload_n hx hb dX11_path_0 rfl (lv_at hl 1 rfl) ?_
  refine lv_iload_n hx hb dX11_path_1 rfl (lv_at hl 2 rfl) ?_
  refine W.known (fun hz0 _ => ?_)
  have hFc := noneFree hS hA
  refine vx_callv (vx_runS (As := [.int p1, .int p2]) (rest := []) ⟨hx, hb, hml, hown, hts⟩ (m_X11_needNodes l hst dC dI p1 p2 s.heap.size) (va_cwS 2 hts gwsMX11_path_1_0 rfl rfl rfl (by decide +kernel) ⟨by decide +kernel, by decide +kernel⟩) ⟨fun a U g mk q => by obtain ⟨q0, q1, qP, qK, qD, qE⟩ := q; exact ⟨q0, q1, qP, va_K.moved (u := U) (U := U.calling g mk a) (Vm.Alike.refl U.vm) qK, qD, qE.call⟩, fun U hU9 hW => ⟨rfl, by rw [hU9], by rw [hU9]; exact nilP, va_K.moved hW.alike (hK.sub (tys' := []) [] rfl), nilD, by rw [hU9]; exact (((hE : CE A s s.heap).kept hS.2.1).narrow (fun q h => hFc q h)).warm hW⟩⟩ rfl rfl hl.1 rfl (lv_room (Nat.le_of_ble_eq_true rfl)) dX11_path_2 (by decide +kernel)) hS (fun q _ h => hFc q h) hFc (fun q _ h => hFc q h) (fun E ce q9 u t9_ H1 locs ht hvm hw9 hB9 hz1 hk1 hS hc1 hc2 hc3 => ?_) (fun u t9_ H1 locs ht hvm hw9 hB9 hz1 hk1 hS => ?_)
  · revert hB9
    refine fz_a2 ?_
    intro hEx hB9
    clear hw9
    clear hB9
    have hP := keepAll hP hk1
    generalize H1 = H at hP hS hc1 ⊢
    have hP : va_P (dC, dI) vwCl (WX hX aX kX hT hM fX_ready fX_sheet dX_sheet nX_sheet iX_sheetLength xX_reader xX_solver xX_prover xX_values xX_clauses (.ref (hN 0)) ++ (WN hN aN kN iN_arcs fN_from fN_to fN_room fN_cost iN_reached fN_free fN_before fN_flow fN_length fN_stop iN_stops fN_price fN_rest)) H := hP
    have hD := fz_sd hP (hD) rfl
    exact vx_out (fun x hx9 => (htab x hx9).elim) hlocks hc1 hc2 hc3 (fun t9_ ht hvm => ⟨fN_length, trivial, ⟨(by rcases hEx with h9 | h9; exact Or.inl ⟨h9.1, (by have h8 := h9.2; omega)⟩; exact Or.inr (⟨h9.1, (by have h8 := h9.2; omega)⟩)), by rw [ht]; exact hP, hD⟩, hS.F ht⟩) hS.2.2 (by decide +kernel) (by decide +kernel)
  have f1_0 := hw9
  try dsimp only at f1_0
  obtain ⟨_, hz8⟩ := hB9
  rw [ht] at hz8
  have hz9 : H1.size ≤ s.heap.size + 0 := by rw [hz8]; exact hz0
  refine W.tight (cells2 := 0) (slots2 := 0) hz9 (nS_0 hz9) ?_
  clear hz8 hz9
  have hP := keepAll hP hk1
  generalize H1 = H at hP hS ⊢
  have hP : va_P (dC, dI) vwCl (WX hX aX kX hT hM fX_ready fX_sheet dX_sheet nX_sheet iX_sheetLength xX_reader xX_solver xX_prover xX_values xX_clauses (.ref (hN 0)) ++ (WN hN aN kN iN_arcs fN_from fN_to fN_room fN_cost iN_reached fN_free fN_before fN_flow fN_length fN_stop iN_stops fN_price fN_rest)) H := hP
  have hD := fz_sd hP (hD) rfl
  have hnn := f1_0
  refine lv_aload_n hx hb dX11_path_5 rfl (lv_at hl 0 rfl) ?_
  have hFc := allFree hD hS hA
  refine va_callr (va_runV (As := []) (rest := []) ⟨hx, hb, hml, hown, hts⟩ (m_X11_theNets_1 l dC dI hX aX kX hT hM fX_ready fX_sheet dX_sheet nX_sheet iX_sheetLength xX_reader xX_solver xX_prover xX_values xX_clauses hN aN kN iN_arcs fN_from fN_to fN_room fN_cost iN_reached fN_free fN_before fN_flow fN_length fN_stop iN_stops fN_price fN_rest b_fX_sheet (by first | exact b_nX_sheet | with_reducible assumption | exact ⟨by omega, by omega⟩ | assumption) (b_iX_sheetLength) (by first | with_reducible assumption | omega | assumption) (b_iN_arcs) b_fN_from b_fN_to b_fN_before b_fN_stop (b_iN_stops) H.size) (cwV 0 hts gwsMX11_path_1_1 rfl rfl rfl hd_yX11_theNets_RX11 (by decide +kernel)) (fz_pre (va_recv hK hP (ci := 11) (q0 := 0) rfl rfl) hP hK hD) rfl rfl hl.1 rfl (lv_room (Nat.le_of_ble_eq_true rfl)) dX11_path_6 (by decide +kernel)) hS (fun q _ h => hFc q h) hFc (fun u ra2 t9_ H locs ht hvm hw9 hB9 hz1 hk1 hS => ?_)
  revert hB9
  refine fz_a2 ?_
  intro hra hB9
  subst hra
  clear hw9
  have hP : va_P (dC, dI) vwCl (WX hX aX kX hT hM fX_ready fX_sheet dX_sheet nX_sheet iX_sheetLength xX_reader xX_solver xX_prover xX_values xX_clauses (.ref (hN 0)) ++ (WN hN aN kN iN_arcs fN_from fN_to fN_room fN_cost iN_reached fN_free fN_before fN_flow fN_length fN_stop iN_stops fN_price fN_rest)) H := fz_P ht hB9.1
  have hD := fz_sd hP (hB9.2.weaken (fun _ q _ h => hFc q.1 h)) rfl
  refine lv_iload_n hx hb dX11_path_9 rfl (lv_at hl 1 rfl) ?_
  refine lv_iload_n hx hb dX11_path_10 rfl (lv_at hl 2 rfl) ?_
  refine lv_iload_n hx hb dX11_path_11 rfl (lv_at hl 3 rfl) ?_
  have p9 := cj_2_1 (WX hX aX kX hT hM fX_ready fX_sheet dX_sheet nX_sheet iX_sheetLength xX_reader xX_solver xX_prover xX_values xX_clauses (.ref (hN 0))) (WN hN aN kN iN_arcs fN_from fN_to fN_room fN_cost iN_reached fN_free fN_before fN_flow fN_length fN_stop iN_stops fN_price fN_rest)
  have hPc := hP.mem (fun q h => p9.mem_iff.mpr (List.mem_append_left _ h))
  have hDc := (hD.perm p9).left
  have hKc : va_K (dC, dI) vwCl (tN kN) _ := hK.sub [2, 3, 4, 5, 6, 7, 8, 9, 10, 11, 12] rfl
  have hFc := freeG p9 hD hS hA
  refine va_calli (va_runV (As := [.int p1, .int p2, .int p3]) (rest := []) ⟨hx, hb, hml, hown, hts⟩ (m_X2_shortest l dC dI hN aN kN iN_arcs fN_from fN_to fN_room fN_cost iN_reached fN_free fN_before fN_flow fN_length fN_stop iN_stops fN_price fN_rest p1 p2 p3 (b_iN_arcs) b_fN_from b_fN_to b_fN_before b_fN_stop (b_iN_stops) (by first | exact b_p1 | with_reducible assumption | exact ⟨by omega, by omega⟩ | assumption) (by first | exact b_p2 | with_reducible assumption | exact ⟨by omega, by omega⟩ | assumption) (hVal) H.size) (cwV 3 hts gwsMX11_path_1_2 rfl rfl rfl hd_yX2_shortest_RX2 (by decide +kernel)) (fz_pre (va_recv hK hP (ci := 2) (q0 := 3) rfl rfl) hPc hKc hDc) rfl rfl hl.1 rfl (lv_room (Nat.le_of_ble_eq_true rfl)) dX11_path_12 (by decide +kernel)) hS (fun q _ h => hFc q h) hFc (fun r3 fN_length_3 t9_ H locs ht hvm hw9 hB9 hz1 hk1 hS => ?_)
  have f3_0 := hw9
  try dsimp only at f3_0
  have p8 := cj_2_1 (WX hX aX kX hT hM fX_ready fX_sheet dX_sheet nX_sheet iX_sheetLength xX_reader xX_solver xX_prover xX_values xX_clauses (.ref (hN 0))) (WN hN aN kN iN_arcs fN_from fN_to fN_room fN_cost iN_reached fN_free fN_before fN_flow fN_length_3 fN_stop iN_stops fN_price fN_rest)
  obtain ⟨hP, hD⟩ := frameG p9 p8 hP hD hk1 hFc (fz_P ht hB9.1) hB9.2
  refine vx_ret ?_
  refine W.known (fun hz9 _ => ?_)
  refine W.widen (k := 1) (n := 6) (by decide +kernel) (by decide +kernel) ?_
  exact W.iret (v := r3) hx hb hr (fun t9_ ht hW => ⟨⟨r3, fN_length_3, rfl, ⟨(by (try dsimp only); omega), (by (try dsimp only); assumption)⟩, by rw [ht]; exact hP, hD, by rw [ht]; first | done | exact Nat.le_antisymm hz9 hS.1⟩, hS.F ht⟩) hS.2.2 dX11_path_15
theorem dX11_tree_0 : decode cX11_tree 0 = .ok (.aload_n 0, 1) := dk_42 (by decide +kernel)
theorem dX11_tree_1 : decode cX11_tree 1 = .ok (.invokevirtual 425, 3) := dk_182 (by decide +kernel)
theorem dX11_tree_4 : decode cX11_tree 4 = .ok (.invokevirtual 452, 3) := dk_182 (by decide +kernel)
theorem dX11_tree_7 : decode cX11_tree 7 = .ok (.lreturn, 1) := dk_173 (by decide +kernel)
def wsMX11_tree_1 : List Cond := .code yX11_tree cX11_tree 1 (some .long) :: ([] ++ (wsV RX11 425 RX11 yX11_theNets wsMX11_theNets_1) ++ (wsV RX11 452 RX2 yX2_treeArcs wsMX2_treeArcs))
theorem gwsMX11_tree_1_0 : GoodIn wsMX11_tree_1 (wsV RX11 425 RX11 yX11_theNets wsMX11_theNets_1) := goodIn_sub (fun _ h => List.mem_cons_of_mem _ (List.mem_append_left _ (List.mem_append_right _ h))) (gdV (by decide +kernel) gdwsMX11_theNets_1)
theorem gwsMX11_tree_1_1 : GoodIn wsMX11_tree_1 (wsV RX11 452 RX2 yX2_treeArcs wsMX2_treeArcs) := goodIn_sub (fun _ h => List.mem_cons_of_mem _ (List.mem_append_right _ h)) (gdV (by decide +kernel) gdwsMX2_treeArcs)
theorem gdwsMX11_tree_1 : wsMX11_tree_1.all goodWord = true := gdC rfl (gdA (gdA (by decide +kernel : ([] : List Cond).all goodWord = true) (gdV (by decide +kernel) gdwsMX11_theNets_1)) (gdV (by decide +kernel) gdwsMX2_treeArcs))
set_option maxHeartbeats 4000000 in
set_option maxRecDepth 100000 in
/-- a tree -/
theorem m_X11_tree_1 (l : Launch) (dC : Nat → ClassId) (dI : Nat → Nat → Nat) (hX : Nat → Nat) (aX : Nat → Nat) (kX : Nat → ClassId) (hT : Nat → Nat) (hM : Nat → Nat) (fX_ready : Nat → Int32) (fX_sheet : Nat → Int32) (dX_sheet : Nat) (nX_sheet : Nat) (iX_sheetLength : Int32) (xX_reader : Value) (xX_solver : Value) (xX_prover : Value) (xX_values : Value) (xX_clauses : Value) (hN : Nat → Nat) (aN : Nat → Nat) (kN : Nat → ClassId) (iN_arcs : Int32) (fN_from : Nat → Int32) (fN_to : Nat → Int32) (fN_room : Nat → Int32) (fN_cost : Nat → Int32) (iN_reached : Int32) (fN_free : Nat → Int32) (fN_before : Nat → Int32) (fN_flow : Nat → Int32) (fN_length : Nat → Int32) (fN_stop : Nat → Int32) (iN_stops : Int32) (fN_price : Nat → Int32) (fN_rest : Nat → Int32) (b_fX_sheet : ∀ q : Nat, (-128) ≤ (fX_sheet q).toInt ∧ (fX_sheet q).toInt ≤ 127) (b_nX_sheet : 64 ≤ nX_sheet ∧ nX_sheet ≤ 60000) (b_iX_sheetLength : 0 ≤ iX_sheetLength.toInt ∧ iX_sheetLength.toInt ≤ 30000) (b_shl : iX_sheetLength.toInt ≤ ((nX_sheet : Nat) : Int)) (b_iN_arcs : 0 ≤ iN_arcs.toInt ∧ iN_arcs.toInt ≤ 40) (b_fN_from : ∀ q : Nat, 0 ≤ (fN_from q).toInt ∧ (fN_from q).toInt ≤ 11) (b_fN_to : ∀ q : Nat, 0 ≤ (fN_to q).toInt ∧ (fN_to q).toInt ≤ 11) (b_fN_before : ∀ q : Nat, 0 ≤ (fN_before q).toInt ∧ (fN_before q).toInt ≤ 79) (b_fN_stop : ∀ q : Nat, 0 ≤ (fN_stop q).toInt ∧ (fN_stop q).toInt ≤ 11) (b_iN_stops : 0 ≤ iN_stops.toInt ∧ iN_stops.toInt ≤ 8) (hVal : tVal (iN_arcs.toInt, fN_from, fN_to, fN_room, fN_cost)) (sz : Nat) : Met l yX11_tree wsMX11_tree_1 ({ frames := 3, cells := 0, slots := 0, locals := 67 }) (va_Pc [.ref (hX 0)] (fun U => U.heap.size = sz ∧ va_P (dC, dI) vwCl (WX hX aX kX hT hM fX_ready fX_sheet dX_sheet nX_sheet iX_sheetLength xX_reader xX_solver xX_prover xX_values xX_clauses (.ref (hN 0)) ++ (WN hN aN kN iN_arcs fN_from fN_to fN_room fN_cost iN_reached fN_free fN_before fN_flow fN_length fN_stop iN_stops fN_price fN_rest)) U.heap ∧ va_K (dC, dI) vwCl (tX kX ++ (tN kN)) U ∧ va_D (fun _ => True) (WX hX aX kX hT hM fX_ready fX_sheet dX_sheet nX_sheet iX_sheetLength xX_reader xX_solver xX_prover xX_values xX_clauses (.ref (hN 0)) ++ (WN hN aN kN iN_arcs fN_from fN_to fN_room fN_cost iN_reached fN_free fN_before fN_flow fN_length fN_stop iN_stops fN_price fN_rest)))) (va_Ql (fun (r : Int64) (u : Nat → Int32) => (∀ q : Nat, 0 ≤ (u q).toInt ∧ (u q).toInt ≤ 79) ∧ (tAll (iN_arcs.toInt, fN_from, fN_to, fN_room, fN_cost) r)) (fun (u : Nat → Int32) t => va_P (dC, dI) vwCl (WX hX aX kX hT hM fX_ready fX_sheet dX_sheet nX_sheet iX_sheetLength xX_reader xX_solver xX_prover xX_values xX_clauses (.ref (hN 0)) ++ (WN hN aN kN iN_arcs fN_from fN_to fN_room fN_cost iN_reached fN_free u fN_flow fN_length fN_stop iN_stops fN_price fN_rest)) t.heap ∧ va_D (va_A (WX hX aX kX hT hM fX_ready fX_sheet dX_sheet nX_sheet iX_sheetLength xX_reader xX_solver xX_prover xX_values xX_clauses (.ref (hN 0)) ++ (WN hN aN kN iN_arcs fN_from fN_to fN_room fN_cost iN_reached fN_free fN_before fN_flow fN_length fN_stop iN_stops fN_price fN_rest)) sz) (WX hX aX kX hT hM fX_ready fX_sheet dX_sheet nX_sheet iX_sheetLength xX_reader xX_solver xX_prover xX_values xX_clauses (.ref (hN 0)) ++ (WN hN aN kN iN_arcs fN_from fN_to fN_room fN_cost iN_reached fN_free u fN_flow fN_length fN_stop iN_stops fN_price fN_rest))) (va_A (WX hX aX kX hT hM fX_ready fX_sheet dX_sheet nX_sheet iX_sheetLength xX_reader xX_solver xX_prover xX_values xX_clauses (.ref (hN 0)) ++ (WN hN aN kN iN_arcs fN_from fN_to fN_room fN_cost iN_reached fN_free fN_before fN_flow fN_length fN_stop iN_stops fN_price fN_rest)) sz)) 0 0 (va_A (WX hX aX kX hT hM fX_ready fX_sheet dX_sheet nX_sheet iX_sheetLength xX_reader xX_solver xX_prover xX_values xX_clauses (.ref (hN 0)) ++ (WN hN aN kN iN_arcs fN_from fN_to fN_room fN_cost iN_reached fN_free fN_before fN_flow fN_length fN_stop iN_stops fN_price fN_rest)) sz) := by
  refine Met.ofW (cc := cX11_tree) (maxL := 1) (ret := (some .long)) (by decide) rfl ?_
  intro p e s m args below meth c s₁ B hml hv
  obtain ⟨rfl, hsz, hP, hK, hD0⟩ := hv
  have hx := B.exec
  have hb := B.bytes
  have hr := B.returns
  have hts := atoms_spec (ws := wsMX11_tree_1) B.pre
  have hown : s.vm.findClass RX11 = some m.cls := findClass_of_methodNamed B.named
  have hlocks := B.notSynchronized
  subst hsz
  have hD := hD0.self (sz := s.heap.size)
  generalize hAe : va_A (WX hX aX kX hT hM fX_ready fX_sheet dX_sheet nX_sheet iX_sheetLength xX_reader xX_solver xX_prover xX_values xX_clauses (.ref (hN 0)) ++ (WN hN aN kN iN_arcs fN_from fN_to fN_room fN_cost iN_reached fN_free fN_before fN_flow fN_length fN_stop iN_stops fN_price fN_rest)) s.heap.size = A at hD ⊢
  have hA : ∀ q : Nat, s.heap.size ≤ q → A q := fun q h => by rw [← hAe]; exact Or.inr h
  have hS : va_S A s.heap s.heap [] := va_S.rf
  have hl := lv_entry ([.ref (hX 0)]) (n := 1) (Nat.le_of_ble_eq_true rfl)
  rw [lg_entry_eq]
  generalize (lg_sl ([.ref (hX 0)]) ++ List.replicate (1 - (lg_sl ([.ref (hX 0)])).length) Slot.unset).toArray = ls at hl ⊢
  have hl : lv_has ls 1 [(0, .ref (hX 0))] := hl
  refine lv_aload_n hx hb dX11_tree_0 rfl (lv_at hl 0 rfl) ?_
  have hFc := allFree hD hS hA
  refine va_callr (va_runV (As := []) (rest := []) ⟨hx, hb, hml, hown, hts⟩ (m_X11_theNets_1 l dC dI hX aX kX hT hM fX_ready fX_sheet dX_sheet nX_sheet iX_sheetLength xX_reader xX_solver xX_prover xX_values xX_clauses hN aN kN iN_arcs fN_from fN_to fN_room fN_cost iN_reached fN_free fN_before fN_flow fN_length fN_stop iN_stops fN_price fN_rest b_fX_sheet (by first | exact b_nX_sheet | with_reducible assumption | exact ⟨by omega, by omega⟩ | assumption) (b_iX_sheetLength) (by first | with_reducible assumption | omega | assumption) (b_iN_arcs) b_fN_from b_fN_to b_fN_before b_fN_stop (b_iN_stops) s.heap.size) (cwV 0 hts gwsMX11_tree_1_0 rfl rfl rfl hd_yX11_theNets_RX11 (by decide +kernel)) (fz_pre (va_recv hK hP (ci := 11) (q0 := 0) rfl rfl) hP hK hD) rfl rfl hl.1 rfl (lv_room (Nat.le_of_ble_eq_true rfl)) dX11_tree_1 (by decide +kernel)) hS (fun q _ h => hFc q h) hFc (fun u ra1 t9_ H locs ht hvm hw9 hB9 hz1 hk1 hS => ?_)
  revert hB9
  refine fz_a2 ?_
  intro hra hB9
  subst hra
  clear hw9
  have hP : va_P (dC, dI) vwCl (WX hX aX kX hT hM fX_ready fX_sheet dX_sheet nX_sheet iX_sheetLength xX_reader xX_solver xX_prover xX_values xX_clauses (.ref (hN 0)) ++ (WN hN aN kN iN_arcs fN_from fN_to fN_room fN_cost iN_reached fN_free fN_before fN_flow fN_length fN_stop iN_stops fN_price fN_rest)) H := fz_P ht hB9.1
  have hD := fz_sd hP (hB9.2.weaken (fun _ q _ h => hFc q.1 h)) rfl
  have p9 := cj_2_1 (WX hX aX kX hT hM fX_ready fX_sheet dX_sheet nX_sheet iX_sheetLength xX_reader xX_solver xX_prover xX_values xX_clauses (.ref (hN 0))) (WN hN aN kN iN_arcs fN_from fN_to fN_room fN_cost iN_reached fN_free fN_before fN_flow fN_length fN_stop iN_stops fN_price fN_rest)
  have hPc := hP.mem (fun q h => p9.mem_iff.mpr (List.mem_append_left _ h))
  have hDc := (hD.perm p9).left
  have hKc : va_K (dC, dI) vwCl (tN kN) _ := hK.sub [2, 3, 4, 5, 6, 7, 8, 9, 10, 11, 12] rfl
  have hFc := freeG p9 hD hS hA
  refine va_calll (va_runV (As := []) (rest := []) ⟨hx, hb, hml, hown, hts⟩ (m_X2_treeArcs l dC dI hN aN kN iN_arcs fN_from fN_to fN_room fN_cost iN_reached fN_free fN_before fN_flow fN_length fN_stop iN_stops fN_price fN_rest (b_iN_arcs) b_fN_from b_fN_to b_fN_before b_fN_stop (b_iN_stops) (hVal) H.size) (cwV 0 hts gwsMX11_tree_1_1 rfl rfl rfl hd_yX2_treeArcs_RX2 (by decide +kernel)) (fz_pre (va_recv hK hP (ci := 2) (q0 := 3) rfl rfl) hPc hKc hDc) rfl rfl hl.1 rfl (lv_room (Nat.le_of_ble_eq_true rfl)) dX11_tree_4 (by decide +kernel)) hS (fun q _ h => hFc q h) hFc (fun r2 fN_before_2 t9_ H locs ht hvm hw9 hB9 hz1 hk1 hS => ?_)
  revert hw9
  refine fz_a2 ?_
  intro b_fN_before_2 f2_0
  have p8 := cj_2_1 (WX hX aX kX hT hM fX_ready fX_sheet dX_sheet nX_sheet iX_sheetLength xX_reader xX_solver xX_prover xX_values xX_clauses (.ref (hN 0))) (WN hN aN kN iN_arcs fN_from fN_to fN_room fN_cost iN_reached fN_free fN_before_2 fN_flow fN_length fN_stop iN_stops fN_price fN_rest)
  obtain ⟨hP, hD⟩ := frameG p9 p8 hP hD hk1 hFc (fz_P ht hB9.1) hB9.2
  refine W.widen (k := 0) (n := 0) (by decide +kernel) (by decide +kernel) ?_
  exact W.lret (v := r2) hx hb hr (fun t9_ ht hW => ⟨⟨r2, fN_before_2, rfl, ⟨b_fN_before_2, (by (try dsimp only); assumption)⟩, by rw [ht]; exact hP, hD⟩, hS.F ht⟩) hS.2.2 dX11_tree_7
theorem dX11_tour_0 : decode cX11_tour 0 = .ok (.iload_n 1, 1) := dk_27 (by decide +kernel)
theorem dX11_tour_1 : decode cX11_tour 1 = .ok (.invokestatic 456, 3) := dk_184 (by decide +kernel)
theorem dX11_tour_4 : decode cX11_tour 4 = .ok (.istore_n 3, 1) := dk_62 (by decide +kernel)
theorem dX11_tour_5 : decode cX11_tour 5 = .ok (.iload_n 1, 1) := dk_27 (by decide +kernel)
theorem dX11_tour_6 : decode cX11_tour 6 = .ok (.ifCond .lt 21, 3) := dk_155 (by decide +kernel)
theorem dX11_tour_9 : decode cX11_tour 9 = .ok (.iload_n 1, 1) := dk_27 (by decide +kernel)
theorem dX11_tour_10 : decode cX11_tour 10 = .ok (.sipush 4096, 3) := dk_17 (by decide +kernel)
theorem dX11_tour_13 : decode cX11_tour 13 = .ok (.if_icmp .ge 14, 3) := dk_162 (by decide +kernel)
theorem dX11_tour_16 : decode cX11_tour 16 = .ok (.iload_n 3, 1) := dk_29 (by decide +kernel)
theorem dX11_tour_17 : decode cX11_tour 17 = .ok (.iconst 2, 1) := dk_5 (by decide +kernel)
theorem dX11_tour_18 : decode cX11_tour 18 = .ok (.if_icmp .lt 9, 3) := dk_161 (by decide +kernel)
theorem dX11_tour_21 : decode cX11_tour 21 = .ok (.iload_n 3, 1) := dk_29 (by decide +kernel)
theorem dX11_tour_22 : decode cX11_tour 22 = .ok (.bipush 8, 2) := dk_16 (by decide +kernel)
theorem dX11_tour_24 : decode cX11_tour 24 = .ok (.if_icmp .le 11, 3) := dk_164 (by decide +kernel)
theorem dX11_tour_27 : decode cX11_tour 27 = .ok (.new 77, 3) := dk_187 (by decide +kernel)
theorem dX11_tour_30 : decode cX11_tour 30 = .ok (.dup, 1) := dk_89 (by decide +kernel)
theorem dX11_tour_31 : decode cX11_tour 31 = .ok (.invokespecial 79, 3) := dk_183 (by decide +kernel)
theorem dX11_tour_34 : decode cX11_tour 34 = .ok (.athrow, 1) := dk_191 (by decide +kernel)
theorem dX11_tour_35 : decode cX11_tour 35 = .ok (.aload_n 0, 1) := dk_42 (by decide +kernel)
theorem dX11_tour_36 : decode cX11_tour 36 = .ok (.invokevirtual 425, 3) := dk_182 (by decide +kernel)
theorem dX11_tour_39 : decode cX11_tour 39 = .ok (.iload_n 1, 1) := dk_27 (by decide +kernel)
theorem dX11_tour_40 : decode cX11_tour 40 = .ok (.iload_n 2, 1) := dk_28 (by decide +kernel)
theorem dX11_tour_41 : decode cX11_tour 41 = .ok (.invokevirtual 461, 3) := dk_182 (by decide +kernel)
theorem dX11_tour_44 : decode cX11_tour 44 = .ok (.ireturn, 1) := dk_172 (by decide +kernel)
def wsMX11_tour_1 : List Cond := .code yX11_tour cX11_tour 4 (some .int) :: ([.classLink RX11 77 "java/lang/IllegalArgumentException", .initialized "java/lang/IllegalArgumentException"] ++ (va_wsS RX11 456 yJ6_bitCount_0f7a4 wsMJ6_bitCount_0f7a4) ++ ((vx_at0 RX11 79 "java/lang/IllegalArgumentException" ["java/lang/RuntimeException", "java/lang/Exception"]).filter goodWord) ++ (wsV RX11 425 RX11 yX11_theNets wsMX11_theNets_1) ++ (wsV RX11 461 RX2 yX2_round wsMX2_round))
theorem gwsMX11_tour_1_0 : GoodIn wsMX11_tour_1 (va_wsS RX11 456 yJ6_bitCount_0f7a4 wsMJ6_bitCount_0f7a4) := goodIn_sub (fun _ h => List.mem_cons_of_mem _ (List.mem_append_left _ (List.mem_append_left _ (List.mem_append_left _ (List.mem_append_right _ h))))) (gdS (by decide +kernel) gdwsMJ6_bitCount_0f7a4)
theorem gwsMX11_tour_1_2 : GoodIn wsMX11_tour_1 (wsV RX11 425 RX11 yX11_theNets wsMX11_theNets_1) := goodIn_sub (fun _ h => List.mem_cons_of_mem _ (List.mem_append_left _ (List.mem_append_right _ h))) (gdV (by decide +kernel) gdwsMX11_theNets_1)
theorem gwsMX11_tour_1_3 : GoodIn wsMX11_tour_1 (wsV RX11 461 RX2 yX2_round wsMX2_round) := goodIn_sub (fun _ h => List.mem_cons_of_mem _ (List.mem_append_right _ h)) (gdV (by decide +kernel) gdwsMX2_round)
theorem gdwsMX11_tour_1 : wsMX11_tour_1.all goodWord = true := gdC rfl (gdA (gdA (gdA (gdA (by decide +kernel : ([.classLink RX11 77 "java/lang/IllegalArgumentException", .initialized "java/lang/IllegalArgumentException"] : List Cond).all goodWord = true) (gdS (by decide +kernel) gdwsMJ6_bitCount_0f7a4)) (gdF _)) (gdV (by decide +kernel) gdwsMX11_theNets_1)) (gdV (by decide +kernel) gdwsMX2_round))
theorem hm_m_X11_tour_1_0 : (.classLink RX11 77 "java/lang/IllegalArgumentException" : Cond) ∈ wsMX11_tour_1 := by decide +kernel
theorem hm_m_X11_tour_1_1 : (.initialized "java/lang/IllegalArgumentException" : Cond) ∈ wsMX11_tour_1 := by decide +kernel
set_option maxHeartbeats 4000000 in
set_option maxRecDepth 100000 in
/-- a tour -/
theorem m_X11_tour_1 (l : Launch) (hst : l.stackTraces = false) (dC : Nat → ClassId) (dI : Nat → Nat → Nat) (hX : Nat → Nat) (aX : Nat → Nat) (kX : Nat → ClassId) (hT : Nat → Nat) (hM : Nat → Nat) (fX_ready : Nat → Int32) (fX_sheet : Nat → Int32) (dX_sheet : Nat) (nX_sheet : Nat) (iX_sheetLength : Int32) (xX_reader : Value) (xX_solver : Value) (xX_prover : Value) (xX_values : Value) (xX_clauses : Value) (hN : Nat → Nat) (aN : Nat → Nat) (kN : Nat → ClassId) (iN_arcs : Int32) (fN_from : Nat → Int32) (fN_to : Nat → Int32) (fN_room : Nat → Int32) (fN_cost : Nat → Int32) (iN_reached : Int32) (fN_free : Nat → Int32) (fN_before : Nat → Int32) (fN_flow : Nat → Int32) (fN_length : Nat → Int32) (fN_stop : Nat → Int32) (iN_stops : Int32) (fN_price : Nat → Int32) (fN_rest : Nat → Int32) (p1 : Int32) (p2 : Int32) (b_fX_sheet : ∀ q : Nat, (-128) ≤ (fX_sheet q).toInt ∧ (fX_sheet q).toInt ≤ 127) (b_nX_sheet : 64 ≤ nX_sheet ∧ nX_sheet ≤ 60000) (b_iX_sheetLength : 0 ≤ iX_sheetLength.toInt ∧ iX_sheetLength.toInt ≤ 30000) (b_shl : iX_sheetLength.toInt ≤ ((nX_sheet : Nat) : Int)) (b_iN_arcs : 0 ≤ iN_arcs.toInt ∧ iN_arcs.toInt ≤ 40) (b_fN_from : ∀ q : Nat, 0 ≤ (fN_from q).toInt ∧ (fN_from q).toInt ≤ 11) (b_fN_to : ∀ q : Nat, 0 ≤ (fN_to q).toInt ∧ (fN_to q).toInt ≤ 11) (b_fN_before : ∀ q : Nat, 0 ≤ (fN_before q).toInt ∧ (fN_before q).toInt ≤ 79) (b_fN_stop : ∀ q : Nat, 0 ≤ (fN_stop q).toInt ∧ (fN_stop q).toInt ≤ 11) (b_iN_stops : 0 ≤ iN_stops.toInt ∧ iN_stops.toInt ≤ 8) (hVal : tVal (iN_arcs.toInt, fN_from, fN_to, fN_room, fN_cost)) (sz : Nat) : vx_Met l yX11_tour wsMX11_tour_1 ({ frames := 6, cells := 1, slots := 6, locals := 87 }) (va_Pc [.ref (hX 0), .int p1, .int p2] (fun U => U.heap.size = sz ∧ va_P (dC, dI) vwCl (WX hX aX kX hT hM fX_ready fX_sheet dX_sheet nX_sheet iX_sheetLength xX_reader xX_solver xX_prover xX_values xX_clauses (.ref (hN 0)) ++ (WN hN aN kN iN_arcs fN_from fN_to fN_room fN_cost iN_reached fN_free fN_before fN_flow fN_length fN_stop iN_stops fN_price fN_rest)) U.heap ∧ va_K (dC, dI) vwCl (tX kX ++ (tN kN)) U ∧ va_D (fun _ => True) (WX hX aX kX hT hM fX_ready fX_sheet dX_sheet nX_sheet iX_sheetLength xX_reader xX_solver xX_prover xX_values xX_clauses (.ref (hN 0)) ++ (WN hN aN kN iN_arcs fN_from fN_to fN_room fN_cost iN_reached fN_free fN_before fN_flow fN_length fN_stop iN_stops fN_price fN_rest)) ∧ CE (va_A (WX hX aX kX hT hM fX_ready fX_sheet dX_sheet nX_sheet iX_sheetLength xX_reader xX_solver xX_prover xX_values xX_clauses (.ref (hN 0)) ++ (WN hN aN kN iN_arcs fN_from fN_to fN_room fN_cost iN_reached fN_free fN_before fN_flow fN_length fN_stop iN_stops fN_price fN_rest)) sz) U U.heap)) (va_Qi (fun (r : Int32) (u : (Nat → Int32) × (Int32) × (Nat → Int32) × (Nat → Int32)) => (∀ q : Nat, 0 ≤ ((u.1) q).toInt ∧ ((u.1) q).toInt ≤ 11) ∧ (0 ≤ (u.2.1).toInt ∧ (u.2.1).toInt ≤ 8) ∧ ((0 ≤ p1.toInt ∧ p1.toInt ≤ 4095 ∧ 2 ≤ cntB (bI p1) 12 ∧ cntB (bI p1) 12 ≤ 8)) ∧ (tuA (iN_arcs.toInt, fN_from, fN_to, fN_room, fN_cost) (bI p1) p2.toInt r.toInt)) (fun (u : (Nat → Int32) × (Int32) × (Nat → Int32) × (Nat → Int32)) t => va_P (dC, dI) vwCl (WX hX aX kX hT hM fX_ready fX_sheet dX_sheet nX_sheet iX_sheetLength xX_reader xX_solver xX_prover xX_values xX_clauses (.ref (hN 0)) ++ (WN hN aN kN iN_arcs fN_from fN_to fN_room fN_cost iN_reached fN_free fN_before fN_flow fN_length (u.1) (u.2.1) (u.2.2.1) (u.2.2.2))) t.heap ∧ va_D (va_A (WX hX aX kX hT hM fX_ready fX_sheet dX_sheet nX_sheet iX_sheetLength xX_reader xX_solver xX_prover xX_values xX_clauses (.ref (hN 0)) ++ (WN hN aN kN iN_arcs fN_from fN_to fN_room fN_cost iN_reached fN_free fN_before fN_flow fN_length fN_stop iN_stops fN_price fN_rest)) sz) (WX hX aX kX hT hM fX_ready fX_sheet dX_sheet nX_sheet iX_sheetLength xX_reader xX_solver xX_prover xX_values xX_clauses (.ref (hN 0)) ++ (WN hN aN kN iN_arcs fN_from fN_to fN_room fN_cost iN_reached fN_free fN_before fN_flow fN_length (u.1) (u.2.1) (u.2.2.1) (u.2.2.2))) ∧ t.heap.size = sz) (va_A (WX hX aX kX hT hM fX_ready fX_sheet dX_sheet nX_sheet iX_sheetLength xX_reader xX_solver xX_prover xX_values xX_clauses (.ref (hN 0)) ++ (WN hN aN kN iN_arcs fN_from fN_to fN_room fN_cost iN_reached fN_free fN_before fN_flow fN_length fN_stop iN_stops fN_price fN_rest)) sz)) (vx_X (fun (u : (Nat → Int32) × (Int32) × (Nat → Int32) × (Nat → Int32)) => (∀ q : Nat, 0 ≤ ((u.1) q).toInt ∧ ((u.1) q).toInt ≤ 11) ∧ (0 ≤ (u.2.1).toInt ∧ (u.2.1).toInt ≤ 8)) (fun E (u : (Nat → Int32) × (Int32) × (Nat → Int32) × (Nat → Int32)) t => ((E = "java/lang/IllegalArgumentException" ∧ (¬ (0 ≤ p1.toInt ∧ p1.toInt ≤ 4095 ∧ 2 ≤ cntB (bI p1) 12 ∧ cntB (bI p1) 12 ≤ 8)))) ∧ va_P (dC, dI) vwCl (WX hX aX kX hT hM fX_ready fX_sheet dX_sheet nX_sheet iX_sheetLength xX_reader xX_solver xX_prover xX_values xX_clauses (.ref (hN 0)) ++ (WN hN aN kN iN_arcs fN_from fN_to fN_room fN_cost iN_reached fN_free fN_before fN_flow fN_length (u.1) (u.2.1) (u.2.2.1) (u.2.2.2))) t.heap ∧ va_D (va_A (WX hX aX kX hT hM fX_ready fX_sheet dX_sheet nX_sheet iX_sheetLength xX_reader xX_solver xX_prover xX_values xX_clauses (.ref (hN 0)) ++ (WN hN aN kN iN_arcs fN_from fN_to fN_room fN_cost iN_reached fN_free fN_before fN_flow fN_length fN_stop iN_stops fN_price fN_rest)) sz) (WX hX aX kX hT hM fX_ready fX_sheet dX_sheet nX_sheet iX_sheetLength xX_reader xX_solver xX_prover xX_values xX_clauses (.ref (hN 0)) ++ (WN hN aN kN iN_arcs fN_from fN_to fN_room fN_cost iN_reached fN_free fN_before fN_flow fN_length (u.1) (u.2.1) (u.2.2.1) (u.2.2.2)))) (va_A (WX hX aX kX hT hM fX_ready fX_sheet dX_sheet nX_sheet iX_sheetLength xX_reader xX_solver xX_prover xX_values xX_clauses (.ref (hN 0)) ++ (WN hN aN kN iN_arcs fN_from fN_to fN_room fN_cost iN_reached fN_free fN_before fN_flow fN_length fN_stop iN_stops fN_price fN_rest)) sz)) 1 6 (va_A (WX hX aX kX hT hM fX_ready fX_sheet dX_sheet nX_sheet iX_sheetLength xX_reader xX_solver xX_prover xX_values xX_clauses (.ref (hN 0)) ++ (WN hN aN kN iN_arcs fN_from fN_to fN_room fN_cost iN_reached fN_free fN_before fN_flow fN_length fN_stop iN_stops fN_price fN_rest)) sz) := by
  refine vx_ofW (cc := cX11_tour) (maxL := 4) (ret := (some .int)) (by decide) rfl ?_
  intro p e s m args below meth c s₁ B hml htab hv
  obtain ⟨rfl, hsz, hP, hK, hD0, hE⟩ := hv
  have hx := B.exec
  have hb := B.bytes
  have hr := B.returns
  have hts := atoms_spec (ws := wsMX11_tour_1) B.pre
  have hown : s.vm.findClass RX11 = some m.cls := findClass_of_methodNamed B.named
  have hlocks := B.notSynchronized
  subst hsz
  have hD := hD0.self (sz := s.heap.size)
  generalize hAe : va_A (WX hX aX kX hT hM fX_ready fX_sheet dX_sheet nX_sheet iX_sheetLength xX_reader xX_solver xX_prover xX_values xX_clauses (.ref (hN 0)) ++ (WN hN aN kN iN_arcs fN_from fN_to fN_room fN_cost iN_reached fN_free fN_before fN_flow fN_length fN_stop iN_stops fN_price fN_rest)) s.heap.size = A at hD hE ⊢
  have hA : ∀ q : Nat, s.heap.size ≤ q → A q := fun q h => by rw [← hAe]; exact Or.inr h
  have hS : va_S A s.heap s.heap [] := va_S.rf
  have hl := lv_entry ([.ref (hX 0), .int p1, .int p2]) (n := 4) (Nat.le_of_ble_eq_true rfl)
  rw [lg_entry_eq]
  generalize (lg_sl ([.ref (hX 0), .int p1, .int p2]) ++ List.replicate (4 - (lg_sl ([.ref (hX 0), .int p1, .int p2])).length) Slot.unset).toArray = ls at hl ⊢
  have hl : lv_has ls 4 [(0, .ref (hX 0)), (1, .int p1), (2, .int p2)] := hl
  refine lv_iload_n hx hb dX11_tour_0 rfl (lv_at hl 1 rfl) ?_
  have hFc := noneFree hS hA
  refine va_calli (va_runS (As := [.int p1]) (rest := []) ⟨hx, hb, hml, hown, hts⟩ (m_J6_bitCount_0f7a4 l dC dI p1 s.heap.size) (va_cwS 1 hts gwsMX11_tour_1_0 rfl rfl rfl (by decide +kernel) ⟨by decide +kernel, by decide +kernel⟩) ⟨fun a U g mk q => by obtain ⟨q0, q1, qP, qK, qD⟩ := q; exact ⟨q0, q1, qP, va_K.moved (u := U) (U := U.calling g mk a) (Vm.Alike.refl U.vm) qK, qD⟩, fun U hU9 hW => ⟨rfl, by rw [hU9], by rw [hU9]; exact nilP, va_K.moved hW.alike (hK.sub (tys' := []) [] rfl), nilD⟩⟩ rfl rfl hl.1 rfl (lv_room (Nat.le_of_ble_eq_true rfl)) dX11_tour_1 (by decide +kernel)) hS (fun q _ h => hFc q h) hFc (fun r1 u t9_ H1 locs ht hvm hw9 hB9 hz1 hk1 hS => ?_)
  revert hw9
  refine fz_a2 ?_
  intro b_r1 f1_0
  clear hB9
  have hP := keepAll hP hk1
  generalize H1 = H at hP hS ⊢
  have hP : va_P (dC, dI) vwCl (WX hX aX kX hT hM fX_ready fX_sheet dX_sheet nX_sheet iX_sheetLength xX_reader xX_solver xX_prover xX_values xX_clauses (.ref (hN 0)) ++ (WN hN aN kN iN_arcs fN_from fN_to fN_room fN_cost iN_reached fN_free fN_before fN_flow fN_length fN_stop iN_stops fN_price fN_rest)) H := hP
  have hD := fz_sd hP (hD) rfl
  have hbc := f1_0
  refine lv_istore_n hx hb dX11_tour_4 rfl hl (by decide) rfl (fun ls (hl : lv_has ls _ ([(3, .int r1), (0, .ref (hX 0)), (1, .int p1), (2, .int p2)])) => ?_)
  refine lv_iload_n hx hb dX11_tour_5 rfl (lv_at hl 2 rfl) ?_
  refine lv_if_lt (tgt := 27) hx hb dX11_tour_6 (by decide) (fun c_6 => ?_) (fun c_6 => ?_)
  · have t_6 : p1.toInt < 0 := toI_lt c_6 rfl (by decide : (0 : Int32).toInt = 0)
    exact vx_throw0 (own := RX11) (cls := "java/lang/IllegalArgumentException") (names := ["java/lang/RuntimeException", "java/lang/Exception"]) (ik := 77) (ic := 79) (A := A) hx hb hst hown (by decide +kernel) (by decide +kernel) (hts _ hm_m_X11_tour_1_0) (hts _ hm_m_X11_tour_1_1) (vx_hat (B := ngX11_79) (fun w h => hts w (List.mem_cons_of_mem _ (List.mem_append_left _ (List.mem_append_left _ (List.mem_append_right _ h))))) (fun _ h => h) (fun w h => va_Nw.use (ngX11_79_ot w h) (hE.2.2.1.2.2.1 w h))) (by decide +kernel) hE.2.1.1 hE.2.1.2 hS (by rw [hml]; exact hl.1) dX11_tour_27 dX11_tour_30 dX11_tour_31 dX11_tour_34 (fun x hx9 => (htab x hx9).elim) (by decide +kernel) (Nat.le_of_ble_eq_true rfl) (by decide +kernel) (by decide +kernel) hlocks (fun t hvm hz hk => ⟨(fN_stop, iN_stops, fN_price, fN_rest), ⟨b_fN_stop, (b_iN_stops)⟩, ⟨⟨rfl, by first | omega | (have h8 := hbc (by omega) (by omega); omega)⟩, hP.kept (fun k q h => hk q.1 ((hP k q h).lt)), hD⟩, ⟨Nat.le_trans hS.1 hz, fun q h1 h2 => (hk q (Nat.lt_of_lt_of_le h1 hS.1)).trans (hS.2.1 q h1 h2)⟩⟩) hS.2.2 (by decide +kernel) (by decide +kernel)
  · have t_6 : ¬ p1.toInt < 0 := toI_nlt c_6 rfl (by decide : (0 : Int32).toInt = 0)
    refine lv_iload_n hx hb dX11_tour_9 rfl (lv_at hl 2 rfl) ?_
    refine lv_sipush (v := 4096) hx hb dX11_tour_10 (by decide) ?_
    refine lv_icmp_ge (tgt := 27) hx hb dX11_tour_13 (by decide) (fun c_13 => ?_) (fun c_13 => ?_)
    · have t_13 : p1.toInt ≥ 4096 := toI_ge c_13 rfl (by decide : (4096 : Int32).toInt = 4096)
      exact vx_throw0 (own := RX11) (cls := "java/lang/IllegalArgumentException") (names := ["java/lang/RuntimeException", "java/lang/Exception"]) (ik := 77) (ic := 79) (A := A) hx hb hst hown (by decide +kernel) (by decide +kernel) (hts _ hm_m_X11_tour_1_0) (hts _ hm_m_X11_tour_1_1) (vx_hat (B := ngX11_79) (fun w h => hts w (List.mem_cons_of_mem _ (List.mem_append_left _ (List.mem_append_left _ (List.mem_append_right _ h))))) (fun _ h => h) (fun w h => va_Nw.use (ngX11_79_ot w h) (hE.2.2.1.2.2.1 w h))) (by decide +kernel) hE.2.1.1 hE.2.1.2 hS (by rw [hml]; exact hl.1) dX11_tour_27 dX11_tour_30 dX11_tour_31 dX11_tour_34 (fun x hx9 => (htab x hx9).elim) (by decide +kernel) (Nat.le_of_ble_eq_true rfl) (by decide +kernel) (by decide +kernel) hlocks (fun t hvm hz hk => ⟨(fN_stop, iN_stops, fN_price, fN_rest), ⟨b_fN_stop, (b_iN_stops)⟩, ⟨⟨rfl, by first | omega | (have h8 := hbc (by omega) (by omega); omega)⟩, hP.kept (fun k q h => hk q.1 ((hP k q h).lt)), hD⟩, ⟨Nat.le_trans hS.1 hz, fun q h1 h2 => (hk q (Nat.lt_of_lt_of_le h1 hS.1)).trans (hS.2.1 q h1 h2)⟩⟩) hS.2.2 (by decide +kernel) (by decide +kernel)
    · have t_13 : ¬ p1.toInt ≥ 4096 := toI_nge c_13 rfl (by decide : (4096 : Int32).toInt = 4096)
      refine lv_iload_n hx hb dX11_tour_16 rfl (lv_at hl 0 rfl) ?_
      refine lv_iconst (v := 2) hx hb dX11_tour_17 (by decide) ?_
      refine lv_icmp_lt (tgt := 27) hx hb dX11_tour_18 (by decide) (fun c_18 => ?_) (fun c_18 => ?_)
      · have t_18 : r1.toInt < 2 := toI_lt c_18 rfl (by decide : (2 : Int32).toInt = 2)
        exact vx_throw0 (own := RX11) (cls := "java/lang/IllegalArgumentException") (names := ["java/lang/RuntimeException", "java/lang/Exception"]) (ik := 77) (ic := 79) (A := A) hx hb hst hown (by decide +kernel) (by decide +kernel) (hts _ hm_m_X11_tour_1_0) (hts _ hm_m_X11_tour_1_1) (vx_hat (B := ngX11_79) (fun w h => hts w (List.mem_cons_of_mem _ (List.mem_append_left _ (List.mem_append_left _ (List.mem_append_right _ h))))) (fun _ h => h) (fun w h => va_Nw.use (ngX11_79_ot w h) (hE.2.2.1.2.2.1 w h))) (by decide +kernel) hE.2.1.1 hE.2.1.2 hS (by rw [hml]; exact hl.1) dX11_tour_27 dX11_tour_30 dX11_tour_31 dX11_tour_34 (fun x hx9 => (htab x hx9).elim) (by decide +kernel) (Nat.le_of_ble_eq_true rfl) (by decide +kernel) (by decide +kernel) hlocks (fun t hvm hz hk => ⟨(fN_stop, iN_stops, fN_price, fN_rest), ⟨b_fN_stop, (b_iN_stops)⟩, ⟨⟨rfl, by first | omega | (have h8 := hbc (by omega) (by omega); omega)⟩, hP.kept (fun k q h => hk q.1 ((hP k q h).lt)), hD⟩, ⟨Nat.le_trans hS.1 hz, fun q h1 h2 => (hk q (Nat.lt_of_lt_of_le h1 hS.1)).trans (hS.2.1 q h1 h2)⟩⟩) hS.2.2 (by decide +kernel) (by decide +kernel)
      · have t_18 : ¬ r1.toInt < 2 := toI_nlt c_18 rfl (by decide : (2 : Int32).toInt = 2)
        refine lv_iload_n hx hb dX11_tour_21 rfl (lv_at hl 0 rfl) ?_
        refine lv_bipush (v := 8) hx hb dX11_tour_22 (by decide) ?_
        refine lv_icmp_le (tgt := 35) hx hb dX11_tour_24 (by decide) (fun c_24 => ?_) (fun c_24 => ?_)
        · have t_24 : r1.toInt ≤ 8 := toI_le c_24 rfl (by decide : (8 : Int32).toInt = 8)
          refine lv_aload_n hx hb dX11_tour_35 rfl (lv_at hl 1 rfl) ?_
          have hp1 : 1 ≤ p1.toInt := tuNz (by omega) (by have h8 := hbc (by omega) (by omega); omega)
          have hFc := allFree hD hS hA
          refine va_callr (va_runV (As := []) (rest := []) ⟨hx, hb, hml, hown, hts⟩ (m_X11_theNets_1 l dC dI hX aX kX hT hM fX_ready fX_sheet dX_sheet nX_sheet iX_sheetLength xX_reader xX_solver xX_prover xX_values xX_clauses hN aN kN iN_arcs fN_from fN_to fN_room fN_cost iN_reached fN_free fN_before fN_flow fN_length fN_stop iN_stops fN_price fN_rest b_fX_sheet (by first | exact b_nX_sheet | with_reducible assumption | exact ⟨by omega, by omega⟩ | assumption) (b_iX_sheetLength) (by first | with_reducible assumption | omega | assumption) (b_iN_arcs) b_fN_from b_fN_to b_fN_before b_fN_stop (b_iN_stops) H.size) (cwV 0 hts gwsMX11_tour_1_2 rfl rfl rfl hd_yX11_theNets_RX11 (by decide +kernel)) (fz_pre (va_recv hK hP (ci := 11) (q0 := 0) rfl rfl) hP hK hD) rfl rfl hl.1 rfl (lv_room (Nat.le_of_ble_eq_true rfl)) dX11_tour_36 (by decide +kernel)) hS (fun q _ h => hFc q h) hFc (fun u ra2 t9_ H locs ht hvm hw9 hB9 hz1 hk1 hS => ?_)
          revert hB9
          refine fz_a2 ?_
          intro hra hB9
          subst hra
          clear hw9
          have hP : va_P (dC, dI) vwCl (WX hX aX kX hT hM fX_ready fX_sheet dX_sheet nX_sheet iX_sheetLength xX_reader xX_solver xX_prover xX_values xX_clauses (.ref (hN 0)) ++ (WN hN aN kN iN_arcs fN_from fN_to fN_room fN_cost iN_reached fN_free fN_before fN_flow fN_length fN_stop iN_stops fN_price fN_rest)) H := fz_P ht hB9.1
          have hD := fz_sd hP (hB9.2.weaken (fun _ q _ h => hFc q.1 h)) rfl
          refine lv_iload_n hx hb dX11_tour_39 rfl (lv_at hl 2 rfl) ?_
          refine lv_iload_n hx hb dX11_tour_40 rfl (lv_at hl 3 rfl) ?_
          have p9 := cj_2_1 (WX hX aX kX hT hM fX_ready fX_sheet dX_sheet nX_sheet iX_sheetLength xX_reader xX_solver xX_prover xX_values xX_clauses (.ref (hN 0))) (WN hN aN kN iN_arcs fN_from fN_to fN_room fN_cost iN_reached fN_free fN_before fN_flow fN_length fN_stop iN_stops fN_price fN_rest)
          have hPc := hP.mem (fun q h => p9.mem_iff.mpr (List.mem_append_left _ h))
          have hDc := (hD.perm p9).left
          have hKc : va_K (dC, dI) vwCl (tN kN) _ := hK.sub [2, 3, 4, 5, 6, 7, 8, 9, 10, 11, 12] rfl
          have hFc := freeG p9 hD hS hA
          refine va_calli (va_runV (As := [.int p1, .int p2]) (rest := []) ⟨hx, hb, hml, hown, hts⟩ (m_X2_round l dC dI hN aN kN iN_arcs fN_from fN_to fN_room fN_cost iN_reached fN_free fN_before fN_flow fN_length fN_stop iN_stops fN_price fN_rest p1 p2 (b_iN_arcs) b_fN_from b_fN_to b_fN_before b_fN_stop (b_iN_stops) (by first | exact b_p1 | with_reducible assumption | exact ⟨by omega, by omega⟩ | assumption) (hVal) ((by have h8 := hbc (by omega) (by omega); omega)) H.size) (cwV 2 hts gwsMX11_tour_1_3 rfl rfl rfl hd_yX2_round_RX2 (by decide +kernel)) (fz_pre (va_recv hK hP (ci := 2) (q0 := 3) rfl rfl) hPc hKc hDc) rfl rfl hl.1 rfl (lv_room (Nat.le_of_ble_eq_true rfl)) dX11_tour_41 (by decide +kernel)) hS (fun q _ h => hFc q h) hFc (fun r3 u t9_ H locs ht hvm hw9 hB9 hz1 hk1 hS => ?_)
          revert u hw9 hB9
          refine fz_p4 ?_
          intro fN_stop_3 iN_stops_3 fN_price_3 fN_rest_3 hw9 hB9
          try dsimp only at hw9 hB9
          revert hw9
          refine fz_a3 ?_
          intro b_fN_stop_3 b_iN_stops_3 f3_0
          have p8 := cj_2_1 (WX hX aX kX hT hM fX_ready fX_sheet dX_sheet nX_sheet iX_sheetLength xX_reader xX_solver xX_prover xX_values xX_clauses (.ref (hN 0))) (WN hN aN kN iN_arcs fN_from fN_to fN_room fN_cost iN_reached fN_free fN_before fN_flow fN_length fN_stop_3 iN_stops_3 fN_price_3 fN_rest_3)
          obtain ⟨hP, hD⟩ := frameG p9 p8 hP hD hk1 hFc (fz_P ht hB9.1) hB9.2
          refine vx_ret ?_
          refine W.known (fun hz9 _ => ?_)
          refine W.widen (k := 1) (n := 6) (by decide +kernel) (by decide +kernel) ?_
          exact W.iret (v := r3) hx hb hr (fun t9_ ht hW => ⟨⟨r3, (fN_stop_3, iN_stops_3, fN_price_3, fN_rest_3), rfl, ⟨b_fN_stop_3, b_iN_stops_3, (by (try dsimp only); have h8 := hbc (by omega) (by omega); omega), (by (try dsimp only); assumption)⟩, by rw [ht]; exact hP, hD, by rw [ht]; first | done | exact Nat.le_antisymm hz9 hS.1⟩, hS.F ht⟩) hS.2.2 dX11_tour_44
        · have t_24 : ¬ r1.toInt ≤ 8 := toI_nle c_24 rfl (by decide : (8 : Int32).toInt = 8)
          exact vx_throw0 (own := RX11) (cls := "java/lang/IllegalArgumentException") (names := ["java/lang/RuntimeException", "java/lang/Exception"]) (ik := 77) (ic := 79) (A := A) hx hb hst hown (by decide +kernel) (by decide +kernel) (hts _ hm_m_X11_tour_1_0) (hts _ hm_m_X11_tour_1_1) (vx_hat (B := ngX11_79) (fun w h => hts w (List.mem_cons_of_mem _ (List.mem_append_left _ (List.mem_append_left _ (List.mem_append_right _ h))))) (fun _ h => h) (fun w h => va_Nw.use (ngX11_79_ot w h) (hE.2.2.1.2.2.1 w h))) (by decide +kernel) hE.2.1.1 hE.2.1.2 hS (by rw [hml]; exact hl.1) dX11_tour_27 dX11_tour_30 dX11_tour_31 dX11_tour_34 (fun x hx9 => (htab x hx9).elim) (by decide +kernel) (Nat.le_of_ble_eq_true rfl) (by decide +kernel) (by decide +kernel) hlocks (fun t hvm hz hk => ⟨(fN_stop, iN_stops, fN_price, fN_rest), ⟨b_fN_stop, (b_iN_stops)⟩, ⟨⟨rfl, by first | omega | (have h8 := hbc (by omega) (by omega); omega)⟩, hP.kept (fun k q h => hk q.1 ((hP k q h).lt)), hD⟩, ⟨Nat.le_trans hS.1 hz, fun q h1 h2 => (hk q (Nat.lt_of_lt_of_le h1 hS.1)).trans (hS.2.1 q h1 h2)⟩⟩) hS.2.2 (by decide +kernel) (by decide +kernel)
theorem dX11_theClauses_0 : decode cX11_theClauses 0 = .ok (.aload_n 0, 1) := dk_42 (by decide +kernel)
theorem dX11_theClauses_1 : decode cX11_theClauses 1 = .ok (.getfield 386, 3) := dk_180 (by decide +kernel)
theorem dX11_theClauses_4 : decode cX11_theClauses 4 = .ok (.ifnonnull 14, 3) := dk_199 (by decide +kernel)
theorem dX11_theClauses_18 : decode cX11_theClauses 18 = .ok (.aload_n 0, 1) := dk_42 (by decide +kernel)
theorem dX11_theClauses_19 : decode cX11_theClauses 19 = .ok (.getfield 386, 3) := dk_180 (by decide +kernel)
theorem dX11_theClauses_22 : decode cX11_theClauses 22 = .ok (.areturn, 1) := dk_176 (by decide +kernel)
def wsMX11_theClauses_1 : List Cond := .code yX11_theClauses cX11_theClauses 1 (some (.object "OptimaWorks$ClauseDesk")) :: ([.fieldLink RX11 386 "OptimaWorks" "clauses" "LOptimaWorks$ClauseDesk;"] ++ wsX110)
theorem iwsMX11_theClauses_1_in11 : ∀ w ∈ wsX110, w ∈ wsMX11_theClauses_1 := fun _ h => List.mem_cons_of_mem _ (List.mem_append_right _ h)
theorem gdwsMX11_theClauses_1 : wsMX11_theClauses_1.all goodWord = true := gdC rfl (gdA (by decide +kernel : ([.fieldLink RX11 386 "OptimaWorks" "clauses" "LOptimaWorks$ClauseDesk;"] : List Cond).all goodWord = true) gdwsX110)
theorem hm_m_X11_theClauses_1_0 : (.fieldLink RX11 386 "OptimaWorks" "clauses" "LOptimaWorks$ClauseDesk;" : Cond) ∈ wsMX11_theClauses_1 := by decide +kernel
set_option maxHeartbeats 4000000 in
set_option maxRecDepth 100000 in
/-- the desk of clauses stands -/
theorem m_X11_theClauses_1 (l : Launch) (dC : Nat → ClassId) (dI : Nat → Nat → Nat) (hX : Nat → Nat) (aX : Nat → Nat) (kX : Nat → ClassId) (hT : Nat → Nat) (hM : Nat → Nat) (fX_ready : Nat → Int32) (fX_sheet : Nat → Int32) (dX_sheet : Nat) (nX_sheet : Nat) (iX_sheetLength : Int32) (xX_reader : Value) (xX_solver : Value) (xX_prover : Value) (xX_values : Value) (xX_nets : Value) (hC : Nat → Nat) (aC : Nat → Nat) (kC : Nat → ClassId) (iC_clauses : Int32) (fC_wants : Nat → Int32) (fC_wantsNot : Nat → Int32) (fC_weight : Nat → Int32) (fC_broken : Nat → Int32) (fC_loss : Nat → Int32) (iC_musts : Int32) (b_fX_sheet : ∀ q : Nat, (-128) ≤ (fX_sheet q).toInt ∧ (fX_sheet q).toInt ≤ 127) (b_nX_sheet : 64 ≤ nX_sheet ∧ nX_sheet ≤ 60000) (b_iX_sheetLength : 0 ≤ iX_sheetLength.toInt ∧ iX_sheetLength.toInt ≤ 30000) (b_shl : iX_sheetLength.toInt ≤ ((nX_sheet : Nat) : Int)) (b_iC_clauses : 0 ≤ iC_clauses.toInt ∧ iC_clauses.toInt ≤ 24) (sz : Nat) : Met l yX11_theClauses wsMX11_theClauses_1 ({ frames := 0, cells := 0, slots := 0, locals := 0 }) (va_Pc [.ref (hX 0)] (fun U => U.heap.size = sz ∧ va_P (dC, dI) vwCl (WX hX aX kX hT hM fX_ready fX_sheet dX_sheet nX_sheet iX_sheetLength xX_reader xX_solver xX_prover xX_values (.ref (hC 0)) xX_nets ++ (WC hC aC kC iC_clauses fC_wants fC_wantsNot fC_weight fC_broken fC_loss iC_musts)) U.heap ∧ va_K (dC, dI) vwCl (tX kX ++ (tC kC)) U ∧ va_D (fun _ => True) (WX hX aX kX hT hM fX_ready fX_sheet dX_sheet nX_sheet iX_sheetLength xX_reader xX_solver xX_prover xX_values (.ref (hC 0)) xX_nets ++ (WC hC aC kC iC_clauses fC_wants fC_wantsNot fC_weight fC_broken fC_loss iC_musts)))) (va_Qr (fun (u : Unit) => True) (fun (u : Unit) ra t => ra = (hC 0) ∧ va_P (dC, dI) vwCl (WX hX aX kX hT hM fX_ready fX_sheet dX_sheet nX_sheet iX_sheetLength xX_reader xX_solver xX_prover xX_values (.ref (hC 0)) xX_nets ++ (WC hC aC kC iC_clauses fC_wants fC_wantsNot fC_weight fC_broken fC_loss iC_musts)) t.heap ∧ va_D (va_A (WX hX aX kX hT hM fX_ready fX_sheet dX_sheet nX_sheet iX_sheetLength xX_reader xX_solver xX_prover xX_values (.ref (hC 0)) xX_nets ++ (WC hC aC kC iC_clauses fC_wants fC_wantsNot fC_weight fC_broken fC_loss iC_musts)) sz) (WX hX aX kX hT hM fX_ready fX_sheet dX_sheet nX_sheet iX_sheetLength xX_reader xX_solver xX_prover xX_values (.ref (hC 0)) xX_nets ++ (WC hC aC kC iC_clauses fC_wants fC_wantsNot fC_weight fC_broken fC_loss iC_musts))) (va_A (WX hX aX kX hT hM fX_ready fX_sheet dX_sheet nX_sheet iX_sheetLength xX_reader xX_solver xX_prover xX_values (.ref (hC 0)) xX_nets ++ (WC hC aC kC iC_clauses fC_wants fC_wantsNot fC_weight fC_broken fC_loss iC_musts)) sz)) 0 0 (va_A (WX hX aX kX hT hM fX_ready fX_sheet dX_sheet nX_sheet iX_sheetLength xX_reader xX_solver xX_prover xX_values (.ref (hC 0)) xX_nets ++ (WC hC aC kC iC_clauses fC_wants fC_wantsNot fC_weight fC_broken fC_loss iC_musts)) sz) := by
  refine Met.ofW (cc := cX11_theClauses) (maxL := 1) (ret := (some (.object "OptimaWorks$ClauseDesk"))) (by decide) rfl ?_
  intro p e s m args below meth c s₁ B hml hv
  obtain ⟨rfl, hsz, hP, hK, hD0⟩ := hv
  have hx := B.exec
  have hb := B.bytes
  have hr := B.returns
  have hts := atoms_spec (ws := wsMX11_theClauses_1) B.pre
  have hown : s.vm.findClass RX11 = some m.cls := findClass_of_methodNamed B.named
  have hlocks := B.notSynchronized
  subst hsz
  have hD := hD0.self (sz := s.heap.size)
  generalize hAe : va_A (WX hX aX kX hT hM fX_ready fX_sheet dX_sheet nX_sheet iX_sheetLength xX_reader xX_solver xX_prover xX_values (.ref (hC 0)) xX_nets ++ (WC hC aC kC iC_clauses fC_wants fC_wantsNot fC_weight fC_broken fC_loss iC_musts)) s.heap.size = A at hD ⊢
  have hA : ∀ q : Nat, s.heap.size ≤ q → A q := fun q h => by rw [← hAe]; exact Or.inr h
  have hS : va_S A s.heap s.heap [] := va_S.rf
  have hl := lv_entry ([.ref (hX 0)]) (n := 1) (Nat.le_of_ble_eq_true rfl)
  rw [lg_entry_eq]
  generalize (lg_sl ([.ref (hX 0)]) ++ List.replicate (1 - (lg_sl ([.ref (hX 0)])).length) Slot.unset).toArray = ls at hl ⊢
  have hl : lv_has ls 1 [(0, .ref (hX 0))] := hl
  refine lv_aload_n hx hb dX11_theClauses_0 rfl (lv_at hl 0 rfl) ?_
  refine va_get (D := (dC, dI)) (ci := 11) (v := .ref (hC 0)) (C := RX11) (T := TX11) (N := 11) hx hb hts iwsMX11_theClauses_1_in11 hown hK hP 0 rfl rfl 9 (by decide) (hts _ hm_m_X11_theClauses_1_0) (fun _ h9 => h9) rfl dX11_theClauses_1 ?_
  refine lv_ifnonnull (tgt := 18) hx hb dX11_theClauses_4 (by decide) ?_
  refine lv_aload_n hx hb dX11_theClauses_18 rfl (lv_at hl 0 rfl) ?_
  refine va_get (D := (dC, dI)) (ci := 11) (v := .ref (hC 0)) (C := RX11) (T := TX11) (N := 11) hx hb hts iwsMX11_theClauses_1_in11 hown hK hP 0 rfl rfl 9 (by decide) (hts _ hm_m_X11_theClauses_1_0) (fun _ h9 => h9) rfl dX11_theClauses_19 ?_
  refine W.widen (k := 0) (n := 0) (by decide +kernel) (by decide +kernel) ?_
  exact W.aret hx hb hr (Or.inl ⟨_, rfl⟩) (Or.inr ⟨_, rfl⟩) (fun t9_ ht hW => ⟨⟨(), _, rfl, trivial, rfl, by rw [ht]; exact hP, hD⟩, hS.F ht⟩) hS.2.2 dX11_theClauses_22
theorem dX11_clause_0 : decode cX11_clause 0 = .ok (.iload_n 1, 1) := dk_27 (by decide +kernel)
theorem dX11_clause_1 : decode cX11_clause 1 = .ok (.ifCond .lt 25, 3) := dk_155 (by decide +kernel)
theorem dX11_clause_4 : decode cX11_clause 4 = .ok (.iload_n 1, 1) := dk_27 (by decide +kernel)
theorem dX11_clause_5 : decode cX11_clause 5 = .ok (.sipush 4096, 3) := dk_17 (by decide +kernel)
theorem dX11_clause_8 : decode cX11_clause 8 = .ok (.if_icmp .ge 18, 3) := dk_162 (by decide +kernel)
theorem dX11_clause_11 : decode cX11_clause 11 = .ok (.iload_n 2, 1) := dk_28 (by decide +kernel)
theorem dX11_clause_12 : decode cX11_clause 12 = .ok (.ifCond .lt 14, 3) := dk_155 (by decide +kernel)
theorem dX11_clause_15 : decode cX11_clause 15 = .ok (.iload_n 2, 1) := dk_28 (by decide +kernel)
theorem dX11_clause_16 : decode cX11_clause 16 = .ok (.sipush 4096, 3) := dk_17 (by decide +kernel)
theorem dX11_clause_19 : decode cX11_clause 19 = .ok (.if_icmp .ge 7, 3) := dk_162 (by decide +kernel)
theorem dX11_clause_22 : decode cX11_clause 22 = .ok (.iconst 1, 1) := dk_4 (by decide +kernel)
theorem dX11_clause_23 : decode cX11_clause 23 = .ok (.goto 4, 3) := dk_167 (by decide +kernel)
theorem dX11_clause_26 : decode cX11_clause 26 = .ok (.iconst 0, 1) := dk_3 (by decide +kernel)
theorem dX11_clause_27 : decode cX11_clause 27 = .ok (.istore 4, 2) := dk_54 (by decide +kernel)
theorem dX11_clause_29 : decode cX11_clause 29 = .ok (.iload 4, 2) := dk_21 (by decide +kernel)
theorem dX11_clause_31 : decode cX11_clause 31 = .ok (.ifCond .eq 26, 3) := dk_153 (by decide +kernel)
theorem dX11_clause_34 : decode cX11_clause 34 = .ok (.iload_n 1, 1) := dk_27 (by decide +kernel)
theorem dX11_clause_35 : decode cX11_clause 35 = .ok (.iload_n 2, 1) := dk_28 (by decide +kernel)
theorem dX11_clause_36 : decode cX11_clause 36 = .ok (.ior, 1) := dk_128 (by decide +kernel)
theorem dX11_clause_37 : decode cX11_clause 37 = .ok (.ifCond .eq 20, 3) := dk_153 (by decide +kernel)
theorem dX11_clause_40 : decode cX11_clause 40 = .ok (.iload_n 1, 1) := dk_27 (by decide +kernel)
theorem dX11_clause_41 : decode cX11_clause 41 = .ok (.iload_n 2, 1) := dk_28 (by decide +kernel)
theorem dX11_clause_42 : decode cX11_clause 42 = .ok (.iand, 1) := dk_126 (by decide +kernel)
theorem dX11_clause_43 : decode cX11_clause 43 = .ok (.ifCond .ne 14, 3) := dk_154 (by decide +kernel)
theorem dX11_clause_46 : decode cX11_clause 46 = .ok (.iload_n 3, 1) := dk_29 (by decide +kernel)
theorem dX11_clause_47 : decode cX11_clause 47 = .ok (.ifCond .lt 10, 3) := dk_155 (by decide +kernel)
theorem dX11_clause_50 : decode cX11_clause 50 = .ok (.iload_n 3, 1) := dk_29 (by decide +kernel)
theorem dX11_clause_51 : decode cX11_clause 51 = .ok (.sipush 1000, 3) := dk_17 (by decide +kernel)
theorem dX11_clause_54 : decode cX11_clause 54 = .ok (.if_icmp .le 11, 3) := dk_164 (by decide +kernel)
theorem dX11_clause_57 : decode cX11_clause 57 = .ok (.new 77, 3) := dk_187 (by decide +kernel)
theorem dX11_clause_60 : decode cX11_clause 60 = .ok (.dup, 1) := dk_89 (by decide +kernel)
theorem dX11_clause_61 : decode cX11_clause 61 = .ok (.invokespecial 79, 3) := dk_183 (by decide +kernel)
theorem dX11_clause_64 : decode cX11_clause 64 = .ok (.athrow, 1) := dk_191 (by decide +kernel)
theorem dX11_clause_65 : decode cX11_clause 65 = .ok (.aload_n 0, 1) := dk_42 (by decide +kernel)
theorem dX11_clause_66 : decode cX11_clause 66 = .ok (.invokevirtual 393, 3) := dk_182 (by decide +kernel)
theorem dX11_clause_69 : decode cX11_clause 69 = .ok (.getfield 397, 3) := dk_180 (by decide +kernel)
theorem dX11_clause_72 : decode cX11_clause 72 = .ok (.bipush 24, 2) := dk_16 (by decide +kernel)
theorem dX11_clause_74 : decode cX11_clause 74 = .ok (.if_icmp .lt 11, 3) := dk_161 (by decide +kernel)
theorem dX11_clause_77 : decode cX11_clause 77 = .ok (.new 159, 3) := dk_187 (by decide +kernel)
theorem dX11_clause_80 : decode cX11_clause 80 = .ok (.dup, 1) := dk_89 (by decide +kernel)
theorem dX11_clause_81 : decode cX11_clause 81 = .ok (.invokespecial 161, 3) := dk_183 (by decide +kernel)
theorem dX11_clause_84 : decode cX11_clause 84 = .ok (.athrow, 1) := dk_191 (by decide +kernel)
theorem dX11_clause_85 : decode cX11_clause 85 = .ok (.aload_n 0, 1) := dk_42 (by decide +kernel)
theorem dX11_clause_86 : decode cX11_clause 86 = .ok (.getfield 386, 3) := dk_180 (by decide +kernel)
theorem dX11_clause_89 : decode cX11_clause 89 = .ok (.iload_n 1, 1) := dk_27 (by decide +kernel)
theorem dX11_clause_90 : decode cX11_clause 90 = .ok (.iload_n 2, 1) := dk_28 (by decide +kernel)
theorem dX11_clause_91 : decode cX11_clause 91 = .ok (.iload_n 3, 1) := dk_29 (by decide +kernel)
theorem dX11_clause_92 : decode cX11_clause 92 = .ok (.invokevirtual 399, 3) := dk_182 (by decide +kernel)
theorem dX11_clause_95 : decode cX11_clause 95 = .ok (.ireturn, 1) := dk_172 (by decide +kernel)
def wsMX11_clause_1 : List Cond := .code yX11_clause cX11_clause 5 (some .int) :: ([.classLink RX11 77 "java/lang/IllegalArgumentException", .initialized "java/lang/IllegalArgumentException", .fieldLink RX11 397 "OptimaWorks$ClauseDesk" "clauses" "I", .fieldLink RX11 386 "OptimaWorks" "clauses" "LOptimaWorks$ClauseDesk;", .classLink RX11 159 "java/lang/IllegalStateException", .initialized "java/lang/IllegalStateException"] ++ wsX00 ++ wsX110 ++ ((vx_at0 RX11 79 "java/lang/IllegalArgumentException" ["java/lang/RuntimeException", "java/lang/Exception"]).filter goodWord) ++ (wsV RX11 393 RX11 yX11_theClauses wsMX11_theClauses_1) ++ (wsV RX11 399 RX0 yX0_addClause wsMX0_addClause) ++ ((vx_at0 RX11 161 "java/lang/IllegalStateException" ["java/lang/RuntimeException", "java/lang/Exception"]).filter goodWord))
theorem iwsMX11_clause_1_in0 : ∀ w ∈ wsX00, w ∈ wsMX11_clause_1 := fun _ h => List.mem_cons_of_mem _ (List.mem_append_left _ (List.mem_append_left _ (List.mem_append_left _ (List.mem_append_left _ (List.mem_append_left _ (List.mem_append_right _ h))))))
theorem iwsMX11_clause_1_in11 : ∀ w ∈ wsX110, w ∈ wsMX11_clause_1 := fun _ h => List.mem_cons_of_mem _ (List.mem_append_left _ (List.mem_append_left _ (List.mem_append_left _ (List.mem_append_left _ (List.mem_append_right _ h)))))
theorem gwsMX11_clause_1_1 : GoodIn wsMX11_clause_1 (wsV RX11 393 RX11 yX11_theClauses wsMX11_theClauses_1) := goodIn_sub (fun _ h => List.mem_cons_of_mem _ (List.mem_append_left _ (List.mem_append_left _ (List.mem_append_right _ h)))) (gdV (by decide +kernel) gdwsMX11_theClauses_1)
theorem gwsMX11_clause_1_2 : GoodIn wsMX11_clause_1 (wsV RX11 399 RX0 yX0_addClause wsMX0_addClause) := goodIn_sub (fun _ h => List.mem_cons_of_mem _ (List.mem_append_left _ (List.mem_append_right _ h))) (gdV (by decide +kernel) gdwsMX0_addClause)
theorem gdwsMX11_clause_1 : wsMX11_clause_1.all goodWord = true := gdC rfl (gdA (gdA (gdA (gdA (gdA (gdA (by decide +kernel : ([.classLink RX11 77 "java/lang/IllegalArgumentException", .initialized "java/lang/IllegalArgumentException", .fieldLink RX11 397 "OptimaWorks$ClauseDesk" "clauses" "I", .fieldLink RX11 386 "OptimaWorks" "clauses" "LOptimaWorks$ClauseDesk;", .classLink RX11 159 "java/lang/IllegalStateException", .initialized "java/lang/IllegalStateException"] : List Cond).all goodWord = true) gdwsX00) gdwsX110) (gdF _)) (gdV (by decide +kernel) gdwsMX11_theClauses_1)) (gdV (by decide +kernel) gdwsMX0_addClause)) (gdF _))
theorem hm_m_X11_clause_1_0 : (.classLink RX11 77 "java/lang/IllegalArgumentException" : Cond) ∈ wsMX11_clause_1 := by decide +kernel
theorem hm_m_X11_clause_1_1 : (.initialized "java/lang/IllegalArgumentException" : Cond) ∈ wsMX11_clause_1 := by decide +kernel
set_option maxHeartbeats 4000000 in
set_option maxRecDepth 100000 in
/-- a clause -/
theorem m_X11_clause_1 (l : Launch) (hst : l.stackTraces = false) (dC : Nat → ClassId) (dI : Nat → Nat → Nat) (hX : Nat → Nat) (aX : Nat → Nat) (kX : Nat → ClassId) (hT : Nat → Nat) (hM : Nat → Nat) (fX_ready : Nat → Int32) (fX_sheet : Nat → Int32) (dX_sheet : Nat) (nX_sheet : Nat) (iX_sheetLength : Int32) (xX_reader : Value) (xX_solver : Value) (xX_prover : Value) (xX_values : Value) (xX_nets : Value) (hC : Nat → Nat) (aC : Nat → Nat) (kC : Nat → ClassId) (iC_clauses : Int32) (fC_wants : Nat → Int32) (fC_wantsNot : Nat → Int32) (fC_weight : Nat → Int32) (fC_broken : Nat → Int32) (fC_loss : Nat → Int32) (iC_musts : Int32) (p1 : Int32) (p2 : Int32) (p3 : Int32) (b_fX_sheet : ∀ q : Nat, (-128) ≤ (fX_sheet q).toInt ∧ (fX_sheet q).toInt ≤ 127) (b_nX_sheet : 64 ≤ nX_sheet ∧ nX_sheet ≤ 60000) (b_iX_sheetLength : 0 ≤ iX_sheetLength.toInt ∧ iX_sheetLength.toInt ≤ 30000) (b_shl : iX_sheetLength.toInt ≤ ((nX_sheet : Nat) : Int)) (b_iC_clauses : 0 ≤ iC_clauses.toInt ∧ iC_clauses.toInt ≤ 24) (hCv : cVal (iC_clauses.toInt, fC_wants, fC_wantsNot, fC_weight)) (hCI : ClI (iC_clauses.toInt, fC_wants, fC_wantsNot, fC_weight) fC_broken fC_loss iC_musts) (sz : Nat) : vx_Met l yX11_clause wsMX11_clause_1 ({ frames := 6, cells := 1, slots := 6, locals := 81 }) (va_Pc [.ref (hX 0), .int p1, .int p2, .int p3] (fun U => U.heap.size = sz ∧ va_P (dC, dI) vwCl (WX hX aX kX hT hM fX_ready fX_sheet dX_sheet nX_sheet iX_sheetLength xX_reader xX_solver xX_prover xX_values (.ref (hC 0)) xX_nets ++ (WC hC aC kC iC_clauses fC_wants fC_wantsNot fC_weight fC_broken fC_loss iC_musts)) U.heap ∧ va_K (dC, dI) vwCl (tX kX ++ (tC kC)) U ∧ va_D (fun _ => True) (WX hX aX kX hT hM fX_ready fX_sheet dX_sheet nX_sheet iX_sheetLength xX_reader xX_solver xX_prover xX_values (.ref (hC 0)) xX_nets ++ (WC hC aC kC iC_clauses fC_wants fC_wantsNot fC_weight fC_broken fC_loss iC_musts)) ∧ CE (va_A (WX hX aX kX hT hM fX_ready fX_sheet dX_sheet nX_sheet iX_sheetLength xX_reader xX_solver xX_prover xX_values (.ref (hC 0)) xX_nets ++ (WC hC aC kC iC_clauses fC_wants fC_wantsNot fC_weight fC_broken fC_loss iC_musts)) sz) U U.heap)) (va_Qi (fun (r : Int32) (u : (Int32) × (Nat → Int32) × (Nat → Int32) × (Nat → Int32) × (Nat → Int32) × (Nat → Int32) × (Int32)) => (0 ≤ (u.1).toInt ∧ (u.1).toInt ≤ 24) ∧ ((u.1).toInt = iC_clauses.toInt + 1) ∧ (r.toInt = iC_clauses.toInt) ∧ ((u.2.1) = upd fC_wants iC_clauses.toInt.toNat p1) ∧ ((u.2.2.1) = upd fC_wantsNot iC_clauses.toInt.toNat p2) ∧ ((u.2.2.2.1) = upd fC_weight iC_clauses.toInt.toNat p3) ∧ ((0 ≤ p1.toInt ∧ p1.toInt ≤ 4095 ∧ 0 ≤ p2.toInt ∧ p2.toInt ≤ 4095 ∧ (p1 ||| p2).toInt ≠ 0 ∧ (p1 &&& p2).toInt = 0 ∧ 0 ≤ p3.toInt ∧ p3.toInt ≤ 1000) ∧ iC_clauses.toInt < 24) ∧ (ClI ((u.1).toInt, (u.2.1), (u.2.2.1), (u.2.2.2.1)) (u.2.2.2.2.1) (u.2.2.2.2.2.1) (u.2.2.2.2.2.2)) ∧ (cVal ((u.1).toInt, (u.2.1), (u.2.2.1), (u.2.2.2.1)))) (fun (u : (Int32) × (Nat → Int32) × (Nat → Int32) × (Nat → Int32) × (Nat → Int32) × (Nat → Int32) × (Int32)) t => va_P (dC, dI) vwCl (WX hX aX kX hT hM fX_ready fX_sheet dX_sheet nX_sheet iX_sheetLength xX_reader xX_solver xX_prover xX_values (.ref (hC 0)) xX_nets ++ (WC hC aC kC (u.1) (u.2.1) (u.2.2.1) (u.2.2.2.1) (u.2.2.2.2.1) (u.2.2.2.2.2.1) (u.2.2.2.2.2.2))) t.heap ∧ va_D (va_A (WX hX aX kX hT hM fX_ready fX_sheet dX_sheet nX_sheet iX_sheetLength xX_reader xX_solver xX_prover xX_values (.ref (hC 0)) xX_nets ++ (WC hC aC kC iC_clauses fC_wants fC_wantsNot fC_weight fC_broken fC_loss iC_musts)) sz) (WX hX aX kX hT hM fX_ready fX_sheet dX_sheet nX_sheet iX_sheetLength xX_reader xX_solver xX_prover xX_values (.ref (hC 0)) xX_nets ++ (WC hC aC kC (u.1) (u.2.1) (u.2.2.1) (u.2.2.2.1) (u.2.2.2.2.1) (u.2.2.2.2.2.1) (u.2.2.2.2.2.2))) ∧ t.heap.size = sz) (va_A (WX hX aX kX hT hM fX_ready fX_sheet dX_sheet nX_sheet iX_sheetLength xX_reader xX_solver xX_prover xX_values (.ref (hC 0)) xX_nets ++ (WC hC aC kC iC_clauses fC_wants fC_wantsNot fC_weight fC_broken fC_loss iC_musts)) sz)) (vx_X (fun (u : (Int32) × (Nat → Int32) × (Nat → Int32) × (Nat → Int32) × (Nat → Int32) × (Nat → Int32) × (Int32)) => (0 ≤ (u.1).toInt ∧ (u.1).toInt ≤ 24) ∧ ((u.1).toInt = iC_clauses.toInt ∧ (u.2.1) = fC_wants ∧ (u.2.2.1) = fC_wantsNot ∧ (u.2.2.2.1) = fC_weight) ∧ (ClI ((u.1).toInt, (u.2.1), (u.2.2.1), (u.2.2.2.1)) (u.2.2.2.2.1) (u.2.2.2.2.2.1) (u.2.2.2.2.2.2)) ∧ (cVal ((u.1).toInt, (u.2.1), (u.2.2.1), (u.2.2.2.1)))) (fun E (u : (Int32) × (Nat → Int32) × (Nat → Int32) × (Nat → Int32) × (Nat → Int32) × (Nat → Int32) × (Int32)) t => ((E = "java/lang/IllegalArgumentException" ∧ (¬ (0 ≤ p1.toInt ∧ p1.toInt ≤ 4095 ∧ 0 ≤ p2.toInt ∧ p2.toInt ≤ 4095 ∧ (p1 ||| p2).toInt ≠ 0 ∧ (p1 &&& p2).toInt = 0 ∧ 0 ≤ p3.toInt ∧ p3.toInt ≤ 1000))) ∨ (E = "java/lang/IllegalStateException" ∧ ((0 ≤ p1.toInt ∧ p1.toInt ≤ 4095 ∧ 0 ≤ p2.toInt ∧ p2.toInt ≤ 4095 ∧ (p1 ||| p2).toInt ≠ 0 ∧ (p1 &&& p2).toInt = 0 ∧ 0 ≤ p3.toInt ∧ p3.toInt ≤ 1000) ∧ iC_clauses.toInt = 24))) ∧ va_P (dC, dI) vwCl (WX hX aX kX hT hM fX_ready fX_sheet dX_sheet nX_sheet iX_sheetLength xX_reader xX_solver xX_prover xX_values (.ref (hC 0)) xX_nets ++ (WC hC aC kC (u.1) (u.2.1) (u.2.2.1) (u.2.2.2.1) (u.2.2.2.2.1) (u.2.2.2.2.2.1) (u.2.2.2.2.2.2))) t.heap ∧ va_D (va_A (WX hX aX kX hT hM fX_ready fX_sheet dX_sheet nX_sheet iX_sheetLength xX_reader xX_solver xX_prover xX_values (.ref (hC 0)) xX_nets ++ (WC hC aC kC iC_clauses fC_wants fC_wantsNot fC_weight fC_broken fC_loss iC_musts)) sz) (WX hX aX kX hT hM fX_ready fX_sheet dX_sheet nX_sheet iX_sheetLength xX_reader xX_solver xX_prover xX_values (.ref (hC 0)) xX_nets ++ (WC hC aC kC (u.1) (u.2.1) (u.2.2.1) (u.2.2.2.1) (u.2.2.2.2.1) (u.2.2.2.2.2.1) (u.2.2.2.2.2.2)))) (va_A (WX hX aX kX hT hM fX_ready fX_sheet dX_sheet nX_sheet iX_sheetLength xX_reader xX_solver xX_prover xX_values (.ref (hC 0)) xX_nets ++ (WC hC aC kC iC_clauses fC_wants fC_wantsNot fC_weight fC_broken fC_loss iC_musts)) sz)) 1 6 (va_A (WX hX aX kX hT hM fX_ready fX_sheet dX_sheet nX_sheet iX_sheetLength xX_reader xX_solver xX_prover xX_values (.ref (hC 0)) xX_nets ++ (WC hC aC kC iC_clauses fC_wants fC_wantsNot fC_weight fC_broken fC_loss iC_musts)) sz) := by
  refine vx_ofW (cc := cX11_clause) (maxL := 5) (ret := (some .int)) (by decide) rfl ?_
  intro p e s m args below meth c s₁ B hml htab hv
  obtain ⟨rfl, hsz, hP, hK, hD0, hE⟩ := hv
  have hx := B.exec
  have hb := B.bytes
  have hr := B.returns
  have hts := atoms_spec (ws := wsMX11_clause_1) B.pre
  have hown : s.vm.findClass RX11 = some m.cls := findClass_of_methodNamed B.named
  have hlocks := B.notSynchronized
  subst hsz
  have hD := hD0.self (sz := s.heap.size)
  generalize hAe : va_A (WX hX aX kX hT hM fX_ready fX_sheet dX_sheet nX_sheet iX_sheetLength xX_reader xX_solver xX_prover xX_values (.ref (hC 0)) xX_nets ++ (WC hC aC kC iC_clauses fC_wants fC_wantsNot fC_weight fC_broken fC_loss iC_musts)) s.heap.size = A at hD hE ⊢
  have hA : ∀ q : Nat, s.heap.size ≤ q → A q := fun q h => by rw [← hAe]; exact Or.inr h
  have hS : va_S A s.heap s.heap [] := va_S.rf
  have hl := lv_entry ([.ref (hX 0), .int p1, .int p2, .int p3]) (n := 5) (Nat.le_of_ble_eq_true rfl)
  rw [lg_entry_eq]
  generalize (lg_sl ([.ref (hX 0), .int p1, .int p2, .int p3]) ++ List.replicate (5 - (lg_sl ([.ref (hX 0), .int p1, .int p2, .int p3])).length) Slot.unset).toArray = ls at hl ⊢
  have hl : lv_has ls 5 [(0, .ref (hX 0)), (1, .int p1), (2, .int p2), (3, .int p3)] := hl
  refine lv_iload_n hx hb dX11_clause_0 rfl (lv_at hl 1 rfl) ?_
  refine W.cut (pc := 27) (fun H locs ls stk => ∃ (k0_j2 : Int32), (0 ≤ k0_j2.toInt ∧ k0_j2.toInt ≤ 1) ∧ ((k0_j2.toInt = 1 ∧ (0 ≤ p1.toInt ∧ p1.toInt ≤ 4095 ∧ 0 ≤ p2.toInt ∧ p2.toInt ≤ 4095)) ∨ (k0_j2.toInt = 0 ∧ ¬ (0 ≤ p1.toInt ∧ p1.toInt ≤ 4095 ∧ 0 ≤ p2.toInt ∧ p2.toInt ≤ 4095))) ∧  stk = [.int k0_j2] ∧ va_P (dC, dI) vwCl (WX hX aX kX hT hM fX_ready fX_sheet dX_sheet nX_sheet iX_sheetLength xX_reader xX_solver xX_prover xX_values (.ref (hC 0)) xX_nets ++ (WC hC aC kC iC_clauses fC_wants fC_wantsNot fC_weight fC_broken fC_loss iC_musts)) H ∧ va_D A (WX hX aX kX hT hM fX_ready fX_sheet dX_sheet nX_sheet iX_sheetLength xX_reader xX_solver xX_prover xX_values (.ref (hC 0)) xX_nets ++ (WC hC aC kC iC_clauses fC_wants fC_wantsNot fC_weight fC_broken fC_loss iC_musts)) ∧ va_S A s.heap H locs ∧ lv_has ls 5 [(0, .ref (hX 0)), (1, .int p1), (2, .int p2), (3, .int p3)]) (fun join2 => ?_) ?_
  · refine lv_if_lt (tgt := 26) hx hb dX11_clause_1 (by decide) (fun c_1 => ?_) (fun c_1 => ?_)
    · have t_1 : p1.toInt < 0 := toI_lt c_1 rfl (by decide : (0 : Int32).toInt = 0)
      refine lv_iconst (v := 0) hx hb dX11_clause_26 (by decide) ?_
      have hl : lv_has _ _ ([(0, .ref (hX 0)), (1, .int p1), (2, .int p2), (3, .int p3)]) := lv_sub hl [0, 1, 2, 3] rfl
      exact join2 _ _ _ _ ⟨0, (show 0 ≤ (0 : Int32).toInt ∧ (0 : Int32).toInt ≤ 1 from by decide), (show ((0 : Int32).toInt = 1 ∧ (0 ≤ p1.toInt ∧ p1.toInt ≤ 4095 ∧ 0 ≤ p2.toInt ∧ p2.toInt ≤ 4095)) ∨ ((0 : Int32).toInt = 0 ∧ ¬ (0 ≤ p1.toInt ∧ p1.toInt ≤ 4095 ∧ 0 ≤ p2.toInt ∧ p2.toInt ≤ 4095)) from by first | exact Or.inl ⟨by decide, by omega⟩ | exact Or.inr ⟨by decide, by omega⟩), rfl, hP, hD, hS, hl⟩
    · have t_1 : ¬ p1.toInt < 0 := toI_nlt c_1 rfl (by decide : (0 : Int32).toInt = 0)
      refine lv_iload_n hx hb dX11_clause_4 rfl (lv_at hl 1 rfl) ?_
      refine lv_sipush (v := 4096) hx hb dX11_clause_5 (by decide) ?_
      refine lv_icmp_ge (tgt := 26) hx hb dX11_clause_8 (by decide) (fun c_8 => ?_) (fun c_8 => ?_)
      · have t_8 : p1.toInt ≥ 4096 := toI_ge c_8 rfl (by decide : (4096 : Int32).toInt = 4096)
        refine lv_iconst (v := 0) hx hb dX11_clause_26 (by decide) ?_
        have hl : lv_has _ _ ([(0, .ref (hX 0)), (1, .int p1), (2, .int p2), (3, .int p3)]) := lv_sub hl [0, 1, 2, 3] rfl
        exact join2 _ _ _ _ ⟨0, (show 0 ≤ (0 : Int32).toInt ∧ (0 : Int32).toInt ≤ 1 from by decide), (show ((0 : Int32).toInt = 1 ∧ (0 ≤ p1.toInt ∧ p1.toInt ≤ 4095 ∧ 0 ≤ p2.toInt ∧ p2.toInt ≤ 4095)) ∨ ((0 : Int32).toInt = 0 ∧ ¬ (0 ≤ p1.toInt ∧ p1.toInt ≤ 4095 ∧ 0 ≤ p2.toInt ∧ p2.toInt ≤ 4095)) from by first | exact Or.inl ⟨by decide, by omega⟩ | exact Or.inr ⟨by decide, by omega⟩), rfl, hP, hD, hS, hl⟩
      · have t_8 : ¬ p1.toInt ≥ 4096 := toI_nge c_8 rfl (by decide : (4096 : Int32).toInt = 4096)
        refine lv_iload_n hx hb dX11_clause_11 rfl (lv_at hl 2 rfl) ?_
        refine lv_if_lt (tgt := 26) hx hb dX11_clause_12 (by decide) (fun c_12 => ?_) (fun c_12 => ?_)
        · have t_12 : p2.toInt < 0 := toI_lt c_12 rfl (by decide : (0 : Int32).toInt = 0)
          refine lv_iconst (v := 0) hx hb dX11_clause_26 (by decide) ?_
          have hl : lv_has _ _ ([(0, .ref (hX 0)), (1, .int p1), (2, .int p2), (3, .int p3)]) := lv_sub hl [0, 1, 2, 3] rfl
          exact join2 _ _ _ _ ⟨0, (show 0 ≤ (0 : Int32).toInt ∧ (0 : Int32).toInt ≤ 1 from by decide), (show ((0 : Int32).toInt = 1 ∧ (0 ≤ p1.toInt ∧ p1.toInt ≤ 4095 ∧ 0 ≤ p2.toInt ∧ p2.toInt ≤ 4095)) ∨ ((0 : Int32).toInt = 0 ∧ ¬ (0 ≤ p1.toInt ∧ p1.toInt ≤ 4095 ∧ 0 ≤ p2.toInt ∧ p2.toInt ≤ 4095)) from by first | exact Or.inl ⟨by decide, by omega⟩ | exact Or.inr ⟨by decide, by omega⟩), rfl, hP, hD, hS, hl⟩
        · have t_12 : ¬ p2.toInt < 0 := toI_nlt c_12 rfl (by decide : (0 : Int32).toInt = 0)
          refine lv_iload_n hx hb dX11_clause_15 rfl (lv_at hl 2 rfl) ?_
          refine lv_sipush (v := 4096) hx hb dX11_clause_16 (by decide) ?_
          refine lv_icmp_ge (tgt := 26) hx hb dX11_clause_19 (by decide) (fun c_19 => ?_) (fun c_19 => ?_)
          · have t_19 : p2.toInt ≥ 4096 := toI_ge c_19 rfl (by decide : (4096 : Int32).toInt = 4096)
            refine lv_iconst (v := 0) hx hb dX11_clause_26 (by decide) ?_
            have hl : lv_has _ _ ([(0, .ref (hX 0)), (1, .int p1), (2, .int p2), (3, .int p3)]) := lv_sub hl [0, 1, 2, 3] rfl
            exact join2 _ _ _ _ ⟨0, (show 0 ≤ (0 : Int32).toInt ∧ (0 : Int32).toInt ≤ 1 from by decide), (show ((0 : Int32).toInt = 1 ∧ (0 ≤ p1.toInt ∧ p1.toInt ≤ 4095 ∧ 0 ≤ p2.toInt ∧ p2.toInt ≤ 4095)) ∨ ((0 : Int32).toInt = 0 ∧ ¬ (0 ≤ p1.toInt ∧ p1.toInt ≤ 4095 ∧ 0 ≤ p2.toInt ∧ p2.toInt ≤ 4095)) from by first | exact Or.inl ⟨by decide, by omega⟩ | exact Or.inr ⟨by decide, by omega⟩), rfl, hP, hD, hS, hl⟩
          · have t_19 : ¬ p2.toInt ≥ 4096 := toI_nge c_19 rfl (by decide : (4096 : Int32).toInt = 4096)
            refine lv_iconst (v := 1) hx hb dX11_clause_22 (by decide) ?_
            refine lv_goto (tgt := 27) hx hb dX11_clause_23 (by decide) ?_
            have hl : lv_has _ _ ([(0, .ref (hX 0)), (1, .int p1), (2, .int p2), (3, .int p3)]) := lv_sub hl [0, 1, 2, 3] rfl
            exact join2 _ _ _ _ ⟨1, (show 0 ≤ (1 : Int32).toInt ∧ (1 : Int32).toInt ≤ 1 from by decide), (show ((1 : Int32).toInt = 1 ∧ (0 ≤ p1.toInt ∧ p1.toInt ≤ 4095 ∧ 0 ≤ p2.toInt ∧ p2.toInt ≤ 4095)) ∨ ((1 : Int32).toInt = 0 ∧ ¬ (0 ≤ p1.toInt ∧ p1.toInt ≤ 4095 ∧ 0 ≤ p2.toInt ∧ p2.toInt ≤ 4095)) from by first | exact Or.inl ⟨by decide, by omega⟩ | exact Or.inr ⟨by decide, by omega⟩), rfl, hP, hD, hS, hl⟩
  · rintro H locs ls stk ⟨k0_j2, b_k0_j2, hsg, rfl, hP, hD, hS, hl⟩
    refine lv_istore hx hb dX11_clause_27 hl (by decide) rfl (fun ls (hl : lv_has ls _ ([(4, .int k0_j2), (0, .ref (hX 0)), (1, .int p1), (2, .int p2), (3, .int p3)])) => ?_)
    refine lv_iload hx hb dX11_clause_29 (lv_at hl 0 rfl) ?_
    refine lv_if_eq (tgt := 57) hx hb dX11_clause_31 (by decide) (fun c_31 => ?_) (fun c_31 => ?_)
    · have t_31 : k0_j2.toInt = 0 := toI_eq c_31 rfl (by decide : (0 : Int32).toInt = 0)
      exact vx_throw0 (own := RX11) (cls := "java/lang/IllegalArgumentException") (names := ["java/lang/RuntimeException", "java/lang/Exception"]) (ik := 77) (ic := 79) (A := A) hx hb hst hown (by decide +kernel) (by decide +kernel) (hts _ hm_m_X11_clause_1_0) (hts _ hm_m_X11_clause_1_1) (vx_hat (B := ngX11_79) (fun w h => hts w (List.mem_cons_of_mem _ (List.mem_append_left _ (List.mem_append_left _ (List.mem_append_left _ (List.mem_append_right _ h)))))) (fun _ h => h) (fun w h => va_Nw.use (ngX11_79_ot w h) (hE.2.2.1.2.2.1 w h))) (by decide +kernel) hE.2.1.1 hE.2.1.2 hS (by rw [hml]; exact hl.1) dX11_clause_57 dX11_clause_60 dX11_clause_61 dX11_clause_64 (fun x hx9 => (htab x hx9).elim) (by decide +kernel) (Nat.le_of_ble_eq_true rfl) (by decide +kernel) (by decide +kernel) hlocks (fun t hvm hz hk => ⟨(iC_clauses, fC_wants, fC_wantsNot, fC_weight, fC_broken, fC_loss, iC_musts), ⟨(b_iC_clauses), (by first | exact ⟨rfl, rfl, rfl, rfl⟩ | ((try dsimp only); exact ⟨rfl, rfl, rfl, rfl⟩)), (by first | exact by assumption | ((try dsimp only); exact by assumption)), (by first | exact by assumption | ((try dsimp only); exact by assumption))⟩, ⟨Or.inl ⟨rfl, by omega⟩, hP.kept (fun k q h => hk q.1 ((hP k q h).lt)), hD⟩, ⟨Nat.le_trans hS.1 hz, fun q h1 h2 => (hk q (Nat.lt_of_lt_of_le h1 hS.1)).trans (hS.2.1 q h1 h2)⟩⟩) hS.2.2 (by decide +kernel) (by decide +kernel)
    · have t_31 : ¬ k0_j2.toInt = 0 := toI_neq c_31 rfl (by decide : (0 : Int32).toInt = 0)
      refine lv_iload_n hx hb dX11_clause_34 rfl (lv_at hl 2 rfl) ?_
      refine lv_iload_n hx hb dX11_clause_35 rfl (lv_at hl 3 rfl) ?_
      refine lv_ior hx hb dX11_clause_36 ?_
      refine lv_topi (fun v1 hv1 => ?_)
      have b_v1 : v1.toInt ≤ (p1 ||| p2).toInt ∧ (p1 ||| p2).toInt ≤ v1.toInt := by rw [hv1]; exact ⟨Int.le_refl _, Int.le_refl _⟩
      clear hv1
      refine lv_if_eq (tgt := 57) hx hb dX11_clause_37 (by decide) (fun c_37 => ?_) (fun c_37 => ?_)
      · have t_37 : v1.toInt = 0 := toI_eq c_37 rfl (by decide : (0 : Int32).toInt = 0)
        exact vx_throw0 (own := RX11) (cls := "java/lang/IllegalArgumentException") (names := ["java/lang/RuntimeException", "java/lang/Exception"]) (ik := 77) (ic := 79) (A := A) hx hb hst hown (by decide +kernel) (by decide +kernel) (hts _ hm_m_X11_clause_1_0) (hts _ hm_m_X11_clause_1_1) (vx_hat (B := ngX11_79) (fun w h => hts w (List.mem_cons_of_mem _ (List.mem_append_left _ (List.mem_append_left _ (List.mem_append_left _ (List.mem_append_right _ h)))))) (fun _ h => h) (fun w h => va_Nw.use (ngX11_79_ot w h) (hE.2.2.1.2.2.1 w h))) (by decide +kernel) hE.2.1.1 hE.2.1.2 hS (by rw [hml]; exact hl.1) dX11_clause_57 dX11_clause_60 dX11_clause_61 dX11_clause_64 (fun x hx9 => (htab x hx9).elim) (by decide +kernel) (Nat.le_of_ble_eq_true rfl) (by decide +kernel) (by decide +kernel) hlocks (fun t hvm hz hk => ⟨(iC_clauses, fC_wants, fC_wantsNot, fC_weight, fC_broken, fC_loss, iC_musts), ⟨(b_iC_clauses), (by first | exact ⟨rfl, rfl, rfl, rfl⟩ | ((try dsimp only); exact ⟨rfl, rfl, rfl, rfl⟩)), (by first | exact by assumption | ((try dsimp only); exact by assumption)), (by first | exact by assumption | ((try dsimp only); exact by assumption))⟩, ⟨Or.inl ⟨rfl, by omega⟩, hP.kept (fun k q h => hk q.1 ((hP k q h).lt)), hD⟩, ⟨Nat.le_trans hS.1 hz, fun q h1 h2 => (hk q (Nat.lt_of_lt_of_le h1 hS.1)).trans (hS.2.1 q h1 h2)⟩⟩) hS.2.2 (by decide +kernel) (by decide +kernel)
      · have t_37 : ¬ v1.toInt = 0 := toI_neq c_37 rfl (by decide : (0 : Int32).toInt = 0)
        refine lv_iload_n hx hb dX11_clause_40 rfl (lv_at hl 2 rfl) ?_
        refine lv_iload_n hx hb dX11_clause_41 rfl (lv_at hl 3 rfl) ?_
        refine lv_iand hx hb dX11_clause_42 ?_
        refine lv_topi (fun v2 hv2 => ?_)
        have b_v2 : v2.toInt ≤ (p1 &&& p2).toInt ∧ (p1 &&& p2).toInt ≤ v2.toInt := by rw [hv2]; exact ⟨Int.le_refl _, Int.le_refl _⟩
        clear hv2
        refine lv_if_ne (tgt := 57) hx hb dX11_clause_43 (by decide) (fun c_43 => ?_) (fun c_43 => ?_)
        · have t_43 : v2.toInt ≠ 0 := toI_ne c_43 rfl (by decide : (0 : Int32).toInt = 0)
          exact vx_throw0 (own := RX11) (cls := "java/lang/IllegalArgumentException") (names := ["java/lang/RuntimeException", "java/lang/Exception"]) (ik := 77) (ic := 79) (A := A) hx hb hst hown (by decide +kernel) (by decide +kernel) (hts _ hm_m_X11_clause_1_0) (hts _ hm_m_X11_clause_1_1) (vx_hat (B := ngX11_79) (fun w h => hts w (List.mem_cons_of_mem _ (List.mem_append_left _ (List.mem_append_left _ (List.mem_append_left _ (List.mem_append_right _ h)))))) (fun _ h => h) (fun w h => va_Nw.use (ngX11_79_ot w h) (hE.2.2.1.2.2.1 w h))) (by decide +kernel) hE.2.1.1 hE.2.1.2 hS (by rw [hml]; exact hl.1) dX11_clause_57 dX11_clause_60 dX11_clause_61 dX11_clause_64 (fun x hx9 => (htab x hx9).elim) (by decide +kernel) (Nat.le_of_ble_eq_true rfl) (by decide +kernel) (by decide +kernel) hlocks (fun t hvm hz hk => ⟨(iC_clauses, fC_wants, fC_wantsNot, fC_weight, fC_broken, fC_loss, iC_musts), ⟨(b_iC_clauses), (by first | exact ⟨rfl, rfl, rfl, rfl⟩ | ((try dsimp only); exact ⟨rfl, rfl, rfl, rfl⟩)), (by first | exact by assumption | ((try dsimp only); exact by assumption)), (by first | exact by assumption | ((try dsimp only); exact by assumption))⟩, ⟨Or.inl ⟨rfl, by omega⟩, hP.kept (fun k q h => hk q.1 ((hP k q h).lt)), hD⟩, ⟨Nat.le_trans hS.1 hz, fun q h1 h2 => (hk q (Nat.lt_of_lt_of_le h1 hS.1)).trans (hS.2.1 q h1 h2)⟩⟩) hS.2.2 (by decide +kernel) (by decide +kernel)
        · have t_43 : v2.toInt = 0 := toI_nne c_43 rfl (by decide : (0 : Int32).toInt = 0)
          refine lv_iload_n hx hb dX11_clause_46 rfl (lv_at hl 4 rfl) ?_
          refine lv_if_lt (tgt := 57) hx hb dX11_clause_47 (by decide) (fun c_47 => ?_) (fun c_47 => ?_)
          · have t_47 : p3.toInt < 0 := toI_lt c_47 rfl (by decide : (0 : Int32).toInt = 0)
            exact vx_throw0 (own := RX11) (cls := "java/lang/IllegalArgumentException") (names := ["java/lang/RuntimeException", "java/lang/Exception"]) (ik := 77) (ic := 79) (A := A) hx hb hst hown (by decide +kernel) (by decide +kernel) (hts _ hm_m_X11_clause_1_0) (hts _ hm_m_X11_clause_1_1) (vx_hat (B := ngX11_79) (fun w h => hts w (List.mem_cons_of_mem _ (List.mem_append_left _ (List.mem_append_left _ (List.mem_append_left _ (List.mem_append_right _ h)))))) (fun _ h => h) (fun w h => va_Nw.use (ngX11_79_ot w h) (hE.2.2.1.2.2.1 w h))) (by decide +kernel) hE.2.1.1 hE.2.1.2 hS (by rw [hml]; exact hl.1) dX11_clause_57 dX11_clause_60 dX11_clause_61 dX11_clause_64 (fun x hx9 => (htab x hx9).elim) (by decide +kernel) (Nat.le_of_ble_eq_true rfl) (by decide +kernel) (by decide +kernel) hlocks (fun t hvm hz hk => ⟨(iC_clauses, fC_wants, fC_wantsNot, fC_weight, fC_broken, fC_loss, iC_musts), ⟨(b_iC_clauses), (by first | exact ⟨rfl, rfl, rfl, rfl⟩ | ((try dsimp only); exact ⟨rfl, rfl, rfl, rfl⟩)), (by first | exact by assumption | ((try dsimp only); exact by assumption)), (by first | exact by assumption | ((try dsimp only); exact by assumption))⟩, ⟨Or.inl ⟨rfl, by omega⟩, hP.kept (fun k q h => hk q.1 ((hP k q h).lt)), hD⟩, ⟨Nat.le_trans hS.1 hz, fun q h1 h2 => (hk q (Nat.lt_of_lt_of_le h1 hS.1)).trans (hS.2.1 q h1 h2)⟩⟩) hS.2.2 (by decide +kernel) (by decide +kernel)
          · have t_47 : ¬ p3.toInt < 0 := toI_nlt c_47 rfl (by decide : (0 : Int32).toInt = 0)
            refine lv_iload_n hx hb dX11_clause_50 rfl (lv_at hl 4 rfl) ?_
            refine lv_sipush (v := 1000) hx hb dX11_clause_51 (by decide) ?_
            refine lv_icmp_le (tgt := 65) hx hb dX11_clause_54 (by decide) (fun c_54 => ?_) (fun c_54 => ?_)
            · have t_54 : p3.toInt ≤ 1000 := toI_le c_54 rfl (by decide : (1000 : Int32).toInt = 1000)
              refine lv_aload_n hx hb dX11_clause_65 rfl (lv_at hl 1 rfl) ?_
              have hFc := allFree hD hS hA
              refine va_callr (va_runV (As := []) (rest := []) ⟨hx, hb, hml, hown, hts⟩ (m_X11_theClauses_1 l dC dI hX aX kX hT hM fX_ready fX_sheet dX_sheet nX_sheet iX_sheetLength xX_reader xX_solver xX_prover xX_values xX_nets hC aC kC iC_clauses fC_wants fC_wantsNot fC_weight fC_broken fC_loss iC_musts b_fX_sheet (by first | exact b_nX_sheet | with_reducible assumption | exact ⟨by omega, by omega⟩ | assumption) (b_iX_sheetLength) (by first | with_reducible assumption | omega | assumption) (b_iC_clauses) H.size) (cwV 0 hts gwsMX11_clause_1_1 rfl rfl rfl hd_yX11_theClauses_RX11 (by decide +kernel)) (fz_pre (va_recv hK hP (ci := 11) (q0 := 0) rfl rfl) hP hK hD) rfl rfl hl.1 rfl (lv_room (Nat.le_of_ble_eq_true rfl)) dX11_clause_66 (by decide +kernel)) hS (fun q _ h => hFc q h) hFc (fun u ra3 t9_ H locs ht hvm hw9 hB9 hz1 hk1 hS => ?_)
              revert hB9
              refine fz_a2 ?_
              intro hra hB9
              subst hra
              clear hw9
              have hP : va_P (dC, dI) vwCl (WX hX aX kX hT hM fX_ready fX_sheet dX_sheet nX_sheet iX_sheetLength xX_reader xX_solver xX_prover xX_values (.ref (hC 0)) xX_nets ++ (WC hC aC kC iC_clauses fC_wants fC_wantsNot fC_weight fC_broken fC_loss iC_musts)) H := fz_P ht hB9.1
              have hD := fz_sd hP (hB9.2.weaken (fun _ q _ h => hFc q.1 h)) rfl
              refine va_get (D := (dC, dI)) (ci := 0) (v := .int iC_clauses) (C := RX0) (T := TX0) (N := 7) hx hb hts iwsMX11_clause_1_in0 hown hK hP 3 rfl rfl 0 (by decide) (hts (.fieldLink RX11 397 "OptimaWorks$ClauseDesk" "clauses" "I") (by decide +kernel)) (fun _ h9 => h9) rfl dX11_clause_69 ?_
              refine lv_bipush (v := 24) hx hb dX11_clause_72 (by decide) ?_
              refine lv_icmp_lt (tgt := 85) hx hb dX11_clause_74 (by decide) (fun c_74 => ?_) (fun c_74 => ?_)
              · have t_74 : iC_clauses.toInt < 24 := toI_lt c_74 rfl (by decide : (24 : Int32).toInt = 24)
                refine lv_aload_n hx hb dX11_clause_85 rfl (lv_at hl 1 rfl) ?_
                refine va_get (D := (dC, dI)) (ci := 11) (v := .ref (hC 0)) (C := RX11) (T := TX11) (N := 11) hx hb hts iwsMX11_clause_1_in11 hown hK hP 0 rfl rfl 9 (by decide) (hts (.fieldLink RX11 386 "OptimaWorks" "clauses" "LOptimaWorks$ClauseDesk;") (by decide +kernel)) (fun _ h9 => h9) rfl dX11_clause_86 ?_
                refine lv_iload_n hx hb dX11_clause_89 rfl (lv_at hl 2 rfl) ?_
                refine lv_iload_n hx hb dX11_clause_90 rfl (lv_at hl 3 rfl) ?_
                refine lv_iload_n hx hb dX11_clause_91 rfl (lv_at hl 4 rfl) ?_
                have p9 := cj_2_1 (WX hX aX kX hT hM fX_ready fX_sheet dX_sheet nX_sheet iX_sheetLength xX_reader xX_solver xX_prover xX_values (.ref (hC 0)) xX_nets) (WC hC aC kC iC_clauses fC_wants fC_wantsNot fC_weight fC_broken fC_loss iC_musts)
                have hPc := hP.mem (fun q h => p9.mem_iff.mpr (List.mem_append_left _ h))
                have hDc := (hD.perm p9).left
                have hKc : va_K (dC, dI) vwCl (tC kC) _ := hK.sub [2, 3, 4, 5, 6] rfl
                have hFc := freeG p9 hD hS hA
                refine va_calli (va_runV (As := [.int p1, .int p2, .int p3]) (rest := []) ⟨hx, hb, hml, hown, hts⟩ (m_X0_addClause l dC dI hC aC kC iC_clauses fC_wants fC_wantsNot fC_weight fC_broken fC_loss iC_musts p1 p2 p3 (b_iC_clauses) (by first | exact b_p3 | with_reducible assumption | exact ⟨by omega, by omega⟩ | assumption) (by first | with_reducible assumption | omega | (rw [iI_t (by omega) (by omega)]; omega) | decide | assumption) (hCv) (hCI) H.size) (cwV 3 hts gwsMX11_clause_1_2 rfl rfl rfl hd_yX0_addClause_RX0 (by decide +kernel)) (fz_pre (va_recv hK hP (ci := 0) (q0 := 3) rfl rfl) hPc hKc hDc) rfl rfl hl.1 rfl (lv_room (Nat.le_of_ble_eq_true rfl)) dX11_clause_92 (by decide +kernel)) hS (fun q _ h => hFc q h) hFc (fun r4 u t9_ H locs ht hvm hw9 hB9 hz1 hk1 hS => ?_)
                revert u hw9 hB9
                refine fz_p7 ?_
                intro iC_clauses_4 fC_wants_4 fC_wantsNot_4 fC_weight_4 fC_broken_4 fC_loss_4 iC_musts_4 hw9 hB9
                try dsimp only at hw9 hB9
                revert hw9
                refine fz_a8 ?_
                intro b_iC_clauses_4 f4_0 f4_1 f4_2 f4_3 f4_4 f4_5 f4_6
                have p8 := cj_2_1 (WX hX aX kX hT hM fX_ready fX_sheet dX_sheet nX_sheet iX_sheetLength xX_reader xX_solver xX_prover xX_values (.ref (hC 0)) xX_nets) (WC hC aC kC iC_clauses_4 fC_wants_4 fC_wantsNot_4 fC_weight_4 fC_broken_4 fC_loss_4 iC_musts_4)
                obtain ⟨hP, hD⟩ := frameG p9 p8 hP hD hk1 hFc (fz_P ht hB9.1) hB9.2
                refine vx_ret ?_
                refine W.known (fun hz9 _ => ?_)
                refine W.widen (k := 1) (n := 6) (by decide +kernel) (by decide +kernel) ?_
                exact W.iret (v := r4) hx hb hr (fun t9_ ht hW => ⟨⟨r4, (iC_clauses_4, fC_wants_4, fC_wantsNot_4, fC_weight_4, fC_broken_4, fC_loss_4, iC_musts_4), rfl, ⟨b_iC_clauses_4, (by (try dsimp only); first | assumption | omega), (by (try dsimp only); first | assumption | omega), (by (try dsimp only); assumption), (by (try dsimp only); assumption), (by (try dsimp only); assumption), (by (try dsimp only); omega), (by (try dsimp only); assumption), (by (try dsimp only); assumption)⟩, by rw [ht]; exact hP, hD, by rw [ht]; first | done | exact Nat.le_antisymm hz9 hS.1⟩, hS.F ht⟩) hS.2.2 dX11_clause_95
              · have t_74 : ¬ iC_clauses.toInt < 24 := toI_nlt c_74 rfl (by decide : (24 : Int32).toInt = 24)
                exact vx_throw0 (own := RX11) (cls := "java/lang/IllegalStateException") (names := ["java/lang/RuntimeException", "java/lang/Exception"]) (ik := 159) (ic := 161) (A := A) hx hb hst hown (by decide +kernel) (by decide +kernel) (hts (.classLink RX11 159 "java/lang/IllegalStateException") (by decide +kernel)) (hts (.initialized "java/lang/IllegalStateException") (by decide +kernel)) (vx_hat (B := ngX11_161) (fun w h => hts w (List.mem_cons_of_mem _ (List.mem_append_right _ h))) (fun _ h => h) (fun w h => va_Nw.use (ngX11_161_ot w h) (hE.2.2.1.2.1 w h))) (by decide +kernel) hE.2.1.1 hE.2.1.2 hS (by rw [hml]; exact hl.1) dX11_clause_77 dX11_clause_80 dX11_clause_81 dX11_clause_84 (fun x hx9 => (htab x hx9).elim) (by decide +kernel) (Nat.le_of_ble_eq_true rfl) (by decide +kernel) (by decide +kernel) hlocks (fun t hvm hz hk => ⟨(iC_clauses, fC_wants, fC_wantsNot, fC_weight, fC_broken, fC_loss, iC_musts), ⟨(b_iC_clauses), (by first | exact ⟨rfl, rfl, rfl, rfl⟩ | ((try dsimp only); exact ⟨rfl, rfl, rfl, rfl⟩)), (by first | exact by assumption | ((try dsimp only); exact by assumption)), (by first | exact by assumption | ((try dsimp only); exact by assumption))⟩, ⟨Or.inr (⟨rfl, by omega⟩), hP.kept (fun k q h => hk q.1 ((hP k q h).lt)), hD⟩, ⟨Nat.le_trans hS.1 hz, fun q h1 h2 => (hk q (Nat.lt_of_lt_of_le h1 hS.1)).trans (hS.2.1 q h1 h2)⟩⟩) hS.2.2 (by decide +kernel) (by decide +kernel)
            · have t_54 : ¬ p3.toInt ≤ 1000 := toI_nle c_54 rfl (by decide : (1000 : Int32).toInt = 1000)
              exact vx_throw0 (own := RX11) (cls := "java/lang/IllegalArgumentException") (names := ["java/lang/RuntimeException", "java/lang/Exception"]) (ik := 77) (ic := 79) (A := A) hx hb hst hown (by decide +kernel) (by decide +kernel) (hts _ hm_m_X11_clause_1_0) (hts _ hm_m_X11_clause_1_1) (vx_hat (B := ngX11_79) (fun w h => hts w (List.mem_cons_of_mem _ (List.mem_append_left _ (List.mem_append_left _ (List.mem_append_left _ (List.mem_append_right _ h)))))) (fun _ h => h) (fun w h => va_Nw.use (ngX11_79_ot w h) (hE.2.2.1.2.2.1 w h))) (by decide +kernel) hE.2.1.1 hE.2.1.2 hS (by rw [hml]; exact hl.1) dX11_clause_57 dX11_clause_60 dX11_clause_61 dX11_clause_64 (fun x hx9 => (htab x hx9).elim) (by decide +kernel) (Nat.le_of_ble_eq_true rfl) (by decide +kernel) (by decide +kernel) hlocks (fun t hvm hz hk => ⟨(iC_clauses, fC_wants, fC_wantsNot, fC_weight, fC_broken, fC_loss, iC_musts), ⟨(b_iC_clauses), (by first | exact ⟨rfl, rfl, rfl, rfl⟩ | ((try dsimp only); exact ⟨rfl, rfl, rfl, rfl⟩)), (by first | exact by assumption | ((try dsimp only); exact by assumption)), (by first | exact by assumption | ((try dsimp only); exact by assumption))⟩, ⟨Or.inl ⟨rfl, by omega⟩, hP.kept (fun k q h => hk q.1 ((hP k q h).lt)), hD⟩, ⟨Nat.le_trans hS.1 hz, fun q h1 h2 => (hk q (Nat.lt_of_lt_of_le h1 hS.1)).trans (hS.2.1 q h1 h2)⟩⟩) hS.2.2 (by decide +kernel) (by decide +kernel)
theorem dX11_unsay_0 : decode cX11_unsay 0 = .ok (.aload_n 0, 1) := dk_42 (by decide +kernel)
theorem dX11_unsay_1 : decode cX11_unsay 1 = .ok (.invokevirtual 393, 3) := dk_182 (by decide +kernel)
theorem dX11_unsay_4 : decode cX11_unsay 4 = .ok (.invokevirtual 402, 3) := dk_182 (by decide +kernel)
theorem dX11_unsay_7 : decode cX11_unsay 7 = .ok (.ireturn, 1) := dk_172 (by decide +kernel)
def wsMX11_unsay_1 : List Cond := .code yX11_unsay cX11_unsay 1 (some .boolean) :: ([] ++ (wsV RX11 393 RX11 yX11_theClauses wsMX11_theClauses_1) ++ (wsV RX11 402 RX0 yX0_dropClause wsMX0_dropClause))
theorem gwsMX11_unsay_1_0 : GoodIn wsMX11_unsay_1 (wsV RX11 393 RX11 yX11_theClauses wsMX11_theClauses_1) := goodIn_sub (fun _ h => List.mem_cons_of_mem _ (List.mem_append_left _ (List.mem_append_right _ h))) (gdV (by decide +kernel) gdwsMX11_theClauses_1)
theorem gwsMX11_unsay_1_1 : GoodIn wsMX11_unsay_1 (wsV RX11 402 RX0 yX0_dropClause wsMX0_dropClause) := goodIn_sub (fun _ h => List.mem_cons_of_mem _ (List.mem_append_right _ h)) (gdV (by decide +kernel) gdwsMX0_dropClause)
theorem gdwsMX11_unsay_1 : wsMX11_unsay_1.all goodWord = true := gdC rfl (gdA (gdA (by decide +kernel : ([] : List Cond).all goodWord = true) (gdV (by decide +kernel) gdwsMX11_theClauses_1)) (gdV (by decide +kernel) gdwsMX0_dropClause))
set_option maxHeartbeats 4000000 in
set_option maxRecDepth 100000 in
/-- a clause less -/
theorem m_X11_unsay_1 (l : Launch) (dC : Nat → ClassId) (dI : Nat → Nat → Nat) (hX : Nat → Nat) (aX : Nat → Nat) (kX : Nat → ClassId) (hT : Nat → Nat) (hM : Nat → Nat) (fX_ready : Nat → Int32) (fX_sheet : Nat → Int32) (dX_sheet : Nat) (nX_sheet : Nat) (iX_sheetLength : Int32) (xX_reader : Value) (xX_solver : Value) (xX_prover : Value) (xX_values : Value) (xX_nets : Value) (hC : Nat → Nat) (aC : Nat → Nat) (kC : Nat → ClassId) (iC_clauses : Int32) (fC_wants : Nat → Int32) (fC_wantsNot : Nat → Int32) (fC_weight : Nat → Int32) (fC_broken : Nat → Int32) (fC_loss : Nat → Int32) (iC_musts : Int32) (b_fX_sheet : ∀ q : Nat, (-128) ≤ (fX_sheet q).toInt ∧ (fX_sheet q).toInt ≤ 127) (b_nX_sheet : 64 ≤ nX_sheet ∧ nX_sheet ≤ 60000) (b_iX_sheetLength : 0 ≤ iX_sheetLength.toInt ∧ iX_sheetLength.toInt ≤ 30000) (b_shl : iX_sheetLength.toInt ≤ ((nX_sheet : Nat) : Int)) (b_iC_clauses : 0 ≤ iC_clauses.toInt ∧ iC_clauses.toInt ≤ 24) (hCv : cVal (iC_clauses.toInt, fC_wants, fC_wantsNot, fC_weight)) (hCI : ClI (iC_clauses.toInt, fC_wants, fC_wantsNot, fC_weight) fC_broken fC_loss iC_musts) (sz : Nat) : Met l yX11_unsay wsMX11_unsay_1 ({ frames := 2, cells := 0, slots := 0, locals := 43 }) (va_Pc [.ref (hX 0)] (fun U => U.heap.size = sz ∧ va_P (dC, dI) vwCl (WX hX aX kX hT hM fX_ready fX_sheet dX_sheet nX_sheet iX_sheetLength xX_reader xX_solver xX_prover xX_values (.ref (hC 0)) xX_nets ++ (WC hC aC kC iC_clauses fC_wants fC_wantsNot fC_weight fC_broken fC_loss iC_musts)) U.heap ∧ va_K (dC, dI) vwCl (tX kX ++ (tC kC)) U ∧ va_D (fun _ => True) (WX hX aX kX hT hM fX_ready fX_sheet dX_sheet nX_sheet iX_sheetLength xX_reader xX_solver xX_prover xX_values (.ref (hC 0)) xX_nets ++ (WC hC aC kC iC_clauses fC_wants fC_wantsNot fC_weight fC_broken fC_loss iC_musts)))) (va_Qi (fun (r : Int32) (u : (Int32) × (Nat → Int32) × (Nat → Int32) × (Int32)) => (0 ≤ (u.1).toInt ∧ (u.1).toInt ≤ 24) ∧ (0 ≤ r.toInt ∧ r.toInt ≤ 1) ∧ ((iC_clauses.toInt = 0 ∧ r.toInt = 0 ∧ (u.1).toInt = 0) ∨ (0 < iC_clauses.toInt ∧ r.toInt = 1 ∧ (u.1).toInt = iC_clauses.toInt - 1)) ∧ (ClI ((u.1).toInt, fC_wants, fC_wantsNot, fC_weight) (u.2.1) (u.2.2.1) (u.2.2.2)) ∧ (cVal ((u.1).toInt, fC_wants, fC_wantsNot, fC_weight))) (fun (u : (Int32) × (Nat → Int32) × (Nat → Int32) × (Int32)) t => va_P (dC, dI) vwCl (WX hX aX kX hT hM fX_ready fX_sheet dX_sheet nX_sheet iX_sheetLength xX_reader xX_solver xX_prover xX_values (.ref (hC 0)) xX_nets ++ (WC hC aC kC (u.1) fC_wants fC_wantsNot fC_weight (u.2.1) (u.2.2.1) (u.2.2.2))) t.heap ∧ va_D (va_A (WX hX aX kX hT hM fX_ready fX_sheet dX_sheet nX_sheet iX_sheetLength xX_reader xX_solver xX_prover xX_values (.ref (hC 0)) xX_nets ++ (WC hC aC kC iC_clauses fC_wants fC_wantsNot fC_weight fC_broken fC_loss iC_musts)) sz) (WX hX aX kX hT hM fX_ready fX_sheet dX_sheet nX_sheet iX_sheetLength xX_reader xX_solver xX_prover xX_values (.ref (hC 0)) xX_nets ++ (WC hC aC kC (u.1) fC_wants fC_wantsNot fC_weight (u.2.1) (u.2.2.1) (u.2.2.2)))) (va_A (WX hX aX kX hT hM fX_ready fX_sheet dX_sheet nX_sheet iX_sheetLength xX_reader xX_solver xX_prover xX_values (.ref (hC 0)) xX_nets ++ (WC hC aC kC iC_clauses fC_wants fC_wantsNot fC_weight fC_broken fC_loss iC_musts)) sz)) 0 0 (va_A (WX hX aX kX hT hM fX_ready fX_sheet dX_sheet nX_sheet iX_sheetLength xX_reader xX_solver xX_prover xX_values (.ref (hC 0)) xX_nets ++ (WC hC aC kC iC_clauses fC_wants fC_wantsNot fC_weight fC_broken fC_loss iC_musts)) sz) := by
  refine Met.ofW (cc := cX11_unsay) (maxL := 1) (ret := (some .boolean)) (by decide) rfl ?_
  intro p e s m args below meth c s₁ B hml hv
  obtain ⟨rfl, hsz, hP, hK, hD0⟩ := hv
  have hx := B.exec
  have hb := B.bytes
  have hr := B.returns
  have hts := atoms_spec (ws := wsMX11_unsay_1) B.pre
  have hown : s.vm.findClass RX11 = some m.cls := findClass_of_methodNamed B.named
  have hlocks := B.notSynchronized
  subst hsz
  have hD := hD0.self (sz := s.heap.size)
  generalize hAe : va_A (WX hX aX kX hT hM fX_ready fX_sheet dX_sheet nX_sheet iX_sheetLength xX_reader xX_solver xX_prover xX_values (.ref (hC 0)) xX_nets ++ (WC hC aC kC iC_clauses fC_wants fC_wantsNot fC_weight fC_broken fC_loss iC_musts)) s.heap.size = A at hD ⊢
  have hA : ∀ q : Nat, s.heap.size ≤ q → A q := fun q h => by rw [← hAe]; exact Or.inr h
  have hS : va_S A s.heap s.heap [] := va_S.rf
  have hl := lv_entry ([.ref (hX 0)]) (n := 1) (Nat.le_of_ble_eq_true rfl)
  rw [lg_entry_eq]
  generalize (lg_sl ([.ref (hX 0)]) ++ List.replicate (1 - (lg_sl ([.ref (hX 0)])).length) Slot.unset).toArray = ls at hl ⊢
  have hl : lv_has ls 1 [(0, .ref (hX 0))] := hl
  refine lv_aload_n hx hb dX11_unsay_0 rfl (lv_at hl 0 rfl) ?_
  have hFc := allFree hD hS hA
  refine va_callr (va_runV (As := []) (rest := []) ⟨hx, hb, hml, hown, hts⟩ (m_X11_theClauses_1 l dC dI hX aX kX hT hM fX_ready fX_sheet dX_sheet nX_sheet iX_sheetLength xX_reader xX_solver xX_prover xX_values xX_nets hC aC kC iC_clauses fC_wants fC_wantsNot fC_weight fC_broken fC_loss iC_musts b_fX_sheet (by first | exact b_nX_sheet | with_reducible assumption | exact ⟨by omega, by omega⟩ | assumption) (b_iX_sheetLength) (by first | with_reducible assumption | omega | assumption) (b_iC_clauses) s.heap.size) (cwV 0 hts gwsMX11_unsay_1_0 rfl rfl rfl hd_yX11_theClauses_RX11 (by decide +kernel)) (fz_pre (va_recv hK hP (ci := 11) (q0 := 0) rfl rfl) hP hK hD) rfl rfl hl.1 rfl (lv_room (Nat.le_of_ble_eq_true rfl)) dX11_unsay_1 (by decide +kernel)) hS (fun q _ h => hFc q h) hFc (fun u ra1 t9_ H locs ht hvm hw9 hB9 hz1 hk1 hS => ?_)
  revert hB9
  refine fz_a2 ?_
  intro hra hB9
  subst hra
  clear hw9
  have hP : va_P (dC, dI) vwCl (WX hX aX kX hT hM fX_ready fX_sheet dX_sheet nX_sheet iX_sheetLength xX_reader xX_solver xX_prover xX_values (.ref (hC 0)) xX_nets ++ (WC hC aC kC iC_clauses fC_wants fC_wantsNot fC_weight fC_broken fC_loss iC_musts)) H := fz_P ht hB9.1
  have hD := fz_sd hP (hB9.2.weaken (fun _ q _ h => hFc q.1 h)) rfl
  have p9 := cj_2_1 (WX hX aX kX hT hM fX_ready fX_sheet dX_sheet nX_sheet iX_sheetLength xX_reader xX_solver xX_prover xX_values (.ref (hC 0)) xX_nets) (WC hC aC kC iC_clauses fC_wants fC_wantsNot fC_weight fC_broken fC_loss iC_musts)
  have hPc := hP.mem (fun q h => p9.mem_iff.mpr (List.mem_append_left _ h))
  have hDc := (hD.perm p9).left
  have hKc : va_K (dC, dI) vwCl (tC kC) _ := hK.sub [2, 3, 4, 5, 6] rfl
  have hFc := freeG p9 hD hS hA
  refine va_calli (va_runV (As := []) (rest := []) ⟨hx, hb, hml, hown, hts⟩ (m_X0_dropClause l dC dI hC aC kC iC_clauses fC_wants fC_wantsNot fC_weight fC_broken fC_loss iC_musts (b_iC_clauses) (hCv) (hCI) H.size) (cwV 0 hts gwsMX11_unsay_1_1 rfl rfl rfl hd_yX0_dropClause_RX0 (by decide +kernel)) (fz_pre (va_recv hK hP (ci := 0) (q0 := 3) rfl rfl) hPc hKc hDc) rfl rfl hl.1 rfl (lv_room (Nat.le_of_ble_eq_true rfl)) dX11_unsay_4 (by decide +kernel)) hS (fun q _ h => hFc q h) hFc (fun r2 u t9_ H locs ht hvm hw9 hB9 hz1 hk1 hS => ?_)
  revert u hw9 hB9
  refine fz_p4 ?_
  intro iC_clauses_2 fC_broken_2 fC_loss_2 iC_musts_2 hw9 hB9
  try dsimp only at hw9 hB9
  revert hw9
  refine fz_a5 ?_
  intro b_iC_clauses_2 b_r2 f2_0 f2_1 f2_2
  have p8 := cj_2_1 (WX hX aX kX hT hM fX_ready fX_sheet dX_sheet nX_sheet iX_sheetLength xX_reader xX_solver xX_prover xX_values (.ref (hC 0)) xX_nets) (WC hC aC kC iC_clauses_2 fC_wants fC_wantsNot fC_weight fC_broken_2 fC_loss_2 iC_musts_2)
  obtain ⟨hP, hD⟩ := frameG p9 p8 hP hD hk1 hFc (fz_P ht hB9.1) hB9.2
  refine W.widen (k := 0) (n := 0) (by decide +kernel) (by decide +kernel) ?_
  exact W.zret (v := r2) hx hb hr (by rcases z01 (x := r2) (by first | exact b_r2 | with_reducible assumption | exact ⟨by omega, by omega⟩ | assumption) with h9 | h9 <;> rw [h9] <;> rfl) (fun t9_ ht hW => ⟨⟨r2, (iC_clauses_2, fC_broken_2, fC_loss_2, iC_musts_2), rfl, ⟨b_iC_clauses_2, (by first | exact b_r2 | with_reducible assumption | exact ⟨by omega, by omega⟩ | assumption), (by (try dsimp only); assumption), (by (try dsimp only); assumption), (by (try dsimp only); assumption)⟩, by rw [ht]; exact hP, hD⟩, hS.F ht⟩) hS.2.2 dX11_unsay_7
theorem dX11_truth_0 : decode cX11_truth 0 = .ok (.iload_n 1, 1) := dk_27 (by decide +kernel)
theorem dX11_truth_1 : decode cX11_truth 1 = .ok (.tableswitch 77 0 4 #[35, 44, 53, 61, 69], 35) := by decide +kernel
theorem dX11_truth_36 : decode cX11_truth 36 = .ok (.aload_n 0, 1) := dk_42 (by decide +kernel)
theorem dX11_truth_37 : decode cX11_truth 37 = .ok (.invokevirtual 393, 3) := dk_182 (by decide +kernel)
theorem dX11_truth_40 : decode cX11_truth 40 = .ok (.iconst 1, 1) := dk_4 (by decide +kernel)
theorem dX11_truth_41 : decode cX11_truth 41 = .ok (.invokevirtual 405, 3) := dk_182 (by decide +kernel)
theorem dX11_truth_44 : decode cX11_truth 44 = .ok (.ireturn, 1) := dk_172 (by decide +kernel)
theorem dX11_truth_45 : decode cX11_truth 45 = .ok (.aload_n 0, 1) := dk_42 (by decide +kernel)
theorem dX11_truth_46 : decode cX11_truth 46 = .ok (.invokevirtual 393, 3) := dk_182 (by decide +kernel)
theorem dX11_truth_49 : decode cX11_truth 49 = .ok (.iconst 0, 1) := dk_3 (by decide +kernel)
theorem dX11_truth_50 : decode cX11_truth 50 = .ok (.invokevirtual 405, 3) := dk_182 (by decide +kernel)
theorem dX11_truth_53 : decode cX11_truth 53 = .ok (.ireturn, 1) := dk_172 (by decide +kernel)
theorem dX11_truth_54 : decode cX11_truth 54 = .ok (.aload_n 0, 1) := dk_42 (by decide +kernel)
theorem dX11_truth_55 : decode cX11_truth 55 = .ok (.invokevirtual 393, 3) := dk_182 (by decide +kernel)
theorem dX11_truth_58 : decode cX11_truth 58 = .ok (.invokevirtual 409, 3) := dk_182 (by decide +kernel)
theorem dX11_truth_61 : decode cX11_truth 61 = .ok (.ireturn, 1) := dk_172 (by decide +kernel)
theorem dX11_truth_62 : decode cX11_truth 62 = .ok (.aload_n 0, 1) := dk_42 (by decide +kernel)
theorem dX11_truth_63 : decode cX11_truth 63 = .ok (.invokevirtual 393, 3) := dk_182 (by decide +kernel)
theorem dX11_truth_66 : decode cX11_truth 66 = .ok (.invokevirtual 412, 3) := dk_182 (by decide +kernel)
theorem dX11_truth_69 : decode cX11_truth 69 = .ok (.ireturn, 1) := dk_172 (by decide +kernel)
theorem dX11_truth_70 : decode cX11_truth 70 = .ok (.aload_n 0, 1) := dk_42 (by decide +kernel)
theorem dX11_truth_71 : decode cX11_truth 71 = .ok (.invokevirtual 393, 3) := dk_182 (by decide +kernel)
theorem dX11_truth_74 : decode cX11_truth 74 = .ok (.getfield 397, 3) := dk_180 (by decide +kernel)
theorem dX11_truth_77 : decode cX11_truth 77 = .ok (.ireturn, 1) := dk_172 (by decide +kernel)
theorem dX11_truth_78 : decode cX11_truth 78 = .ok (.iconst (-1), 1) := dk_2 (by decide +kernel)
theorem dX11_truth_79 : decode cX11_truth 79 = .ok (.ireturn, 1) := dk_172 (by decide +kernel)
def wsMX11_truth_1 : List Cond := .code yX11_truth cX11_truth 2 (some .int) :: ([.fieldLink RX11 397 "OptimaWorks$ClauseDesk" "clauses" "I"] ++ wsX00 ++ (wsV RX11 393 RX11 yX11_theClauses wsMX11_theClauses_1) ++ (wsV RX11 405 RX0 yX0_least wsMX0_least) ++ (wsV RX11 409 RX0 yX0_models wsMX0_models) ++ (wsV RX11 412 RX0 yX0_core wsMX0_core))
theorem iwsMX11_truth_1_in0 : ∀ w ∈ wsX00, w ∈ wsMX11_truth_1 := fun _ h => List.mem_cons_of_mem _ (List.mem_append_left _ (List.mem_append_left _ (List.mem_append_left _ (List.mem_append_left _ (List.mem_append_right _ h)))))
theorem gwsMX11_truth_1_0 : GoodIn wsMX11_truth_1 (wsV RX11 393 RX11 yX11_theClauses wsMX11_theClauses_1) := goodIn_sub (fun _ h => List.mem_cons_of_mem _ (List.mem_append_left _ (List.mem_append_left _ (List.mem_append_left _ (List.mem_append_right _ h))))) (gdV (by decide +kernel) gdwsMX11_theClauses_1)
theorem gwsMX11_truth_1_1 : GoodIn wsMX11_truth_1 (wsV RX11 405 RX0 yX0_least wsMX0_least) := goodIn_sub (fun _ h => List.mem_cons_of_mem _ (List.mem_append_left _ (List.mem_append_left _ (List.mem_append_right _ h)))) (gdV (by decide +kernel) gdwsMX0_least)
theorem gwsMX11_truth_1_2 : GoodIn wsMX11_truth_1 (wsV RX11 409 RX0 yX0_models wsMX0_models) := goodIn_sub (fun _ h => List.mem_cons_of_mem _ (List.mem_append_left _ (List.mem_append_right _ h))) (gdV (by decide +kernel) gdwsMX0_models)
theorem gwsMX11_truth_1_3 : GoodIn wsMX11_truth_1 (wsV RX11 412 RX0 yX0_core wsMX0_core) := goodIn_sub (fun _ h => List.mem_cons_of_mem _ (List.mem_append_right _ h)) (gdV (by decide +kernel) gdwsMX0_core)
theorem gdwsMX11_truth_1 : wsMX11_truth_1.all goodWord = true := gdC rfl (gdA (gdA (gdA (gdA (gdA (by decide +kernel : ([.fieldLink RX11 397 "OptimaWorks$ClauseDesk" "clauses" "I"] : List Cond).all goodWord = true) gdwsX00) (gdV (by decide +kernel) gdwsMX11_theClauses_1)) (gdV (by decide +kernel) gdwsMX0_least)) (gdV (by decide +kernel) gdwsMX0_models)) (gdV (by decide +kernel) gdwsMX0_core))
set_option maxHeartbeats 4000000 in
set_option maxRecDepth 100000 in
/-- truths -/
theorem m_X11_truth_1 (l : Launch) (dC : Nat → ClassId) (dI : Nat → Nat → Nat) (hX : Nat → Nat) (aX : Nat → Nat) (kX : Nat → ClassId) (hT : Nat → Nat) (hM : Nat → Nat) (fX_ready : Nat → Int32) (fX_sheet : Nat → Int32) (dX_sheet : Nat) (nX_sheet : Nat) (iX_sheetLength : Int32) (xX_reader : Value) (xX_solver : Value) (xX_prover : Value) (xX_values : Value) (xX_nets : Value) (hC : Nat → Nat) (aC : Nat → Nat) (kC : Nat → ClassId) (iC_clauses : Int32) (fC_wants : Nat → Int32) (fC_wantsNot : Nat → Int32) (fC_weight : Nat → Int32) (fC_broken : Nat → Int32) (fC_loss : Nat → Int32) (iC_musts : Int32) (p1 : Int32) (b_fX_sheet : ∀ q : Nat, (-128) ≤ (fX_sheet q).toInt ∧ (fX_sheet q).toInt ≤ 127) (b_nX_sheet : 64 ≤ nX_sheet ∧ nX_sheet ≤ 60000) (b_iX_sheetLength : 0 ≤ iX_sheetLength.toInt ∧ iX_sheetLength.toInt ≤ 30000) (b_shl : iX_sheetLength.toInt ≤ ((nX_sheet : Nat) : Int)) (b_iC_clauses : 0 ≤ iC_clauses.toInt ∧ iC_clauses.toInt ≤ 24) (hCv : cVal (iC_clauses.toInt, fC_wants, fC_wantsNot, fC_weight)) (hCI : ClI (iC_clauses.toInt, fC_wants, fC_wantsNot, fC_weight) fC_broken fC_loss iC_musts) (sz : Nat) : Met l yX11_truth wsMX11_truth_1 ({ frames := 2, cells := 0, slots := 0, locals := 45 }) (va_Pc [.ref (hX 0), .int p1] (fun U => U.heap.size = sz ∧ va_P (dC, dI) vwCl (WX hX aX kX hT hM fX_ready fX_sheet dX_sheet nX_sheet iX_sheetLength xX_reader xX_solver xX_prover xX_values (.ref (hC 0)) xX_nets ++ (WC hC aC kC iC_clauses fC_wants fC_wantsNot fC_weight fC_broken fC_loss iC_musts)) U.heap ∧ va_K (dC, dI) vwCl (tX kX ++ (tC kC)) U ∧ va_D (fun _ => True) (WX hX aX kX hT hM fX_ready fX_sheet dX_sheet nX_sheet iX_sheetLength xX_reader xX_solver xX_prover xX_values (.ref (hC 0)) xX_nets ++ (WC hC aC kC iC_clauses fC_wants fC_wantsNot fC_weight fC_broken fC_loss iC_musts)))) (va_Qi (fun (r : Int32) (u : Unit) => (cTru (iC_clauses.toInt, fC_wants, fC_wantsNot, fC_weight) p1.toInt r)) (fun (u : Unit) t => va_P (dC, dI) vwCl (WX hX aX kX hT hM fX_ready fX_sheet dX_sheet nX_sheet iX_sheetLength xX_reader xX_solver xX_prover xX_values (.ref (hC 0)) xX_nets ++ (WC hC aC kC iC_clauses fC_wants fC_wantsNot fC_weight fC_broken fC_loss iC_musts)) t.heap ∧ va_D (va_A (WX hX aX kX hT hM fX_ready fX_sheet dX_sheet nX_sheet iX_sheetLength xX_reader xX_solver xX_prover xX_values (.ref (hC 0)) xX_nets ++ (WC hC aC kC iC_clauses fC_wants fC_wantsNot fC_weight fC_broken fC_loss iC_musts)) sz) (WX hX aX kX hT hM fX_ready fX_sheet dX_sheet nX_sheet iX_sheetLength xX_reader xX_solver xX_prover xX_values (.ref (hC 0)) xX_nets ++ (WC hC aC kC iC_clauses fC_wants fC_wantsNot fC_weight fC_broken fC_loss iC_musts))) (va_A (WX hX aX kX hT hM fX_ready fX_sheet dX_sheet nX_sheet iX_sheetLength xX_reader xX_solver xX_prover xX_values (.ref (hC 0)) xX_nets ++ (WC hC aC kC iC_clauses fC_wants fC_wantsNot fC_weight fC_broken fC_loss iC_musts)) sz)) 0 0 (va_A (WX hX aX kX hT hM fX_ready fX_sheet dX_sheet nX_sheet iX_sheetLength xX_reader xX_solver xX_prover xX_values (.ref (hC 0)) xX_nets ++ (WC hC aC kC iC_clauses fC_wants fC_wantsNot fC_weight fC_broken fC_loss iC_musts)) sz) := by
  refine Met.ofW (cc := cX11_truth) (maxL := 2) (ret := (some .int)) (by decide) rfl ?_
  intro p e s m args below meth c s₁ B hml hv
  obtain ⟨rfl, hsz, hP, hK, hD0⟩ := hv
  have hx := B.exec
  have hb := B.bytes
  have hr := B.returns
  have hts := atoms_spec (ws := wsMX11_truth_1) B.pre
  have hown : s.vm.findClass RX11 = some m.cls := findClass_of_methodNamed B.named
  have hlocks := B.notSynchronized
  subst hsz
  have hD := hD0.self (sz := s.heap.size)
  generalize hAe : va_A (WX hX aX kX hT hM fX_ready fX_sheet dX_sheet nX_sheet iX_sheetLength xX_reader xX_solver xX_prover xX_values (.ref (hC 0)) xX_nets ++ (WC hC aC kC iC_clauses fC_wants fC_wantsNot fC_weight fC_broken fC_loss iC_musts)) s.heap.size = A at hD ⊢
  have hA : ∀ q : Nat, s.heap.size ≤ q → A q := fun q h => by rw [← hAe]; exact Or.inr h
  have hS : va_S A s.heap s.heap [] := va_S.rf
  have hl := lv_entry ([.ref (hX 0), .int p1]) (n := 2) (Nat.le_of_ble_eq_true rfl)
  rw [lg_entry_eq]
  generalize (lg_sl ([.ref (hX 0), .int p1]) ++ List.replicate (2 - (lg_sl ([.ref (hX 0), .int p1])).length) Slot.unset).toArray = ls at hl ⊢
  have hl : lv_has ls 2 [(0, .ref (hX 0)), (1, .int p1)] := hl
  refine lv_iload_n hx hb dX11_truth_0 rfl (lv_at hl 1 rfl) ?_
  by_cases s_1_0 : p1 = 0
  · have ts_1_0 : p1.toInt = 0 := toI_eq s_1_0 rfl (by decide)
    refine lv_tableIn (off := 35) (tgt := 36) hx hb dX11_truth_1 (by rw [s_1_0]; decide) (by rw [s_1_0]; decide) (by rw [s_1_0]; decide) (by decide) ?_
    refine lv_aload_n hx hb dX11_truth_36 rfl (lv_at hl 0 rfl) ?_
    have hFc := allFree hD hS hA
    refine va_callr (va_runV (As := []) (rest := []) ⟨hx, hb, hml, hown, hts⟩ (m_X11_theClauses_1 l dC dI hX aX kX hT hM fX_ready fX_sheet dX_sheet nX_sheet iX_sheetLength xX_reader xX_solver xX_prover xX_values xX_nets hC aC kC iC_clauses fC_wants fC_wantsNot fC_weight fC_broken fC_loss iC_musts b_fX_sheet (by first | exact b_nX_sheet | with_reducible assumption | exact ⟨by omega, by omega⟩ | assumption) (b_iX_sheetLength) (by first | with_reducible assumption | omega | assumption) (b_iC_clauses) s.heap.size) (cwV 0 hts gwsMX11_truth_1_0 rfl rfl rfl hd_yX11_theClauses_RX11 (by decide +kernel)) (fz_pre (va_recv hK hP (ci := 11) (q0 := 0) rfl rfl) hP hK hD) rfl rfl hl.1 rfl (lv_room (Nat.le_of_ble_eq_true rfl)) dX11_truth_37 (by decide +kernel)) hS (fun q _ h => hFc q h) hFc (fun u ra1 t9_ H locs ht hvm hw9 hB9 hz1 hk1 hS => ?_)
    revert hB9
    refine fz_a2 ?_
    intro hra hB9
    subst hra
    clear hw9
    have hP : va_P (dC, dI) vwCl (WX hX aX kX hT hM fX_ready fX_sheet dX_sheet nX_sheet iX_sheetLength xX_reader xX_solver xX_prover xX_values (.ref (hC 0)) xX_nets ++ (WC hC aC kC iC_clauses fC_wants fC_wantsNot fC_weight fC_broken fC_loss iC_musts)) H := fz_P ht hB9.1
    have hD := fz_sd hP (hB9.2.weaken (fun _ q _ h => hFc q.1 h)) rfl
    refine lv_iconst (v := 1) hx hb dX11_truth_40 (by decide) ?_
    have p9 := cj_2_1 (WX hX aX kX hT hM fX_ready fX_sheet dX_sheet nX_sheet iX_sheetLength xX_reader xX_solver xX_prover xX_values (.ref (hC 0)) xX_nets) (WC hC aC kC iC_clauses fC_wants fC_wantsNot fC_weight fC_broken fC_loss iC_musts)
    have hPc := hP.mem (fun q h => p9.mem_iff.mpr (List.mem_append_left _ h))
    have hDc := (hD.perm p9).left
    have hKc : va_K (dC, dI) vwCl (tC kC) _ := hK.sub [2, 3, 4, 5, 6] rfl
    have hFc := freeG p9 hD hS hA
    refine va_calli (va_runV (As := [.int 1]) (rest := []) ⟨hx, hb, hml, hown, hts⟩ (m_X0_least l dC dI hC aC kC iC_clauses fC_wants fC_wantsNot fC_weight fC_broken fC_loss iC_musts 1 (b_iC_clauses) (hCv) (hCI) H.size) (cwV 1 hts gwsMX11_truth_1_1 rfl rfl rfl hd_yX0_least_RX0 (by decide +kernel)) (fz_pre (va_recv hK hP (ci := 0) (q0 := 3) rfl rfl) hPc hKc hDc) rfl rfl hl.1 rfl (lv_room (Nat.le_of_ble_eq_true rfl)) dX11_truth_41 (by decide +kernel)) hS (fun q _ h => hFc q h) hFc (fun r2 u t9_ H locs ht hvm hw9 hB9 hz1 hk1 hS => ?_)
    have f2_0 := hw9
    try dsimp only at f2_0
    have p8 := p9
    obtain ⟨hP, hD⟩ := frameG p9 p8 hP hD hk1 hFc (fz_P ht hB9.1) hB9.2
    have hls := f2_0
    refine W.widen (k := 0) (n := 0) (by decide +kernel) (by decide +kernel) ?_
    exact W.iret (v := r2) hx hb hr (fun t9_ ht hW => ⟨⟨r2, (), rfl, (by (try dsimp only); exact Or.inl ⟨ts_1_0, hls.2 (by decide)⟩), by rw [ht]; exact hP, hD⟩, hS.F ht⟩) hS.2.2 dX11_truth_44
  · have ts_1_0 : ¬ p1.toInt = 0 := toI_neq s_1_0 rfl (by decide)
    by_cases s_1_1 : p1 = 1
    · have ts_1_1 : p1.toInt = 1 := toI_eq s_1_1 rfl (by decide)
      refine lv_tableIn (off := 44) (tgt := 45) hx hb dX11_truth_1 (by rw [s_1_1]; decide) (by rw [s_1_1]; decide) (by rw [s_1_1]; decide) (by decide) ?_
      refine lv_aload_n hx hb dX11_truth_45 rfl (lv_at hl 0 rfl) ?_
      have hFc := allFree hD hS hA
      refine va_callr (va_runV (As := []) (rest := []) ⟨hx, hb, hml, hown, hts⟩ (m_X11_theClauses_1 l dC dI hX aX kX hT hM fX_ready fX_sheet dX_sheet nX_sheet iX_sheetLength xX_reader xX_solver xX_prover xX_values xX_nets hC aC kC iC_clauses fC_wants fC_wantsNot fC_weight fC_broken fC_loss iC_musts b_fX_sheet (by first | exact b_nX_sheet | with_reducible assumption | exact ⟨by omega, by omega⟩ | assumption) (b_iX_sheetLength) (by first | with_reducible assumption | omega | assumption) (b_iC_clauses) s.heap.size) (cwV 0 hts gwsMX11_truth_1_0 rfl rfl rfl hd_yX11_theClauses_RX11 (by decide +kernel)) (fz_pre (va_recv hK hP (ci := 11) (q0 := 0) rfl rfl) hP hK hD) rfl rfl hl.1 rfl (lv_room (Nat.le_of_ble_eq_true rfl)) dX11_truth_46 (by decide +kernel)) hS (fun q _ h => hFc q h) hFc (fun u ra3 t9_ H locs ht hvm hw9 hB9 hz1 hk1 hS => ?_)
      revert hB9
      refine fz_a2 ?_
      intro hra hB9
      subst hra
      clear hw9
      have hP : va_P (dC, dI) vwCl (WX hX aX kX hT hM fX_ready fX_sheet dX_sheet nX_sheet iX_sheetLength xX_reader xX_solver xX_prover xX_values (.ref (hC 0)) xX_nets ++ (WC hC aC kC iC_clauses fC_wants fC_wantsNot fC_weight fC_broken fC_loss iC_musts)) H := fz_P ht hB9.1
      have hD := fz_sd hP (hB9.2.weaken (fun _ q _ h => hFc q.1 h)) rfl
      refine lv_iconst (v := 0) hx hb dX11_truth_49 (by decide) ?_
      have p9 := cj_2_1 (WX hX aX kX hT hM fX_ready fX_sheet dX_sheet nX_sheet iX_sheetLength xX_reader xX_solver xX_prover xX_values (.ref (hC 0)) xX_nets) (WC hC aC kC iC_clauses fC_wants fC_wantsNot fC_weight fC_broken fC_loss iC_musts)
      have hPc := hP.mem (fun q h => p9.mem_iff.mpr (List.mem_append_left _ h))
      have hDc := (hD.perm p9).left
      have hKc : va_K (dC, dI) vwCl (tC kC) _ := hK.sub [2, 3, 4, 5, 6] rfl
      have hFc := freeG p9 hD hS hA
      refine va_calli (va_runV (As := [.int 0]) (rest := []) ⟨hx, hb, hml, hown, hts⟩ (m_X0_least l dC dI hC aC kC iC_clauses fC_wants fC_wantsNot fC_weight fC_broken fC_loss iC_musts 0 (b_iC_clauses) (hCv) (hCI) H.size) (cwV 1 hts gwsMX11_truth_1_1 rfl rfl rfl hd_yX0_least_RX0 (by decide +kernel)) (fz_pre (va_recv hK hP (ci := 0) (q0 := 3) rfl rfl) hPc hKc hDc) rfl rfl hl.1 rfl (lv_room (Nat.le_of_ble_eq_true rfl)) dX11_truth_50 (by decide +kernel)) hS (fun q _ h => hFc q h) hFc (fun r4 u t9_ H locs ht hvm hw9 hB9 hz1 hk1 hS => ?_)
      have f4_0 := hw9
      try dsimp only at f4_0
      have p8 := p9
      obtain ⟨hP, hD⟩ := frameG p9 p8 hP hD hk1 hFc (fz_P ht hB9.1) hB9.2
      have hls := f4_0
      refine W.widen (k := 0) (n := 0) (by decide +kernel) (by decide +kernel) ?_
      exact W.iret (v := r4) hx hb hr (fun t9_ ht hW => ⟨⟨r4, (), rfl, (by (try dsimp only); exact Or.inr (Or.inl ⟨ts_1_1, hls.1 (by decide)⟩)), by rw [ht]; exact hP, hD⟩, hS.F ht⟩) hS.2.2 dX11_truth_53
    · have ts_1_1 : ¬ p1.toInt = 1 := toI_neq s_1_1 rfl (by decide)
      by_cases s_1_2 : p1 = 2
      · have ts_1_2 : p1.toInt = 2 := toI_eq s_1_2 rfl (by decide)
        refine lv_tableIn (off := 53) (tgt := 54) hx hb dX11_truth_1 (by rw [s_1_2]; decide) (by rw [s_1_2]; decide) (by rw [s_1_2]; decide) (by decide) ?_
        refine lv_aload_n hx hb dX11_truth_54 rfl (lv_at hl 0 rfl) ?_
        have hFc := allFree hD hS hA
        refine va_callr (va_runV (As := []) (rest := []) ⟨hx, hb, hml, hown, hts⟩ (m_X11_theClauses_1 l dC dI hX aX kX hT hM fX_ready fX_sheet dX_sheet nX_sheet iX_sheetLength xX_reader xX_solver xX_prover xX_values xX_nets hC aC kC iC_clauses fC_wants fC_wantsNot fC_weight fC_broken fC_loss iC_musts b_fX_sheet (by first | exact b_nX_sheet | with_reducible assumption | exact ⟨by omega, by omega⟩ | assumption) (b_iX_sheetLength) (by first | with_reducible assumption | omega | assumption) (b_iC_clauses) s.heap.size) (cwV 0 hts gwsMX11_truth_1_0 rfl rfl rfl hd_yX11_theClauses_RX11 (by decide +kernel)) (fz_pre (va_recv hK hP (ci := 11) (q0 := 0) rfl rfl) hP hK hD) rfl rfl hl.1 rfl (lv_room (Nat.le_of_ble_eq_true rfl)) dX11_truth_55 (by decide +kernel)) hS (fun q _ h => hFc q h) hFc (fun u ra5 t9_ H locs ht hvm hw9 hB9 hz1 hk1 hS => ?_)
        revert hB9
        refine fz_a2 ?_
        intro hra hB9
        subst hra
        clear hw9
        have hP : va_P (dC, dI) vwCl (WX hX aX kX hT hM fX_ready fX_sheet dX_sheet nX_sheet iX_sheetLength xX_reader xX_solver xX_prover xX_values (.ref (hC 0)) xX_nets ++ (WC hC aC kC iC_clauses fC_wants fC_wantsNot fC_weight fC_broken fC_loss iC_musts)) H := fz_P ht hB9.1
        have hD := fz_sd hP (hB9.2.weaken (fun _ q _ h => hFc q.1 h)) rfl
        have p9 := cj_2_1 (WX hX aX kX hT hM fX_ready fX_sheet dX_sheet nX_sheet iX_sheetLength xX_reader xX_solver xX_prover xX_values (.ref (hC 0)) xX_nets) (WC hC aC kC iC_clauses fC_wants fC_wantsNot fC_weight fC_broken fC_loss iC_musts)
        have hPc := hP.mem (fun q h => p9.mem_iff.mpr (List.mem_append_left _ h))
        have hDc := (hD.perm p9).left
        have hKc : va_K (dC, dI) vwCl (tC kC) _ := hK.sub [2, 3, 4, 5, 6] rfl
        have hFc := freeG p9 hD hS hA
        refine va_calli (va_runV (As := []) (rest := []) ⟨hx, hb, hml, hown, hts⟩ (m_X0_models l dC dI hC aC kC iC_clauses fC_wants fC_wantsNot fC_weight fC_broken fC_loss iC_musts (b_iC_clauses) (hCv) (hCI) H.size) (cwV 0 hts gwsMX11_truth_1_2 rfl rfl rfl hd_yX0_models_RX0 (by decide +kernel)) (fz_pre (va_recv hK hP (ci := 0) (q0 := 3) rfl rfl) hPc hKc hDc) rfl rfl hl.1 rfl (lv_room (Nat.le_of_ble_eq_true rfl)) dX11_truth_58 (by decide +kernel)) hS (fun q _ h => hFc q h) hFc (fun r6 u t9_ H locs ht hvm hw9 hB9 hz1 hk1 hS => ?_)
        have f6_0 := hw9
        try dsimp only at f6_0
        have p8 := p9
        obtain ⟨hP, hD⟩ := frameG p9 p8 hP hD hk1 hFc (fz_P ht hB9.1) hB9.2
        have hls := f6_0
        refine W.widen (k := 0) (n := 0) (by decide +kernel) (by decide +kernel) ?_
        exact W.iret (v := r6) hx hb hr (fun t9_ ht hW => ⟨⟨r6, (), rfl, (by (try dsimp only); exact Or.inr (Or.inr (Or.inl ⟨ts_1_2, hls⟩))), by rw [ht]; exact hP, hD⟩, hS.F ht⟩) hS.2.2 dX11_truth_61
      · have ts_1_2 : ¬ p1.toInt = 2 := toI_neq s_1_2 rfl (by decide)
        by_cases s_1_3 : p1 = 3
        · have ts_1_3 : p1.toInt = 3 := toI_eq s_1_3 rfl (by decide)
          refine lv_tableIn (off := 61) (tgt := 62) hx hb dX11_truth_1 (by rw [s_1_3]; decide) (by rw [s_1_3]; decide) (by rw [s_1_3]; decide) (by decide) ?_
          refine lv_aload_n hx hb dX11_truth_62 rfl (lv_at hl 0 rfl) ?_
          have hFc := allFree hD hS hA
          refine va_callr (va_runV (As := []) (rest := []) ⟨hx, hb, hml, hown, hts⟩ (m_X11_theClauses_1 l dC dI hX aX kX hT hM fX_ready fX_sheet dX_sheet nX_sheet iX_sheetLength xX_reader xX_solver xX_prover xX_values xX_nets hC aC kC iC_clauses fC_wants fC_wantsNot fC_weight fC_broken fC_loss iC_musts b_fX_sheet (by first | exact b_nX_sheet | with_reducible assumption | exact ⟨by omega, by omega⟩ | assumption) (b_iX_sheetLength) (by first | with_reducible assumption | omega | assumption) (b_iC_clauses) s.heap.size) (cwV 0 hts gwsMX11_truth_1_0 rfl rfl rfl hd_yX11_theClauses_RX11 (by decide +kernel)) (fz_pre (va_recv hK hP (ci := 11) (q0 := 0) rfl rfl) hP hK hD) rfl rfl hl.1 rfl (lv_room (Nat.le_of_ble_eq_true rfl)) dX11_truth_63 (by decide +kernel)) hS (fun q _ h => hFc q h) hFc (fun u ra7 t9_ H locs ht hvm hw9 hB9 hz1 hk1 hS => ?_)
          revert hB9
          refine fz_a2 ?_
          intro hra hB9
          subst hra
          clear hw9
          have hP : va_P (dC, dI) vwCl (WX hX aX kX hT hM fX_ready fX_sheet dX_sheet nX_sheet iX_sheetLength xX_reader xX_solver xX_prover xX_values (.ref (hC 0)) xX_nets ++ (WC hC aC kC iC_clauses fC_wants fC_wantsNot fC_weight fC_broken fC_loss iC_musts)) H := fz_P ht hB9.1
          have hD := fz_sd hP (hB9.2.weaken (fun _ q _ h => hFc q.1 h)) rfl
          have p9 := cj_2_1 (WX hX aX kX hT hM fX_ready fX_sheet dX_sheet nX_sheet iX_sheetLength xX_reader xX_solver xX_prover xX_values (.ref (hC 0)) xX_nets) (WC hC aC kC iC_clauses fC_wants fC_wantsNot fC_weight fC_broken fC_loss iC_musts)
          have hPc := hP.mem (fun q h => p9.mem_iff.mpr (List.mem_append_left _ h))
          have hDc := (hD.perm p9).left
          have hKc : va_K (dC, dI) vwCl (tC kC) _ := hK.sub [2, 3, 4, 5, 6] rfl
          have hFc := freeG p9 hD hS hA
          refine va_calli (va_runV (As := []) (rest := []) ⟨hx, hb, hml, hown, hts⟩ (m_X0_core l dC dI hC aC kC iC_clauses fC_wants fC_wantsNot fC_weight fC_broken fC_loss iC_musts (b_iC_clauses) (hCv) (hCI) H.size) (cwV 0 hts gwsMX11_truth_1_3 rfl rfl rfl hd_yX0_core_RX0 (by decide +kernel)) (fz_pre (va_recv hK hP (ci := 0) (q0 := 3) rfl rfl) hPc hKc hDc) rfl rfl hl.1 rfl (lv_room (Nat.le_of_ble_eq_true rfl)) dX11_truth_66 (by decide +kernel)) hS (fun q _ h => hFc q h) hFc (fun r8 u t9_ H locs ht hvm hw9 hB9 hz1 hk1 hS => ?_)
          have f8_0 := hw9
          try dsimp only at f8_0
          have p8 := p9
          obtain ⟨hP, hD⟩ := frameG p9 p8 hP hD hk1 hFc (fz_P ht hB9.1) hB9.2
          have hls := f8_0
          refine W.widen (k := 0) (n := 0) (by decide +kernel) (by decide +kernel) ?_
          exact W.iret (v := r8) hx hb hr (fun t9_ ht hW => ⟨⟨r8, (), rfl, (by (try dsimp only); exact Or.inr (Or.inr (Or.inr (Or.inl ⟨ts_1_3, hls⟩)))), by rw [ht]; exact hP, hD⟩, hS.F ht⟩) hS.2.2 dX11_truth_69
        · have ts_1_3 : ¬ p1.toInt = 3 := toI_neq s_1_3 rfl (by decide)
          by_cases s_1_4 : p1 = 4
          · have ts_1_4 : p1.toInt = 4 := toI_eq s_1_4 rfl (by decide)
            refine lv_tableIn (off := 69) (tgt := 70) hx hb dX11_truth_1 (by rw [s_1_4]; decide) (by rw [s_1_4]; decide) (by rw [s_1_4]; decide) (by decide) ?_
            refine lv_aload_n hx hb dX11_truth_70 rfl (lv_at hl 0 rfl) ?_
            have hFc := allFree hD hS hA
            refine va_callr (va_runV (As := []) (rest := []) ⟨hx, hb, hml, hown, hts⟩ (m_X11_theClauses_1 l dC dI hX aX kX hT hM fX_ready fX_sheet dX_sheet nX_sheet iX_sheetLength xX_reader xX_solver xX_prover xX_values xX_nets hC aC kC iC_clauses fC_wants fC_wantsNot fC_weight fC_broken fC_loss iC_musts b_fX_sheet (by first | exact b_nX_sheet | with_reducible assumption | exact ⟨by omega, by omega⟩ | assumption) (b_iX_sheetLength) (by first | with_reducible assumption | omega | assumption) (b_iC_clauses) s.heap.size) (cwV 0 hts gwsMX11_truth_1_0 rfl rfl rfl hd_yX11_theClauses_RX11 (by decide +kernel)) (fz_pre (va_recv hK hP (ci := 11) (q0 := 0) rfl rfl) hP hK hD) rfl rfl hl.1 rfl (lv_room (Nat.le_of_ble_eq_true rfl)) dX11_truth_71 (by decide +kernel)) hS (fun q _ h => hFc q h) hFc (fun u ra9 t9_ H locs ht hvm hw9 hB9 hz1 hk1 hS => ?_)
            revert hB9
            refine fz_a2 ?_
            intro hra hB9
            subst hra
            clear hw9
            have hP : va_P (dC, dI) vwCl (WX hX aX kX hT hM fX_ready fX_sheet dX_sheet nX_sheet iX_sheetLength xX_reader xX_solver xX_prover xX_values (.ref (hC 0)) xX_nets ++ (WC hC aC kC iC_clauses fC_wants fC_wantsNot fC_weight fC_broken fC_loss iC_musts)) H := fz_P ht hB9.1
            have hD := fz_sd hP (hB9.2.weaken (fun _ q _ h => hFc q.1 h)) rfl
            refine va_get (D := (dC, dI)) (ci := 0) (v := .int iC_clauses) (C := RX0) (T := TX0) (N := 7) hx hb hts iwsMX11_truth_1_in0 hown hK hP 3 rfl rfl 0 (by decide) (hts (.fieldLink RX11 397 "OptimaWorks$ClauseDesk" "clauses" "I") (by decide +kernel)) (fun _ h9 => h9) rfl dX11_truth_74 ?_
            refine W.widen (k := 0) (n := 0) (by decide +kernel) (by decide +kernel) ?_
            exact W.iret (v := iC_clauses) hx hb hr (fun t9_ ht hW => ⟨⟨iC_clauses, (), rfl, (by (try dsimp only); exact Or.inr (Or.inr (Or.inr (Or.inr (Or.inl ⟨ts_1_4, rfl⟩))))), by rw [ht]; exact hP, hD⟩, hS.F ht⟩) hS.2.2 dX11_truth_77
          · have ts_1_4 : ¬ p1.toInt = 4 := toI_neq s_1_4 rfl (by decide)
            refine lv_tableOut (tgt := 78) hx hb dX11_truth_1 (by have := lv_neT s_1_0 (show Int32.toInt 0 = 0 by decide); have := lv_neT s_1_1 (show Int32.toInt 1 = 1 by decide); have := lv_neT s_1_2 (show Int32.toInt 2 = 2 by decide); have := lv_neT s_1_3 (show Int32.toInt 3 = 3 by decide); have := lv_neT s_1_4 (show Int32.toInt 4 = 4 by decide); omega) (by decide) ?_
            refine lv_iconst (v := (-1)) hx hb dX11_truth_78 (by decide) ?_
            refine W.widen (k := 0) (n := 0) (by decide +kernel) (by decide +kernel) ?_
            exact W.iret (v := (-1)) hx hb hr (fun t9_ ht hW => ⟨⟨((-1) : Int32), (), rfl, (by (try dsimp only); exact Or.inr (Or.inr (Or.inr (Or.inr (Or.inr ⟨by omega, rfl⟩))))), by rw [ht]; exact hP, hD⟩, hS.F ht⟩) hS.2.2 dX11_truth_79
end

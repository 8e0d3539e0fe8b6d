theorem dX9_append_0 : decode cX9_append 0 = .ok (.aload_n 0, 1) := by decide +kernel
theorem dX9_append_1 : decode cX9_append 1 = .ok (.getfield 19, 3) := by decide +kernel
theorem dX9_append_4 : decode cX9_append 4 = .ok (.sipush 4000, 3) := by decide +kernel
theorem dX9_append_7 : decode cX9_append 7 = .ok (.if_icmp .lt 4, 3) := by decide +kernel
theorem dX9_append_11 : decode cX9_append 11 = .ok (.aload_n 0, 1) := by decide +kernel
theorem dX9_append_12 : decode cX9_append 12 = .ok (.getfield 19, 3) := by decide +kernel
theorem dX9_append_15 : decode cX9_append 15 = .ok (.aload_n 0, 1) := by decide +kernel
theorem dX9_append_16 : decode cX9_append 16 = .ok (.getfield 9, 3) := by decide +kernel
theorem dX9_append_19 : decode cX9_append 19 = .ok (.arraylength, 1) := by decide +kernel
theorem dX9_append_20 : decode cX9_append 20 = .ok (.if_icmp .lt 21, 3) := by decide +kernel
theorem dX9_append_41 : decode cX9_append 41 = .ok (.aload_n 0, 1) := by decide +kernel
theorem dX9_append_42 : decode cX9_append 42 = .ok (.getfield 9, 3) := by decide +kernel
theorem dX9_append_45 : decode cX9_append 45 = .ok (.aload_n 0, 1) := by decide +kernel
theorem dX9_append_46 : decode cX9_append 46 = .ok (.getfield 19, 3) := by decide +kernel
theorem dX9_append_49 : decode cX9_append 49 = .ok (.iload_n 1, 1) := by decide +kernel
theorem dX9_append_50 : decode cX9_append 50 = .ok (.i2b, 1) := by decide +kernel
theorem dX9_append_51 : decode cX9_append 51 = .ok (.bastore, 1) := by decide +kernel
theorem dX9_append_52 : decode cX9_append 52 = .ok (.aload_n 0, 1) := by decide +kernel
theorem dX9_append_53 : decode cX9_append 53 = .ok (.dup, 1) := by decide +kernel
theorem dX9_append_54 : decode cX9_append 54 = .ok (.getfield 19, 3) := by decide +kernel
theorem dX9_append_57 : decode cX9_append 57 = .ok (.iconst 1, 1) := by decide +kernel
theorem dX9_append_58 : decode cX9_append 58 = .ok (.iadd, 1) := by decide +kernel
theorem dX9_append_59 : decode cX9_append 59 = .ok (.putfield 19, 3) := by decide +kernel
theorem dX9_append_62 : decode cX9_append 62 = .ok (.return_, 1) := by decide +kernel
def wsPX9_append : List Cond := .code yX9_append cX9_append 2 none :: ([.fieldLink RX9 19 "OptimaWorks$Words" "length" "I", .fieldLink RX9 9 "OptimaWorks$Words" "tape" "[B"] ++ wsX90)
theorem iwsPX9_append_in9 : ∀ w ∈ wsX90, w ∈ wsPX9_append := fun _ h => List.mem_cons_of_mem _ (List.mem_append_right _ h)
set_option maxHeartbeats 4000000 in
set_option maxRecDepth 100000 in
/-- append(letter) while there is room -/
theorem p_X9_append (l : Launch) (dC : Nat → ClassId) (dI : Nat → Nat → Nat) (w0 : Nat) (tp : Nat) (i : Nat) (hi : i < 64) (q2 : Value) (q3 : Value) (q4 : Value) (q5 : Value) (q6 : Value) (q7 : Value) (q8 : Value) (kT : ClassId) (g0 : Nat → Int32) (lt : Int32) (sz : Nat) : Met l yX9_append wsPX9_append ({ frames := 0, cells := 0, slots := 0, locals := 0 }) (va_Pc [.ref w0, .int lt] (fun U => U.heap.size = sz ∧ va_P (dC, dI) vwCl [(w0, .inr (9, [.ref tp, .int (nI i), q2, q3, q4, q5, q6, q7, q8])), (tp, .inl (kT, 64, .inl g0))] U.heap ∧ va_K (dC, dI) vwCl [(kT, .byte)] U ∧ va_D (fun _ => True) [(w0, .inr (9, [.ref tp, .int (nI i), q2, q3, q4, q5, q6, q7, q8])), (tp, .inl (kT, 64, .inl g0))])) (va_Qv (fun (u : Nat → Int32) => True) (fun (u : Nat → Int32) t => va_P (dC, dI) vwCl [(w0, .inr (9, [.ref tp, .int (nI (i + 1)), q2, q3, q4, q5, q6, q7, q8])), (tp, .inl (kT, 64, .inl u))] t.heap ∧ va_K (dC, dI) vwCl [] t ∧ va_D (va_A [(w0, .inr (9, [.ref tp, .int (nI i), q2, q3, q4, q5, q6, q7, q8])), (tp, .inl (kT, 64, .inl g0))] sz) [(w0, .inr (9, [.ref tp, .int (nI (i + 1)), q2, q3, q4, q5, q6, q7, q8])), (tp, .inl (kT, 64, .inl u))]) (va_A [(w0, .inr (9, [.ref tp, .int (nI i), q2, q3, q4, q5, q6, q7, q8])), (tp, .inl (kT, 64, .inl g0))] sz)) 0 0 (va_A [(w0, .inr (9, [.ref tp, .int (nI i), q2, q3, q4, q5, q6, q7, q8])), (tp, .inl (kT, 64, .inl g0))] sz) := by
  refine Met.ofW (cc := cX9_append) (maxL := 2) (ret := none) (by decide) rfl ?_
  intro p e s m args below meth c s₁ B hml hv
  obtain ⟨rfl, hsz, hP, hK, hD0⟩ := hv
  have hx := B.exec
  have hb := B.bytes
  have hr := B.returns
  have hts := atoms_spec (ws := wsPX9_append) B.pre
  have hown : s.vm.findClass RX9 = some m.cls := findClass_of_methodNamed B.named
  have hlocks := B.notSynchronized
  subst hsz
  have hD := hD0.self (sz := s.heap.size)
  generalize hAe : va_A [(w0, .inr (9, [.ref tp, .int (nI i), q2, q3, q4, q5, q6, q7, q8])), (tp, .inl (kT, 64, .inl g0))] s.heap.size = A at hD ⊢
  have hA : ∀ q : Nat, s.heap.size ≤ q → A q := fun q h => by rw [← hAe]; exact Or.inr h
  have hS : va_S A s.heap s.heap [] := va_S.rf
  have hP : va_P (dC, dI) vwCl [(w0, .inr (9, [.ref tp, .int (nI i), q2, q3, q4, q5, q6, q7, q8])), (tp, .inl (kT, 64, .inl g0))] s.heap := hP
  have hl := lv_entry ([.ref w0, .int lt]) (n := 2) (Nat.le_of_ble_eq_true rfl)
  rw [lg_entry_eq]
  generalize (lg_sl ([.ref w0, .int lt]) ++ List.replicate (2 - (lg_sl ([.ref w0, .int lt])).length) Slot.unset).toArray = ls at hl ⊢
  have hl : lv_has ls 2 [(0, .ref w0), (1, .int lt)] := hl
  refine lv_aload_n hx hb dX9_append_0 rfl (lv_at hl 0 rfl) ?_
  refine va_get (D := (dC, dI)) (ci := 9) (v := .int (nI i)) (C := RX9) (T := TX9) (N := 9) hx hb hts iwsPX9_append_in9 hown hK hP 0 rfl rfl 1 (by decide) (hts (.fieldLink RX9 19 "OptimaWorks$Words" "length" "I") (by decide +kernel)) (fun _ h9 => h9) rfl dX9_append_1 ?_
  refine lv_sipush (v := 4000) hx hb dX9_append_4 (by decide) ?_
  refine lv_icmp_lt (tgt := 11) hx hb dX9_append_7 (by decide) (fun c_7 => ?_) (fun c9 => False.elim (by have t9 : ¬ ((i : Nat) : Int) < 4000 := toI_nlt c9 (nI_toInt (by omega)) (by decide); omega))
  have t_7 : ((i : Nat) : Int) < 4000 := toI_lt c_7 (nI_toInt (by omega)) (by decide)
  refine lv_aload_n hx hb dX9_append_11 rfl (lv_at hl 0 rfl) ?_
  refine va_get (D := (dC, dI)) (ci := 9) (v := .int (nI i)) (C := RX9) (T := TX9) (N := 9) hx hb hts iwsPX9_append_in9 hown hK hP 0 rfl rfl 1 (by decide) (hts (.fieldLink RX9 19 "OptimaWorks$Words" "length" "I") (by decide +kernel)) (fun _ h9 => h9) rfl dX9_append_12 ?_
  refine lv_aload_n hx hb dX9_append_15 rfl (lv_at hl 0 rfl) ?_
  refine va_get (D := (dC, dI)) (ci := 9) (v := .ref tp) (C := RX9) (T := TX9) (N := 9) hx hb hts iwsPX9_append_in9 hown hK hP 0 rfl rfl 0 (by decide) (hts (.fieldLink RX9 9 "OptimaWorks$Words" "tape" "[B") (by decide +kernel)) (fun _ h9 => h9) rfl dX9_append_16 ?_
  refine va_alen hx hb hK hP 1 0 rfl rfl (v := 64) rfl dX9_append_19 ?_
  refine lv_icmp_lt (tgt := 41) hx hb dX9_append_20 (by decide) (fun c_20 => ?_) (fun c9 => False.elim (by have t9 : ¬ ((i : Nat) : Int) < 64 := toI_nlt c9 (nI_toInt (by omega)) (by decide); omega))
  have t_20 : ((i : Nat) : Int) < 64 := toI_lt c_20 (nI_toInt (by omega)) (by decide)
  refine lv_aload_n hx hb dX9_append_41 rfl (lv_at hl 0 rfl) ?_
  refine va_get (D := (dC, dI)) (ci := 9) (v := .ref tp) (C := RX9) (T := TX9) (N := 9) hx hb hts iwsPX9_append_in9 hown hK hP 0 rfl rfl 0 (by decide) (hts (.fieldLink RX9 9 "OptimaWorks$Words" "tape" "[B") (by decide +kernel)) (fun _ h9 => h9) rfl dX9_append_42 ?_
  refine lv_aload_n hx hb dX9_append_45 rfl (lv_at hl 0 rfl) ?_
  refine va_get (D := (dC, dI)) (ci := 9) (v := .int (nI i)) (C := RX9) (T := TX9) (N := 9) hx hb hts iwsPX9_append_in9 hown hK hP 0 rfl rfl 1 (by decide) (hts (.fieldLink RX9 19 "OptimaWorks$Words" "length" "I") (by decide +kernel)) (fun _ h9 => h9) rfl dX9_append_46 ?_
  refine lv_iload_n hx hb dX9_append_49 rfl (lv_at hl 1 rfl) ?_
  refine lv_i2b hx hb dX9_append_50 rfl ?_
  refine va_bast hx hb hK hP hD hS 1 0 rfl rfl (vp_in_nI (show i < 64 by omega) (by omega)) dX9_append_51 (fun H locs hP hD hS => ?_)
  have hP : va_P (dC, dI) vwCl [(w0, .inr (9, [.ref tp, .int (nI i), q2, q3, q4, q5, q6, q7, q8])), (tp, .inl (kT, 64, .inl (upd g0 ((nI i)).toNatClampNeg (vp_nar FieldType.byte ((lt).toInt8.toInt32)))))] H := hP
  have hD : va_D A [(w0, .inr (9, [.ref tp, .int (nI i), q2, q3, q4, q5, q6, q7, q8])), (tp, .inl (kT, 64, .inl (upd g0 ((nI i)).toNatClampNeg (vp_nar FieldType.byte ((lt).toInt8.toInt32)))))] := hD
  refine lv_aload_n hx hb dX9_append_52 rfl (lv_at hl 0 rfl) ?_
  refine lv_dup hx hb dX9_append_53 rfl ?_
  refine va_get (D := (dC, dI)) (ci := 9) (v := .int (nI i)) (C := RX9) (T := TX9) (N := 9) hx hb hts iwsPX9_append_in9 hown hK hP 0 rfl rfl 1 (by decide) (hts (.fieldLink RX9 19 "OptimaWorks$Words" "length" "I") (by decide +kernel)) (fun _ h9 => h9) rfl dX9_append_54 ?_
  refine lv_iconst (v := 1) hx hb dX9_append_57 (by decide) ?_
  refine lv_iadd hx hb dX9_append_58 ?_
  refine lv_topi (fun y1 hy1 => ?_)
  obtain rfl : (nI (i + 1)) = y1 := (hy1.trans (nI_add i 1)).symm
  refine va_put (D := (dC, dI)) (ci := 9) (v := .int (nI (i + 1))) (ty := .int) (C := RX9) (T := TX9) (N := 9) hx hb hts iwsPX9_append_in9 tyX9 tyX9_ok nmX9 hown hK hP hD hS 0 rfl rfl 1 (by decide) (hts (.fieldLink RX9 19 "OptimaWorks$Words" "length" "I") (by decide +kernel)) (fun _ h9 => h9) rfl (by decide +kernel) rfl rfl (Nat.le_of_ble_eq_true rfl) dX9_append_59 (fun H locs hP hD hS => ?_)
  have hP : va_P (dC, dI) vwCl [(w0, .inr (9, [.ref tp, .int (nI (i + 1)), q2, q3, q4, q5, q6, q7, q8])), (tp, .inl (kT, 64, .inl (upd g0 ((nI i)).toNatClampNeg (vp_nar FieldType.byte ((lt).toInt8.toInt32)))))] H := hP
  have hD : va_D A [(w0, .inr (9, [.ref tp, .int (nI (i + 1)), q2, q3, q4, q5, q6, q7, q8])), (tp, .inl (kT, 64, .inl (upd g0 ((nI i)).toNatClampNeg (vp_nar FieldType.byte ((lt).toInt8.toInt32)))))] := hD
  refine W.widen (k := 0) (n := 0) (by decide +kernel) (by decide +kernel) ?_
  exact W.vret hx hb hr (fun t ht hW => ⟨⟨(upd g0 ((nI i)).toNatClampNeg (vp_nar FieldType.byte ((lt).toInt8.toInt32))), rfl, trivial, by rw [ht]; exact hP.sub [0, 1] rfl, va_K.moved hW.alike (hK.sub [] rfl), hD.sub [0, 1] (by decide) rfl⟩, hS.F ht⟩) hS.2.2 dX9_append_62
theorem dX11_end_0 : decode cX11_end 0 = .ok (.iload_n 1, 1) := by decide +kernel
theorem dX11_end_1 : decode cX11_end 1 = .ok (.ifCond .lt 24, 3) := by decide +kernel
theorem dX11_end_4 : decode cX11_end 4 = .ok (.iload_n 1, 1) := by decide +kernel
theorem dX11_end_5 : decode cX11_end 5 = .ok (.bipush 20, 2) := by decide +kernel
theorem dX11_end_7 : decode cX11_end 7 = .ok (.if_icmp .gt 18, 3) := by decide +kernel
theorem dX11_end_10 : decode cX11_end 10 = .ok (.aload_n 0, 1) := by decide +kernel
theorem dX11_end_11 : decode cX11_end 11 = .ok (.getfield 16, 3) := by decide +kernel
theorem dX11_end_14 : decode cX11_end 14 = .ok (.getfield 31, 3) := by decide +kernel
theorem dX11_end_17 : decode cX11_end 17 = .ok (.iload_n 1, 1) := by decide +kernel
theorem dX11_end_18 : decode cX11_end 18 = .ok (.iadd, 1) := by decide +kernel
theorem dX11_end_19 : decode cX11_end 19 = .ok (.sipush 4000, 3) := by decide +kernel
theorem dX11_end_22 : decode cX11_end 22 = .ok (.if_icmp .le 5, 3) := by decide +kernel
theorem dX11_end_25 : decode cX11_end 25 = .ok (.iconst (-1), 1) := by decide +kernel
theorem dX11_end_26 : decode cX11_end 26 = .ok (.ireturn, 1) := by decide +kernel
theorem dX11_end_27 : decode cX11_end 27 = .ok (.iconst 0, 1) := by decide +kernel
theorem dX11_end_28 : decode cX11_end 28 = .ok (.istore_n 2, 1) := by decide +kernel
theorem dX11_end_29 : decode cX11_end 29 = .ok (.iload_n 2, 1) := by decide +kernel
theorem dX11_end_30 : decode cX11_end 30 = .ok (.iload_n 1, 1) := by decide +kernel
theorem dX11_end_31 : decode cX11_end 31 = .ok (.if_icmp .ge 34, 3) := by decide +kernel
theorem dX11_end_34 : decode cX11_end 34 = .ok (.aload_n 0, 1) := by decide +kernel
theorem dX11_end_35 : decode cX11_end 35 = .ok (.getfield 16, 3) := by decide +kernel
theorem dX11_end_38 : decode cX11_end 38 = .ok (.aload_n 0, 1) := by decide +kernel
theorem dX11_end_39 : decode cX11_end 39 = .ok (.getfield 9, 3) := by decide +kernel
theorem dX11_end_42 : decode cX11_end 42 = .ok (.iload_n 2, 1) := by decide +kernel
theorem dX11_end_43 : decode cX11_end 43 = .ok (.iconst 2, 1) := by decide +kernel
theorem dX11_end_44 : decode cX11_end 44 = .ok (.ishr, 1) := by decide +kernel
theorem dX11_end_45 : decode cX11_end 45 = .ok (.iaload, 1) := by decide +kernel
theorem dX11_end_46 : decode cX11_end 46 = .ok (.bipush 24, 2) := by decide +kernel
theorem dX11_end_48 : decode cX11_end 48 = .ok (.bipush 8, 2) := by decide +kernel
theorem dX11_end_50 : decode cX11_end 50 = .ok (.iload_n 2, 1) := by decide +kernel
theorem dX11_end_51 : decode cX11_end 51 = .ok (.iconst 3, 1) := by decide +kernel
theorem dX11_end_52 : decode cX11_end 52 = .ok (.iand, 1) := by decide +kernel
theorem dX11_end_53 : decode cX11_end 53 = .ok (.imul, 1) := by decide +kernel
theorem dX11_end_54 : decode cX11_end 54 = .ok (.isub, 1) := by decide +kernel
theorem dX11_end_55 : decode cX11_end 55 = .ok (.iushr, 1) := by decide +kernel
theorem dX11_end_56 : decode cX11_end 56 = .ok (.invokevirtual 35, 3) := by decide +kernel
theorem dX11_end_59 : decode cX11_end 59 = .ok (.iinc 2 1, 3) := by decide +kernel
theorem dX11_end_62 : decode cX11_end 62 = .ok (.goto (-33), 3) := by decide +kernel
theorem dX11_end_65 : decode cX11_end 65 = .ok (.aload_n 0, 1) := by decide +kernel
theorem dX11_end_66 : decode cX11_end 66 = .ok (.getfield 9, 3) := by decide +kernel
theorem dX11_end_69 : decode cX11_end 69 = .ok (.iconst 0, 1) := by decide +kernel
theorem dX11_end_70 : decode cX11_end 70 = .ok (.invokestatic 39, 3) := by decide +kernel
theorem dX11_end_73 : decode cX11_end 73 = .ok (.aload_n 0, 1) := by decide +kernel
theorem dX11_end_74 : decode cX11_end 74 = .ok (.getfield 16, 3) := by decide +kernel
theorem dX11_end_77 : decode cX11_end 77 = .ok (.getfield 31, 3) := by decide +kernel
theorem dX11_end_80 : decode cX11_end 80 = .ok (.ireturn, 1) := by decide +kernel
def wsPX11_end : List Cond := .code yX11_end cX11_end 3 (some .int) :: ([.fieldLink RX11 16 "OptimaWorks" "words" "LOptimaWorks$Words;", .fieldLink RX11 31 "OptimaWorks$Words" "length" "I", .fieldLink RX11 9 "OptimaWorks" "ready" "[I"] ++ wsX90 ++ wsX110 ++ (va_wsS RX11 39 yJ7_fill_53178 wsPJ7_fill_53178) ++ (wsV RX11 35 RX9 yX9_append wsPX9_append))
theorem iwsPX11_end_in9 : ∀ w ∈ wsX90, w ∈ wsPX11_end := fun _ h => List.mem_cons_of_mem _ (List.mem_append_left _ (List.mem_append_left _ (List.mem_append_left _ (List.mem_append_right _ h))))
theorem iwsPX11_end_in11 : ∀ w ∈ wsX110, w ∈ wsPX11_end := fun _ h => List.mem_cons_of_mem _ (List.mem_append_left _ (List.mem_append_left _ (List.mem_append_right _ h)))
theorem gwsPX11_end_0 : GoodIn wsPX11_end (va_wsS RX11 39 yJ7_fill_53178 wsPJ7_fill_53178) := goodIn_sub (fun _ h => List.mem_cons_of_mem _ (List.mem_append_left _ (List.mem_append_right _ h))) (by decide +kernel)
theorem gwsPX11_end_1 : GoodIn wsPX11_end (wsV RX11 35 RX9 yX9_append wsPX9_append) := goodIn_sub (fun _ h => List.mem_cons_of_mem _ (List.mem_append_right _ h)) (by decide +kernel)
set_option maxHeartbeats 4000000 in
set_option maxRecDepth 100000 in
/-- end(n) -/
theorem p_X11_end (l : Launch) (dC : Nat → ClassId) (dI : Nat → Nat → Nat) (h0 : Nat) (a : Nat → Nat) (k : Nat → ClassId) (nn : Int32) (sz : Nat) : Met l yX11_end wsPX11_end ({ frames := 1, cells := 0, slots := 0, locals := 23 }) (va_Pc [.ref h0, .int nn] (fun U => U.heap.size = sz ∧ va_P (dC, dI) vwCl [(h0, .inr (11, [.ref (a 0), .ref (a 1), .ref (a 3), .ref (a 14), .int 0, .null, .null, .null, .null, .null, .null])), ((a 1), .inr (9, [.ref (a 2), .int 0, .int 0, .int (-1), .int 0, .int 0, .int 0, .long 0, .int 0])), ((a 2), .inl ((k 1), 64, .inl (fun _ => 0))), ((a 0), .inl ((k 0), 5, .inl (fun _ => 0)))] U.heap ∧ va_K (dC, dI) vwCl [((k 1), .byte), ((k 0), .int)] U ∧ va_D (fun _ => True) [(h0, .inr (11, [.ref (a 0), .ref (a 1), .ref (a 3), .ref (a 14), .int 0, .null, .null, .null, .null, .null, .null])), ((a 1), .inr (9, [.ref (a 2), .int 0, .int 0, .int (-1), .int 0, .int 0, .int 0, .long 0, .int 0])), ((a 2), .inl ((k 1), 64, .inl (fun _ => 0))), ((a 0), .inl ((k 0), 5, .inl (fun _ => 0)))])) (va_Qi (fun (r : Int32) (u : Unit) => (r = (-1) ∧ ((nn).toInt < 0 ∨ 20 < (nn).toInt)) ∨ (((r).toInt = (nn).toInt) ∧ (0 ≤ (nn).toInt ∧ (nn).toInt ≤ 20))) (fun (u : Unit) t => va_P (dC, dI) vwCl [] t.heap ∧ va_K (dC, dI) vwCl [] t ∧ va_D (va_A [(h0, .inr (11, [.ref (a 0), .ref (a 1), .ref (a 3), .ref (a 14), .int 0, .null, .null, .null, .null, .null, .null])), ((a 1), .inr (9, [.ref (a 2), .int 0, .int 0, .int (-1), .int 0, .int 0, .int 0, .long 0, .int 0])), ((a 2), .inl ((k 1), 64, .inl (fun _ => 0))), ((a 0), .inl ((k 0), 5, .inl (fun _ => 0)))] sz) []) (va_A [(h0, .inr (11, [.ref (a 0), .ref (a 1), .ref (a 3), .ref (a 14), .int 0, .null, .null, .null, .null, .null, .null])), ((a 1), .inr (9, [.ref (a 2), .int 0, .int 0, .int (-1), .int 0, .int 0, .int 0, .long 0, .int 0])), ((a 2), .inl ((k 1), 64, .inl (fun _ => 0))), ((a 0), .inl ((k 0), 5, .inl (fun _ => 0)))] sz)) 0 0 (va_A [(h0, .inr (11, [.ref (a 0), .ref (a 1), .ref (a 3), .ref (a 14), .int 0, .null, .null, .null, .null, .null, .null])), ((a 1), .inr (9, [.ref (a 2), .int 0, .int 0, .int (-1), .int 0, .int 0, .int 0, .long 0, .int 0])), ((a 2), .inl ((k 1), 64, .inl (fun _ => 0))), ((a 0), .inl ((k 0), 5, .inl (fun _ => 0)))] sz) := by
  refine Met.ofW (cc := cX11_end) (maxL := 3) (ret := (some .int)) (by decide) rfl ?_
  intro p e s m args below meth c s₁ B hml hv
  obtain ⟨rfl, hsz, hP, hK, hD0⟩ := hv
  have hx := B.exec
  have hb := B.bytes
  have hr := B.returns
  have hts := atoms_spec (ws := wsPX11_end) B.pre
  have hown : s.vm.findClass RX11 = some m.cls := findClass_of_methodNamed B.named
  have hlocks := B.notSynchronized
  subst hsz
  have hD := hD0.self (sz := s.heap.size)
  generalize hAe : va_A [(h0, .inr (11, [.ref (a 0), .ref (a 1), .ref (a 3), .ref (a 14), .int 0, .null, .null, .null, .null, .null, .null])), ((a 1), .inr (9, [.ref (a 2), .int 0, .int 0, .int (-1), .int 0, .int 0, .int 0, .long 0, .int 0])), ((a 2), .inl ((k 1), 64, .inl (fun _ => 0))), ((a 0), .inl ((k 0), 5, .inl (fun _ => 0)))] s.heap.size = A at hD ⊢
  have hA : ∀ q : Nat, s.heap.size ≤ q → A q := fun q h => by rw [← hAe]; exact Or.inr h
  have hS : va_S A s.heap s.heap [] := va_S.rf
  have hP : va_P (dC, dI) vwCl [(h0, .inr (11, [.ref (a 0), .ref (a 1), .ref (a 3), .ref (a 14), .int 0, .null, .null, .null, .null, .null, .null])), ((a 1), .inr (9, [.ref (a 2), .int 0, .int 0, .int (-1), .int 0, .int 0, .int 0, .long 0, .int 0])), ((a 2), .inl ((k 1), 64, .inl (fun _ => 0))), ((a 0), .inl ((k 0), 5, .inl (fun _ => 0)))] s.heap := hP
  have hl := lv_entry ([.ref h0, .int nn]) (n := 3) (Nat.le_of_ble_eq_true rfl)
  rw [lg_entry_eq]
  generalize (lg_sl ([.ref h0, .int nn]) ++ List.replicate (3 - (lg_sl ([.ref h0, .int nn])).length) Slot.unset).toArray = ls at hl ⊢
  have hl : lv_has ls 3 [(0, .ref h0), (1, .int nn)] := hl
  refine lv_iload_n hx hb dX11_end_0 rfl (lv_at hl 1 rfl) ?_
  refine lv_if_lt (tgt := 25) hx hb dX11_end_1 (by decide) (fun c_1 => ?_) (fun c_1 => ?_)
  · have t_1 : (nn).toInt < 0 := toI_lt c_1 rfl (by decide)
    refine lv_iconst (v := (-1)) hx hb dX11_end_25 (by decide) ?_
    refine W.widen (k := 0) (n := 0) (by decide +kernel) (by decide +kernel) ?_
    exact W.iret (v := (-1)) hx hb hr (fun t ht hW => ⟨⟨(-1), (), rfl, by first | (left; (refine ⟨?_, ?_⟩ <;> (first | rfl | assumption | trivial | omega | (simp [c_1]; done) | (simp; omega)))) | (right; (refine ⟨?_, ?_⟩ <;> (first | rfl | assumption | trivial | omega | (simp [c_1]; done) | (simp; omega)))), by rw [ht]; exact hP.sub [] rfl, va_K.moved hW.alike (hK.sub [] rfl), hD.sub [] (by decide) rfl⟩, hS.F ht⟩) hS.2.2 dX11_end_26
  · have t_1 : ¬ (nn).toInt < 0 := toI_nlt c_1 rfl (by decide)
    refine lv_iload_n hx hb dX11_end_4 rfl (lv_at hl 1 rfl) ?_
    refine lv_bipush (v := 20) hx hb dX11_end_5 (by decide) ?_
    refine lv_icmp_gt (tgt := 25) hx hb dX11_end_7 (by decide) (fun c_7 => ?_) (fun c_7 => ?_)
    · have t_7 : (nn).toInt > 20 := toI_gt c_7 rfl (by decide)
      refine lv_iconst (v := (-1)) hx hb dX11_end_25 (by decide) ?_
      refine W.widen (k := 0) (n := 0) (by decide +kernel) (by decide +kernel) ?_
      exact W.iret (v := (-1)) hx hb hr (fun t ht hW => ⟨⟨(-1), (), rfl, by first | (left; (refine ⟨?_, ?_⟩ <;> (first | rfl | assumption | trivial | omega | (simp [c_1, c_7]; done) | (simp; omega)))) | (right; (refine ⟨?_, ?_⟩ <;> (first | rfl | assumption | trivial | omega | (simp [c_1, c_7]; done) | (simp; omega)))), by rw [ht]; exact hP.sub [] rfl, va_K.moved hW.alike (hK.sub [] rfl), hD.sub [] (by decide) rfl⟩, hS.F ht⟩) hS.2.2 dX11_end_26
    · have t_7 : ¬ (nn).toInt > 20 := toI_ngt c_7 rfl (by decide)
      refine lv_aload_n hx hb dX11_end_10 rfl (lv_at hl 0 rfl) ?_
      refine va_get (D := (dC, dI)) (ci := 11) (v := .ref (a 1)) (C := RX11) (T := TX11) (N := 11) hx hb hts iwsPX11_end_in11 hown hK hP 0 rfl rfl 1 (by decide) (hts (.fieldLink RX11 16 "OptimaWorks" "words" "LOptimaWorks$Words;") (by decide +kernel)) (fun _ h9 => h9) rfl dX11_end_11 ?_
      refine va_get (D := (dC, dI)) (ci := 9) (v := .int 0) (C := RX9) (T := TX9) (N := 9) hx hb hts iwsPX11_end_in9 hown hK hP 1 rfl rfl 1 (by decide) (hts (.fieldLink RX11 31 "OptimaWorks$Words" "length" "I") (by decide +kernel)) (fun _ h9 => h9) rfl dX11_end_14 ?_
      refine lv_iload_n hx hb dX11_end_17 rfl (lv_at hl 1 rfl) ?_
      refine lv_iadd hx hb dX11_end_18 ?_
      refine lv_topi (fun y1 hy1 => ?_)
      obtain rfl : nn = y1 := (hy1.trans (Int32.zero_add nn)).symm
      refine lv_sipush (v := 4000) hx hb dX11_end_19 (by decide) ?_
      refine lv_icmp_le (tgt := 27) hx hb dX11_end_22 (by decide) (fun c_22 => ?_) (fun c9 => False.elim (by have t9 : ¬ (nn).toInt ≤ 4000 := toI_nle c9 rfl (by decide); omega))
      have t_22 : (nn).toInt ≤ 4000 := toI_le c_22 rfl (by decide)
      refine lv_iconst (v := 0) hx hb dX11_end_27 (by decide) ?_
      refine lv_istore_n (lv' := [(2, .int 0), (0, .ref h0), (1, .int nn)]) hx hb dX11_end_28 rfl hl (by decide) rfl (fun ls hl => ?_)
      have hl := lv_sub hl [0, 1, 2] (l' := [(2, .int (nI 0)), (0, .ref h0), (1, .int nn)]) rfl
      refine (fun (loop : ∀ (n9 : Nat) (i : Nat) (g : Nat → Int32) (H : Heap) (locs : List Loc) (ls : Array Slot), ((i : Int) ≤ (nn).toInt) →  (20 < i + n9) → va_P (dC, dI) vwCl [(h0, .inr (11, [.ref (a 0), .ref (a 1), .ref (a 3), .ref (a 14), .int 0, .null, .null, .null, .null, .null, .null])), ((a 1), .inr (9, [.ref (a 2), .int (nI i), .int 0, .int (-1), .int 0, .int 0, .int 0, .long 0, .int 0])), ((a 2), .inl ((k 1), 64, .inl g)), ((a 0), .inl ((k 0), 5, .inl (fun _ => 0)))] H → va_D A [(h0, .inr (11, [.ref (a 0), .ref (a 1), .ref (a 3), .ref (a 14), .int 0, .null, .null, .null, .null, .null, .null])), ((a 1), .inr (9, [.ref (a 2), .int (nI i), .int 0, .int (-1), .int 0, .int 0, .int 0, .long 0, .int 0])), ((a 2), .inl ((k 1), 64, .inl g)), ((a 0), .inl ((k 0), 5, .inl (fun _ => 0)))] → va_S A s.heap H locs → lv_has ls 3 [(2, .int (nI i)), (0, .ref h0), (1, .int nn)] → W p l e _ s m _ below meth c H locs 0 0 _ (F0 m 29 ls [])) => loop (21) 0 (fun _ => 0) _ _ _ (by omega) (by omega) hP hD hS hl) ?_
      intro n9
      induction n9 with
      | zero => intro i g H locs ls hi hf9; exact False.elim (by omega)
      | succ n9 ih29 =>
        intro i g H locs ls hi hf29 hP hD hS hl
        refine lv_iload_n hx hb dX11_end_29 rfl (lv_at hl 0 rfl) ?_
        refine lv_iload_n hx hb dX11_end_30 rfl (lv_at hl 2 rfl) ?_
        refine lv_icmp_ge (tgt := 65) hx hb dX11_end_31 (by decide) (fun c_31 => ?_) (fun c_31 => ?_)
        · have t_31 : ((i : Nat) : Int) ≥ (nn).toInt := toI_ge c_31 (nI_toInt (by omega)) rfl
          refine lv_aload_n hx hb dX11_end_65 rfl (lv_at hl 1 rfl) ?_
          refine va_get (D := (dC, dI)) (ci := 11) (v := .ref (a 0)) (C := RX11) (T := TX11) (N := 11) hx hb hts iwsPX11_end_in11 hown hK hP 0 rfl rfl 0 (by decide) (hts (.fieldLink RX11 9 "OptimaWorks" "ready" "[I") (by decide +kernel)) (fun _ h9 => h9) rfl dX11_end_66 ?_
          refine lv_iconst (v := 0) hx hb dX11_end_69 (by decide) ?_
          have hPc := hP.sub (ws' := [((a 0), .inl ((k 0), 5, .inl (fun _ => 0)))]) [3] rfl
          have hDc := hD.sub (ws' := [((a 0), .inl ((k 0), 5, .inl (fun _ => 0)))]) [3] (by decide) rfl
          have hKc := hK.sub (tys' := [((k 0), .int)]) [1] rfl
          have hFc := va_free (wc := [((a 0), .inl ((k 0), 5, .inl (fun _ => 0)))]) hD hS hA [3] rfl
          refine va_callv (va_runS (As := [.ref (a 0), .int 0]) (rest := []) ⟨hx, hb, hml, hown, hts⟩ (p_J7_fill_53178 l dC dI (a 0) (k 0) 5 (by first | omega | decide | assumption | rfl) (fun _ => 0) 0 H.size) (va_cwS 2 hts gwsPX11_end_0 rfl rfl rfl (by decide +kernel) ⟨by decide +kernel, by decide +kernel⟩) ⟨fun a U g mk q => by obtain ⟨q0, q1, qP, qK, qD⟩ := q; exact ⟨q0, q1, qP, va_K.moved (u := U) (U := U.calling g mk a) (Vm.Alike.refl U.vm) qK, qD⟩, fun U hU9 hW => ⟨rfl, by rw [hU9], by rw [hU9]; exact hPc, va_K.moved hW.alike hKc, hDc.weaken (fun _ _ _ _ => trivial)⟩⟩ rfl rfl hl.1 rfl (lv_room (Nat.le_of_ble_eq_true rfl)) dX11_end_70 ⟨by decide +kernel, by decide +kernel⟩) hS (fun q _ h => hFc q h) hFc (fun u t H1 locs ht hvm hw hB hz1 hk1 hS => ?_)
          obtain ⟨g70, hwit70⟩ : ∃ w9, w9 = u := ⟨u, rfl⟩
          subst hwit70
          obtain ⟨hP1, hK1, hD1⟩ := hB
          rw [ht] at hP1
          have hK1 := va_K.moved hvm.symm hK1
          obtain ⟨hP, hD⟩ := va_join (wr := [(h0, .inr (11, [.ref (a 0), .ref (a 1), .ref (a 3), .ref (a 14), .int 0, .null, .null, .null, .null, .null, .null])), ((a 1), .inr (9, [.ref (a 2), .int (nI i), .int 0, .int (-1), .int 0, .int 0, .int 0, .long 0, .int 0])), ((a 2), .inl ((k 1), 64, .inl g))]) (w1 := [((a 0), .inl ((k 0), 5, .inl g70))]) hP hD [3] [0, 1, 2] rfl rfl (by decide) (by decide) hk1 hFc hP1 hD1
          generalize H1 = H at hP hS ⊢
          have hP : va_P (dC, dI) vwCl [(h0, .inr (11, [.ref (a 0), .ref (a 1), .ref (a 3), .ref (a 14), .int 0, .null, .null, .null, .null, .null, .null])), ((a 1), .inr (9, [.ref (a 2), .int (nI i), .int 0, .int (-1), .int 0, .int 0, .int 0, .long 0, .int 0])), ((a 2), .inl ((k 1), 64, .inl g)), ((a 0), .inl ((k 0), 5, .inl g70))] H := hP
          have hD : va_D A [(h0, .inr (11, [.ref (a 0), .ref (a 1), .ref (a 3), .ref (a 14), .int 0, .null, .null, .null, .null, .null, .null])), ((a 1), .inr (9, [.ref (a 2), .int (nI i), .int 0, .int (-1), .int 0, .int 0, .int 0, .long 0, .int 0])), ((a 2), .inl ((k 1), 64, .inl g)), ((a 0), .inl ((k 0), 5, .inl g70))] := hD
          have f70_0 := hw
          try dsimp only at f70_0
          refine lv_aload_n hx hb dX11_end_73 rfl (lv_at hl 1 rfl) ?_
          refine va_get (D := (dC, dI)) (ci := 11) (v := .ref (a 1)) (C := RX11) (T := TX11) (N := 11) hx hb hts iwsPX11_end_in11 hown hK hP 0 rfl rfl 1 (by decide) (hts (.fieldLink RX11 16 "OptimaWorks" "words" "LOptimaWorks$Words;") (by decide +kernel)) (fun _ h9 => h9) rfl dX11_end_74 ?_
          refine va_get (D := (dC, dI)) (ci := 9) (v := .int (nI i)) (C := RX9) (T := TX9) (N := 9) hx hb hts iwsPX11_end_in9 hown hK hP 1 rfl rfl 1 (by decide) (hts (.fieldLink RX11 31 "OptimaWorks$Words" "length" "I") (by decide +kernel)) (fun _ h9 => h9) rfl dX11_end_77 ?_
          refine W.widen (k := 0) (n := 0) (by decide +kernel) (by decide +kernel) ?_
          exact W.iret (v := (nI i)) hx hb hr (fun t ht hW => ⟨⟨(nI i), (), rfl, Or.inr ⟨by rw [nI_toInt (by omega)]; omega, by omega⟩, by rw [ht]; exact hP.sub [] rfl, va_K.moved hW.alike (hK.sub [] rfl), hD.sub [] (by decide) rfl⟩, hS.F ht⟩) hS.2.2 dX11_end_80
        · have t_31 : ¬ ((i : Nat) : Int) ≥ (nn).toInt := toI_nge c_31 (nI_toInt (by omega)) rfl
          refine lv_aload_n hx hb dX11_end_34 rfl (lv_at hl 1 rfl) ?_
          refine va_get (D := (dC, dI)) (ci := 11) (v := .ref (a 1)) (C := RX11) (T := TX11) (N := 11) hx hb hts iwsPX11_end_in11 hown hK hP 0 rfl rfl 1 (by decide) (hts (.fieldLink RX11 16 "OptimaWorks" "words" "LOptimaWorks$Words;") (by decide +kernel)) (fun _ h9 => h9) rfl dX11_end_35 ?_
          refine lv_aload_n hx hb dX11_end_38 rfl (lv_at hl 1 rfl) ?_
          refine va_get (D := (dC, dI)) (ci := 11) (v := .ref (a 0)) (C := RX11) (T := TX11) (N := 11) hx hb hts iwsPX11_end_in11 hown hK hP 0 rfl rfl 0 (by decide) (hts (.fieldLink RX11 9 "OptimaWorks" "ready" "[I") (by decide +kernel)) (fun _ h9 => h9) rfl dX11_end_39 ?_
          refine lv_iload_n hx hb dX11_end_42 rfl (lv_at hl 0 rfl) ?_
          refine lv_iconst (v := 2) hx hb dX11_end_43 (by decide) ?_
          refine lv_ishr hx hb dX11_end_44 ?_
          refine lv_topi (fun y2 hy2 => ?_)
          obtain rfl : (nI (i / 2 ^ 2)) = y2 := (hy2.trans (pk_shrN (by omega) _ 2 (by decide))).symm
          refine va_iald hx hb hK hP 3 1 rfl rfl (vp_in_nI (show (i / 2 ^ 2) < 5 by omega) (by omega)) dX11_end_45 ?_
          refine lv_bipush (v := 24) hx hb dX11_end_46 (by decide) ?_
          refine lv_bipush (v := 8) hx hb dX11_end_48 (by decide) ?_
          refine lv_iload_n hx hb dX11_end_50 rfl (lv_at hl 0 rfl) ?_
          refine lv_iconst (v := 3) hx hb dX11_end_51 (by decide) ?_
          refine lv_iand hx hb dX11_end_52 ?_
          refine lv_imul hx hb dX11_end_53 ?_
          refine lv_isub hx hb dX11_end_54 ?_
          refine lv_iushr hx hb dX11_end_55 rfl ?_
          have hPc := hP.sub (ws' := [((a 1), .inr (9, [.ref (a 2), .int (nI i), .int 0, .int (-1), .int 0, .int 0, .int 0, .long 0, .int 0])), ((a 2), .inl ((k 1), 64, .inl g))]) [1, 2] rfl
          have hDc := hD.sub (ws' := [((a 1), .inr (9, [.ref (a 2), .int (nI i), .int 0, .int (-1), .int 0, .int 0, .int 0, .long 0, .int 0])), ((a 2), .inl ((k 1), 64, .inl g))]) [1, 2] (by decide) rfl
          have hKc := hK.sub (tys' := [((k 1), .byte)]) [0] rfl
          have hFc := va_free (wc := [((a 1), .inr (9, [.ref (a 2), .int (nI i), .int 0, .int (-1), .int 0, .int 0, .int 0, .long 0, .int 0])), ((a 2), .inl ((k 1), 64, .inl g))]) hD hS hA [1, 2] rfl
          refine va_callv (va_runV (As := [.int ((((fun _ => 0) ((nI (i / 2 ^ 2))).toNatClampNeg)).toUInt32 >>> (((24 - (8 * ((nI i) &&& 3)))).toUInt32 &&& Int32.toUInt32 31)).toInt32]) (rest := []) ⟨hx, hb, hml, hown, hts⟩ (p_X9_append l dC dI (a 1) (a 2) i (by first | omega | decide | assumption | rfl) (.int 0) (.int (-1)) (.int 0) (.int 0) (.int 0) (.long 0) (.int 0) (k 1) g (((((fun _ => 0) ((nI (i / 2 ^ 2))).toNatClampNeg)).toUInt32 >>> (((24 - (8 * ((nI i) &&& 3)))).toUInt32 &&& Int32.toUInt32 31)).toInt32) H.size) (cwV 1 hts gwsPX11_end_1 rfl rfl rfl (by decide +kernel) ⟨by decide +kernel, by decide +kernel⟩) ⟨fun a U g mk q => by obtain ⟨q0, q1, qP, qK, qD⟩ := q; exact ⟨q0, q1, qP, va_K.moved (u := U) (U := U.calling g mk a) (Vm.Alike.refl U.vm) qK, qD⟩, va_recv hKc hPc (ci := 9) (q0 := 0) rfl rfl, fun U hU9 hW => ⟨rfl, by rw [hU9], by rw [hU9]; exact hPc, va_K.moved hW.alike hKc, hDc.weaken (fun _ _ _ _ => trivial)⟩⟩ rfl rfl hl.1 rfl (lv_room (Nat.le_of_ble_eq_true rfl)) dX11_end_56 ⟨by decide +kernel, by decide +kernel⟩) hS (fun q _ h => hFc q h) hFc (fun u t H1 locs ht hvm hw hB hz1 hk1 hS => ?_)
          obtain ⟨g56, hwit56⟩ : ∃ w9, w9 = u := ⟨u, rfl⟩
          subst hwit56
          obtain ⟨hP1, hK1, hD1⟩ := hB
          rw [ht] at hP1
          have hK1 := va_K.moved hvm.symm hK1
          obtain ⟨hP, hD⟩ := va_join (wr := [(h0, .inr (11, [.ref (a 0), .ref (a 1), .ref (a 3), .ref (a 14), .int 0, .null, .null, .null, .null, .null, .null])), ((a 0), .inl ((k 0), 5, .inl (fun _ => 0)))]) (w1 := [((a 1), .inr (9, [.ref (a 2), .int (nI (i + 1)), .int 0, .int (-1), .int 0, .int 0, .int 0, .long 0, .int 0])), ((a 2), .inl ((k 1), 64, .inl g56))]) hP hD [1, 2] [0, 3] rfl rfl (by decide) (by decide) hk1 hFc hP1 hD1
          generalize H1 = H at hP hS ⊢
          have hP : va_P (dC, dI) vwCl [(h0, .inr (11, [.ref (a 0), .ref (a 1), .ref (a 3), .ref (a 14), .int 0, .null, .null, .null, .null, .null, .null])), ((a 0), .inl ((k 0), 5, .inl (fun _ => 0))), ((a 1), .inr (9, [.ref (a 2), .int (nI (i + 1)), .int 0, .int (-1), .int 0, .int 0, .int 0, .long 0, .int 0])), ((a 2), .inl ((k 1), 64, .inl g56))] H := hP
          have hD : va_D A [(h0, .inr (11, [.ref (a 0), .ref (a 1), .ref (a 3), .ref (a 14), .int 0, .null, .null, .null, .null, .null, .null])), ((a 0), .inl ((k 0), 5, .inl (fun _ => 0))), ((a 1), .inr (9, [.ref (a 2), .int (nI (i + 1)), .int 0, .int (-1), .int 0, .int 0, .int 0, .long 0, .int 0])), ((a 2), .inl ((k 1), 64, .inl g56))] := hD
          refine lv_iinc (v := (nI (i + 1))) (lv' := [(2, .int (nI (i + 1))), (0, .ref h0), (1, .int nn)]) hx hb dX11_end_59 hl (k := 0) rfl (nI_add i 1) (by decide) rfl (fun ls hl => ?_)
          refine lv_goto (tgt := 29) hx hb dX11_end_62 (by decide) ?_
          have hl := lv_sub hl [0, 1, 2] (l' := [(2, .int (nI (i + 1))), (0, .ref h0), (1, .int nn)]) rfl
          have hP := hP.sub (ws' := [(h0, .inr (11, [.ref (a 0), .ref (a 1), .ref (a 3), .ref (a 14), .int 0, .null, .null, .null, .null, .null, .null])), ((a 1), .inr (9, [.ref (a 2), .int (nI (i + 1)), .int 0, .int (-1), .int 0, .int 0, .int 0, .long 0, .int 0])), ((a 2), .inl ((k 1), 64, .inl g56)), ((a 0), .inl ((k 0), 5, .inl (fun _ => 0)))]) [0, 2, 3, 1] rfl
          have hD := hD.sub (ws' := [(h0, .inr (11, [.ref (a 0), .ref (a 1), .ref (a 3), .ref (a 14), .int 0, .null, .null, .null, .null, .null, .null])), ((a 1), .inr (9, [.ref (a 2), .int (nI (i + 1)), .int 0, .int (-1), .int 0, .int 0, .int 0, .long 0, .int 0])), ((a 2), .inl ((k 1), 64, .inl g56)), ((a 0), .inl ((k 0), 5, .inl (fun _ => 0)))]) [0, 2, 3, 1] (by decide) rfl
          exact ih29 (i + 1) g56 _ _ _ (by omega) (by omega) hP hD hS hl
theorem dX1_needs_0 : decode cX1_needs 0 = .ok (.aload_n 0, 1) := by decide +kernel
theorem dX1_needs_1 : decode cX1_needs 1 = .ok (.getfield 52, 3) := by decide +kernel
theorem dX1_needs_4 : decode cX1_needs 4 = .ok (.iconst 2, 1) := by decide +kernel
theorem dX1_needs_5 : decode cX1_needs 5 = .ok (.aload_n 0, 1) := by decide +kernel
theorem dX1_needs_6 : decode cX1_needs 6 = .ok (.getfield 45, 3) := by decide +kernel
theorem dX1_needs_9 : decode cX1_needs 9 = .ok (.imul, 1) := by decide +kernel
theorem dX1_needs_10 : decode cX1_needs 10 = .ok (.iadd, 1) := by decide +kernel
theorem dX1_needs_11 : decode cX1_needs 11 = .ok (.ireturn, 1) := by decide +kernel
def wsPX1_needs : List Cond := .code yX1_needs cX1_needs 1 (some .int) :: ([.fieldLink RX1 52 "OptimaWorks$Model" "plainRows" "I", .fieldLink RX1 45 "OptimaWorks$Model" "variables" "I"] ++ wsX10)
theorem iwsPX1_needs_in1 : ∀ w ∈ wsX10, w ∈ wsPX1_needs := fun _ h => List.mem_cons_of_mem _ (List.mem_append_right _ h)
set_option maxHeartbeats 4000000 in
set_option maxRecDepth 100000 in
/-- needs() of an empty model -/
theorem p_X1_needs (l : Launch) (dC : Nat → ClassId) (dI : Nat → Nat → Nat) (w0 : Nat) (q0 : Value) (q2 : Value) (q3 : Value) (q4 : Value) (q5 : Value) (q6 : Value) (q7 : Value) (q8 : Value) (q9 : Value) (q11 : Value) (q12 : Value) (q13 : Value) (q14 : Value) (q15 : Value) (q16 : Value) (sz : Nat) : Met l yX1_needs wsPX1_needs ({ frames := 0, cells := 0, slots := 0, locals := 0 }) (va_Pc [.ref w0] (fun U => U.heap.size = sz ∧ va_P (dC, dI) vwCl [(w0, .inr (1, [q0, .int 0, q2, q3, q4, q5, q6, q7, q8, q9, .int 0, q11, q12, q13, q14, q15, q16]))] U.heap ∧ va_K (dC, dI) vwCl [] U ∧ va_D (fun _ => True) [(w0, .inr (1, [q0, .int 0, q2, q3, q4, q5, q6, q7, q8, q9, .int 0, q11, q12, q13, q14, q15, q16]))])) (va_Qi (fun (r : Int32) (u : Unit) => r = 0) (fun (u : Unit) t => va_P (dC, dI) vwCl [] t.heap ∧ va_K (dC, dI) vwCl [] t ∧ va_D (va_A [(w0, .inr (1, [q0, .int 0, q2, q3, q4, q5, q6, q7, q8, q9, .int 0, q11, q12, q13, q14, q15, q16]))] sz) []) (va_A [(w0, .inr (1, [q0, .int 0, q2, q3, q4, q5, q6, q7, q8, q9, .int 0, q11, q12, q13, q14, q15, q16]))] sz)) 0 0 (va_A [(w0, .inr (1, [q0, .int 0, q2, q3, q4, q5, q6, q7, q8, q9, .int 0, q11, q12, q13, q14, q15, q16]))] sz) := by
  refine Met.ofW (cc := cX1_needs) (maxL := 1) (ret := (some .int)) (by decide) rfl ?_
  intro p e s m args below meth c s₁ B hml hv
  obtain ⟨rfl, hsz, hP, hK, hD0⟩ := hv
  have hx := B.exec
  have hb := B.bytes
  have hr := B.returns
  have hts := atoms_spec (ws := wsPX1_needs) B.pre
  have hown : s.vm.findClass RX1 = some m.cls := findClass_of_methodNamed B.named
  have hlocks := B.notSynchronized
  subst hsz
  have hD := hD0.self (sz := s.heap.size)
  generalize hAe : va_A [(w0, .inr (1, [q0, .int 0, q2, q3, q4, q5, q6, q7, q8, q9, .int 0, q11, q12, q13, q14, q15, q16]))] s.heap.size = A at hD ⊢
  have hA : ∀ q : Nat, s.heap.size ≤ q → A q := fun q h => by rw [← hAe]; exact Or.inr h
  have hS : va_S A s.heap s.heap [] := va_S.rf
  have hP : va_P (dC, dI) vwCl [(w0, .inr (1, [q0, .int 0, q2, q3, q4, q5, q6, q7, q8, q9, .int 0, q11, q12, q13, q14, q15, q16]))] s.heap := hP
  have hl := lv_entry ([.ref w0]) (n := 1) (Nat.le_of_ble_eq_true rfl)
  rw [lg_entry_eq]
  generalize (lg_sl ([.ref w0]) ++ List.replicate (1 - (lg_sl ([.ref w0])).length) Slot.unset).toArray = ls at hl ⊢
  have hl : lv_has ls 1 [(0, .ref w0)] := hl
  refine lv_aload_n hx hb dX1_needs_0 rfl (lv_at hl 0 rfl) ?_
  refine va_get (D := (dC, dI)) (ci := 1) (v := .int 0) (C := RX1) (T := TX1) (N := 17) hx hb hts iwsPX1_needs_in1 hown hK hP 0 rfl rfl 10 (by decide) (hts (.fieldLink RX1 52 "OptimaWorks$Model" "plainRows" "I") (by decide +kernel)) (fun _ h9 => h9) rfl dX1_needs_1 ?_
  refine lv_iconst (v := 2) hx hb dX1_needs_4 (by decide) ?_
  refine lv_aload_n hx hb dX1_needs_5 rfl (lv_at hl 0 rfl) ?_
  refine va_get (D := (dC, dI)) (ci := 1) (v := .int 0) (C := RX1) (T := TX1) (N := 17) hx hb hts iwsPX1_needs_in1 hown hK hP 0 rfl rfl 1 (by decide) (hts (.fieldLink RX1 45 "OptimaWorks$Model" "variables" "I") (by decide +kernel)) (fun _ h9 => h9) rfl dX1_needs_6 ?_
  refine lv_imul hx hb dX1_needs_9 ?_
  refine lv_topi (fun y1 hy1 => ?_)
  obtain rfl : 0 = y1 := (hy1.trans (by decide)).symm
  refine lv_iadd hx hb dX1_needs_10 ?_
  refine lv_topi (fun y2 hy2 => ?_)
  obtain rfl : 0 = y2 := (hy2.trans (by decide)).symm
  refine W.widen (k := 0) (n := 0) (by decide +kernel) (by decide +kernel) ?_
  exact W.iret (v := 0) hx hb hr (fun t ht hW => ⟨⟨0, (), rfl, by (first | rfl | assumption | trivial | omega | (simp []; done) | (simp; omega)), by rw [ht]; exact hP.sub [] rfl, va_K.moved hW.alike (hK.sub [] rfl), hD.sub [] (by decide) rfl⟩, hS.F ht⟩) hS.2.2 dX1_needs_11
theorem dX11_about_0 : decode cX11_about 0 = .ok (.iload_n 1, 1) := by decide +kernel
theorem dX11_about_1 : decode cX11_about 1 = .ok (.tableswitch 122 0 7 #[47, 55, 60, 68, 76, 84, 92, 114], 47) := by decide +kernel
theorem dX11_about_48 : decode cX11_about 48 = .ok (.aload_n 0, 1) := by decide +kernel
theorem dX11_about_49 : decode cX11_about 49 = .ok (.getfield 16, 3) := by decide +kernel
theorem dX11_about_52 : decode cX11_about 52 = .ok (.getfield 31, 3) := by decide +kernel
theorem dX11_about_55 : decode cX11_about 55 = .ok (.ireturn, 1) := by decide +kernel
theorem dX11_about_56 : decode cX11_about 56 = .ok (.aload_n 0, 1) := by decide +kernel
theorem dX11_about_57 : decode cX11_about 57 = .ok (.getfield 138, 3) := by decide +kernel
theorem dX11_about_60 : decode cX11_about 60 = .ok (.ireturn, 1) := by decide +kernel
theorem dX11_about_61 : decode cX11_about 61 = .ok (.aload_n 0, 1) := by decide +kernel
theorem dX11_about_62 : decode cX11_about 62 = .ok (.getfield 23, 3) := by decide +kernel
theorem dX11_about_65 : decode cX11_about 65 = .ok (.getfield 84, 3) := by decide +kernel
theorem dX11_about_68 : decode cX11_about 68 = .ok (.ireturn, 1) := by decide +kernel
theorem dX11_about_69 : decode cX11_about 69 = .ok (.aload_n 0, 1) := by decide +kernel
theorem dX11_about_70 : decode cX11_about 70 = .ok (.getfield 23, 3) := by decide +kernel
theorem dX11_about_73 : decode cX11_about 73 = .ok (.getfield 106, 3) := by decide +kernel
theorem dX11_about_76 : decode cX11_about 76 = .ok (.ireturn, 1) := by decide +kernel
theorem dX11_about_77 : decode cX11_about 77 = .ok (.aload_n 0, 1) := by decide +kernel
theorem dX11_about_78 : decode cX11_about 78 = .ok (.getfield 23, 3) := by decide +kernel
theorem dX11_about_81 : decode cX11_about 81 = .ok (.getfield 123, 3) := by decide +kernel
theorem dX11_about_84 : decode cX11_about 84 = .ok (.ireturn, 1) := by decide +kernel
theorem dX11_about_85 : decode cX11_about 85 = .ok (.aload_n 0, 1) := by decide +kernel
theorem dX11_about_86 : decode cX11_about 86 = .ok (.getfield 23, 3) := by decide +kernel
theorem dX11_about_89 : decode cX11_about 89 = .ok (.getfield 147, 3) := by decide +kernel
theorem dX11_about_92 : decode cX11_about 92 = .ok (.ireturn, 1) := by decide +kernel
theorem dX11_about_93 : decode cX11_about 93 = .ok (.aload_n 0, 1) := by decide +kernel
theorem dX11_about_94 : decode cX11_about 94 = .ok (.getfield 23, 3) := by decide +kernel
theorem dX11_about_97 : decode cX11_about 97 = .ok (.getfield 80, 3) := by decide +kernel
theorem dX11_about_100 : decode cX11_about 100 = .ok (.ifCond .eq 13, 3) := by decide +kernel
theorem dX11_about_113 : decode cX11_about 113 = .ok (.iconst 0, 1) := by decide +kernel
theorem dX11_about_114 : decode cX11_about 114 = .ok (.ireturn, 1) := by decide +kernel
theorem dX11_about_115 : decode cX11_about 115 = .ok (.aload_n 0, 1) := by decide +kernel
theorem dX11_about_116 : decode cX11_about 116 = .ok (.getfield 23, 3) := by decide +kernel
theorem dX11_about_119 : decode cX11_about 119 = .ok (.invokevirtual 209, 3) := by decide +kernel
theorem dX11_about_122 : decode cX11_about 122 = .ok (.ireturn, 1) := by decide +kernel
theorem dX11_about_123 : decode cX11_about 123 = .ok (.iconst (-1), 1) := by decide +kernel
theorem dX11_about_124 : decode cX11_about 124 = .ok (.ireturn, 1) := by decide +kernel
def wsPX11_about : List Cond := .code yX11_about cX11_about 2 (some .int) :: ([.fieldLink RX11 16 "OptimaWorks" "words" "LOptimaWorks$Words;", .fieldLink RX11 31 "OptimaWorks$Words" "length" "I", .fieldLink RX11 138 "OptimaWorks" "sheetLength" "I", .fieldLink RX11 23 "OptimaWorks" "model" "LOptimaWorks$Model;", .fieldLink RX11 84 "OptimaWorks$Model" "variables" "I", .fieldLink RX11 106 "OptimaWorks$Model" "rows" "I", .fieldLink RX11 123 "OptimaWorks$Model" "goals" "I", .fieldLink RX11 147 "OptimaWorks$Model" "differents" "I", .fieldLink RX11 80 "OptimaWorks$Model" "stands" "Z"] ++ wsX10 ++ wsX90 ++ wsX110 ++ (wsV RX11 209 RX1 yX1_needs wsPX1_needs))
theorem iwsPX11_about_in1 : ∀ w ∈ wsX10, w ∈ wsPX11_about := fun _ h => List.mem_cons_of_mem _ (List.mem_append_left _ (List.mem_append_left _ (List.mem_append_left _ (List.mem_append_right _ h))))
theorem iwsPX11_about_in9 : ∀ w ∈ wsX90, w ∈ wsPX11_about := fun _ h => List.mem_cons_of_mem _ (List.mem_append_left _ (List.mem_append_left _ (List.mem_append_right _ h)))
theorem iwsPX11_about_in11 : ∀ w ∈ wsX110, w ∈ wsPX11_about := fun _ h => List.mem_cons_of_mem _ (List.mem_append_left _ (List.mem_append_right _ h))
theorem gwsPX11_about_0 : GoodIn wsPX11_about (wsV RX11 209 RX1 yX1_needs wsPX1_needs) := goodIn_sub (fun _ h => List.mem_cons_of_mem _ (List.mem_append_right _ h)) (by decide +kernel)
set_option maxHeartbeats 4000000 in
set_option maxRecDepth 100000 in
/-- about(what) -/
theorem p_X11_about (l : Launch) (dC : Nat → ClassId) (dI : Nat → Nat → Nat) (h0 : Nat) (a : Nat → Nat) (wh : Int32) (sz : Nat) : Met l yX11_about wsPX11_about ({ frames := 1, cells := 0, slots := 0, locals := 20 }) (va_Pc [.ref h0, .int wh] (fun U => U.heap.size = sz ∧ va_P (dC, dI) vwCl [(h0, .inr (11, [.ref (a 0), .ref (a 1), .ref (a 3), .ref (a 14), .int 0, .null, .null, .null, .null, .null, .null])), ((a 1), .inr (9, [.ref (a 2), .int 0, .int 0, .int (-1), .int 0, .int 0, .int 0, .long 0, .int 0])), ((a 3), .inr (1, [.int 0, .int 0, .int 0, .int 0, .int 0, .int 0, .ref (a 4), .ref (a 5), .ref (a 6), .ref (a 7), .int 0, .ref (a 8), .ref (a 9), .ref (a 10), .ref (a 11), .ref (a 12), .ref (a 13)]))] U.heap ∧ va_K (dC, dI) vwCl [] U ∧ va_D (fun _ => True) [(h0, .inr (11, [.ref (a 0), .ref (a 1), .ref (a 3), .ref (a 14), .int 0, .null, .null, .null, .null, .null, .null])), ((a 1), .inr (9, [.ref (a 2), .int 0, .int 0, .int (-1), .int 0, .int 0, .int 0, .long 0, .int 0])), ((a 3), .inr (1, [.int 0, .int 0, .int 0, .int 0, .int 0, .int 0, .ref (a 4), .ref (a 5), .ref (a 6), .ref (a 7), .int 0, .ref (a 8), .ref (a 9), .ref (a 10), .ref (a 11), .ref (a 12), .ref (a 13)]))])) (va_Qi (fun (r : Int32) (u : Unit) => (r = 0 ∧ (0 ≤ (wh).toInt ∧ (wh).toInt ≤ 7)) ∨ (r = (-1) ∧ ((wh).toInt < 0 ∨ 7 < (wh).toInt))) (fun (u : Unit) t => va_P (dC, dI) vwCl [] t.heap ∧ va_K (dC, dI) vwCl [] t ∧ va_D (va_A [(h0, .inr (11, [.ref (a 0), .ref (a 1), .ref (a 3), .ref (a 14), .int 0, .null, .null, .null, .null, .null, .null])), ((a 1), .inr (9, [.ref (a 2), .int 0, .int 0, .int (-1), .int 0, .int 0, .int 0, .long 0, .int 0])), ((a 3), .inr (1, [.int 0, .int 0, .int 0, .int 0, .int 0, .int 0, .ref (a 4), .ref (a 5), .ref (a 6), .ref (a 7), .int 0, .ref (a 8), .ref (a 9), .ref (a 10), .ref (a 11), .ref (a 12), .ref (a 13)]))] sz) []) (va_A [(h0, .inr (11, [.ref (a 0), .ref (a 1), .ref (a 3), .ref (a 14), .int 0, .null, .null, .null, .null, .null, .null])), ((a 1), .inr (9, [.ref (a 2), .int 0, .int 0, .int (-1), .int 0, .int 0, .int 0, .long 0, .int 0])), ((a 3), .inr (1, [.int 0, .int 0, .int 0, .int 0, .int 0, .int 0, .ref (a 4), .ref (a 5), .ref (a 6), .ref (a 7), .int 0, .ref (a 8), .ref (a 9), .ref (a 10), .ref (a 11), .ref (a 12), .ref (a 13)]))] sz)) 0 0 (va_A [(h0, .inr (11, [.ref (a 0), .ref (a 1), .ref (a 3), .ref (a 14), .int 0, .null, .null, .null, .null, .null, .null])), ((a 1), .inr (9, [.ref (a 2), .int 0, .int 0, .int (-1), .int 0, .int 0, .int 0, .long 0, .int 0])), ((a 3), .inr (1, [.int 0, .int 0, .int 0, .int 0, .int 0, .int 0, .ref (a 4), .ref (a 5), .ref (a 6), .ref (a 7), .int 0, .ref (a 8), .ref (a 9), .ref (a 10), .ref (a 11), .ref (a 12), .ref (a 13)]))] sz) := by
  refine Met.ofW (cc := cX11_about) (maxL := 2) (ret := (some .int)) (by decide) rfl ?_
  intro p e s m args below meth c s₁ B hml hv
  obtain ⟨rfl, hsz, hP, hK, hD0⟩ := hv
  have hx := B.exec
  have hb := B.bytes
  have hr := B.returns
  have hts := atoms_spec (ws := wsPX11_about) B.pre
  have hown : s.vm.findClass RX11 = some m.cls := findClass_of_methodNamed B.named
  have hlocks := B.notSynchronized
  subst hsz
  have hD := hD0.self (sz := s.heap.size)
  generalize hAe : va_A [(h0, .inr (11, [.ref (a 0), .ref (a 1), .ref (a 3), .ref (a 14), .int 0, .null, .null, .null, .null, .null, .null])), ((a 1), .inr (9, [.ref (a 2), .int 0, .int 0, .int (-1), .int 0, .int 0, .int 0, .long 0, .int 0])), ((a 3), .inr (1, [.int 0, .int 0, .int 0, .int 0, .int 0, .int 0, .ref (a 4), .ref (a 5), .ref (a 6), .ref (a 7), .int 0, .ref (a 8), .ref (a 9), .ref (a 10), .ref (a 11), .ref (a 12), .ref (a 13)]))] s.heap.size = A at hD ⊢
  have hA : ∀ q : Nat, s.heap.size ≤ q → A q := fun q h => by rw [← hAe]; exact Or.inr h
  have hS : va_S A s.heap s.heap [] := va_S.rf
  have hP : va_P (dC, dI) vwCl [(h0, .inr (11, [.ref (a 0), .ref (a 1), .ref (a 3), .ref (a 14), .int 0, .null, .null, .null, .null, .null, .null])), ((a 1), .inr (9, [.ref (a 2), .int 0, .int 0, .int (-1), .int 0, .int 0, .int 0, .long 0, .int 0])), ((a 3), .inr (1, [.int 0, .int 0, .int 0, .int 0, .int 0, .int 0, .ref (a 4), .ref (a 5), .ref (a 6), .ref (a 7), .int 0, .ref (a 8), .ref (a 9), .ref (a 10), .ref (a 11), .ref (a 12), .ref (a 13)]))] s.heap := hP
  have hl := lv_entry ([.ref h0, .int wh]) (n := 2) (Nat.le_of_ble_eq_true rfl)
  rw [lg_entry_eq]
  generalize (lg_sl ([.ref h0, .int wh]) ++ List.replicate (2 - (lg_sl ([.ref h0, .int wh])).length) Slot.unset).toArray = ls at hl ⊢
  have hl : lv_has ls 2 [(0, .ref h0), (1, .int wh)] := hl
  refine lv_iload_n hx hb dX11_about_0 rfl (lv_at hl 1 rfl) ?_
  by_cases s_1_0 : wh = 0
  · have ts_1_0 : (wh).toInt = 0 := toI_eq s_1_0 rfl (by decide)
    refine lv_tableIn (off := 47) (tgt := 48) hx hb dX11_about_1 (by rw [s_1_0]; decide) (by rw [s_1_0]; decide) (by rw [s_1_0]; decide) (by decide) ?_
    refine lv_aload_n hx hb dX11_about_48 rfl (lv_at hl 0 rfl) ?_
    refine va_get (D := (dC, dI)) (ci := 11) (v := .ref (a 1)) (C := RX11) (T := TX11) (N := 11) hx hb hts iwsPX11_about_in11 hown hK hP 0 rfl rfl 1 (by decide) (hts (.fieldLink RX11 16 "OptimaWorks" "words" "LOptimaWorks$Words;") (by decide +kernel)) (fun _ h9 => h9) rfl dX11_about_49 ?_
    refine va_get (D := (dC, dI)) (ci := 9) (v := .int 0) (C := RX9) (T := TX9) (N := 9) hx hb hts iwsPX11_about_in9 hown hK hP 1 rfl rfl 1 (by decide) (hts (.fieldLink RX11 31 "OptimaWorks$Words" "length" "I") (by decide +kernel)) (fun _ h9 => h9) rfl dX11_about_52 ?_
    refine W.widen (k := 0) (n := 0) (by decide +kernel) (by decide +kernel) ?_
    exact W.iret (v := 0) hx hb hr (fun t ht hW => ⟨⟨0, (), rfl, by first | (left; (refine ⟨?_, ?_⟩ <;> (first | rfl | assumption | trivial | omega | (simp []; done) | (simp; omega)))) | (right; (refine ⟨?_, ?_⟩ <;> (first | rfl | assumption | trivial | omega | (simp []; done) | (simp; omega)))), by rw [ht]; exact hP.sub [] rfl, va_K.moved hW.alike (hK.sub [] rfl), hD.sub [] (by decide) rfl⟩, hS.F ht⟩) hS.2.2 dX11_about_55
  · have ts_1_0 : ¬ (wh).toInt = 0 := toI_neq s_1_0 rfl (by decide)
    by_cases s_1_1 : wh = 1
    · have ts_1_1 : (wh).toInt = 1 := toI_eq s_1_1 rfl (by decide)
      refine lv_tableIn (off := 55) (tgt := 56) hx hb dX11_about_1 (by rw [s_1_1]; decide) (by rw [s_1_1]; decide) (by rw [s_1_1]; decide) (by decide) ?_
      refine lv_aload_n hx hb dX11_about_56 rfl (lv_at hl 0 rfl) ?_
      refine va_get (D := (dC, dI)) (ci := 11) (v := .int 0) (C := RX11) (T := TX11) (N := 11) hx hb hts iwsPX11_about_in11 hown hK hP 0 rfl rfl 4 (by decide) (hts (.fieldLink RX11 138 "OptimaWorks" "sheetLength" "I") (by decide +kernel)) (fun _ h9 => h9) rfl dX11_about_57 ?_
      refine W.widen (k := 0) (n := 0) (by decide +kernel) (by decide +kernel) ?_
      exact W.iret (v := 0) hx hb hr (fun t ht hW => ⟨⟨0, (), rfl, by first | (left; (refine ⟨?_, ?_⟩ <;> (first | rfl | assumption | trivial | omega | (simp []; done) | (simp; omega)))) | (right; (refine ⟨?_, ?_⟩ <;> (first | rfl | assumption | trivial | omega | (simp []; done) | (simp; omega)))), by rw [ht]; exact hP.sub [] rfl, va_K.moved hW.alike (hK.sub [] rfl), hD.sub [] (by decide) rfl⟩, hS.F ht⟩) hS.2.2 dX11_about_60
    · have ts_1_1 : ¬ (wh).toInt = 1 := toI_neq s_1_1 rfl (by decide)
      by_cases s_1_2 : wh = 2
      · have ts_1_2 : (wh).toInt = 2 := toI_eq s_1_2 rfl (by decide)
        refine lv_tableIn (off := 60) (tgt := 61) hx hb dX11_about_1 (by rw [s_1_2]; decide) (by rw [s_1_2]; decide) (by rw [s_1_2]; decide) (by decide) ?_
        refine lv_aload_n hx hb dX11_about_61 rfl (lv_at hl 0 rfl) ?_
        refine va_get (D := (dC, dI)) (ci := 11) (v := .ref (a 3)) (C := RX11) (T := TX11) (N := 11) hx hb hts iwsPX11_about_in11 hown hK hP 0 rfl rfl 2 (by decide) (hts (.fieldLink RX11 23 "OptimaWorks" "model" "LOptimaWorks$Model;") (by decide +kernel)) (fun _ h9 => h9) rfl dX11_about_62 ?_
        refine va_get (D := (dC, dI)) (ci := 1) (v := .int 0) (C := RX1) (T := TX1) (N := 17) hx hb hts iwsPX11_about_in1 hown hK hP 2 rfl rfl 1 (by decide) (hts (.fieldLink RX11 84 "OptimaWorks$Model" "variables" "I") (by decide +kernel)) (fun _ h9 => h9) rfl dX11_about_65 ?_
        refine W.widen (k := 0) (n := 0) (by decide +kernel) (by decide +kernel) ?_
        exact W.iret (v := 0) hx hb hr (fun t ht hW => ⟨⟨0, (), rfl, by first | (left; (refine ⟨?_, ?_⟩ <;> (first | rfl | assumption | trivial | omega | (simp []; done) | (simp; omega)))) | (right; (refine ⟨?_, ?_⟩ <;> (first | rfl | assumption | trivial | omega | (simp []; done) | (simp; omega)))), by rw [ht]; exact hP.sub [] rfl, va_K.moved hW.alike (hK.sub [] rfl), hD.sub [] (by decide) rfl⟩, hS.F ht⟩) hS.2.2 dX11_about_68
      · have ts_1_2 : ¬ (wh).toInt = 2 := toI_neq s_1_2 rfl (by decide)
        by_cases s_1_3 : wh = 3
        · have ts_1_3 : (wh).toInt = 3 := toI_eq s_1_3 rfl (by decide)
          refine lv_tableIn (off := 68) (tgt := 69) hx hb dX11_about_1 (by rw [s_1_3]; decide) (by rw [s_1_3]; decide) (by rw [s_1_3]; decide) (by decide) ?_
          refine lv_aload_n hx hb dX11_about_69 rfl (lv_at hl 0 rfl) ?_
          refine va_get (D := (dC, dI)) (ci := 11) (v := .ref (a 3)) (C := RX11) (T := TX11) (N := 11) hx hb hts iwsPX11_about_in11 hown hK hP 0 rfl rfl 2 (by decide) (hts (.fieldLink RX11 23 "OptimaWorks" "model" "LOptimaWorks$Model;") (by decide +kernel)) (fun _ h9 => h9) rfl dX11_about_70 ?_
          refine va_get (D := (dC, dI)) (ci := 1) (v := .int 0) (C := RX1) (T := TX1) (N := 17) hx hb hts iwsPX11_about_in1 hown hK hP 2 rfl rfl 2 (by decide) (hts (.fieldLink RX11 106 "OptimaWorks$Model" "rows" "I") (by decide +kernel)) (fun _ h9 => h9) rfl dX11_about_73 ?_
          refine W.widen (k := 0) (n := 0) (by decide +kernel) (by decide +kernel) ?_
          exact W.iret (v := 0) hx hb hr (fun t ht hW => ⟨⟨0, (), rfl, by first | (left; (refine ⟨?_, ?_⟩ <;> (first | rfl | assumption | trivial | omega | (simp []; done) | (simp; omega)))) | (right; (refine ⟨?_, ?_⟩ <;> (first | rfl | assumption | trivial | omega | (simp []; done) | (simp; omega)))), by rw [ht]; exact hP.sub [] rfl, va_K.moved hW.alike (hK.sub [] rfl), hD.sub [] (by decide) rfl⟩, hS.F ht⟩) hS.2.2 dX11_about_76
        · have ts_1_3 : ¬ (wh).toInt = 3 := toI_neq s_1_3 rfl (by decide)
          by_cases s_1_4 : wh = 4
          · have ts_1_4 : (wh).toInt = 4 := toI_eq s_1_4 rfl (by decide)
            refine lv_tableIn (off := 76) (tgt := 77) hx hb dX11_about_1 (by rw [s_1_4]; decide) (by rw [s_1_4]; decide) (by rw [s_1_4]; decide) (by decide) ?_
            refine lv_aload_n hx hb dX11_about_77 rfl (lv_at hl 0 rfl) ?_
            refine va_get (D := (dC, dI)) (ci := 11) (v := .ref (a 3)) (C := RX11) (T := TX11) (N := 11) hx hb hts iwsPX11_about_in11 hown hK hP 0 rfl rfl 2 (by decide) (hts (.fieldLink RX11 23 "OptimaWorks" "model" "LOptimaWorks$Model;") (by decide +kernel)) (fun _ h9 => h9) rfl dX11_about_78 ?_
            refine va_get (D := (dC, dI)) (ci := 1) (v := .int 0) (C := RX1) (T := TX1) (N := 17) hx hb hts iwsPX11_about_in1 hown hK hP 2 rfl rfl 3 (by decide) (hts (.fieldLink RX11 123 "OptimaWorks$Model" "goals" "I") (by decide +kernel)) (fun _ h9 => h9) rfl dX11_about_81 ?_
            refine W.widen (k := 0) (n := 0) (by decide +kernel) (by decide +kernel) ?_
            exact W.iret (v := 0) hx hb hr (fun t ht hW => ⟨⟨0, (), rfl, by first | (left; (refine ⟨?_, ?_⟩ <;> (first | rfl | assumption | trivial | omega | (simp []; done) | (simp; omega)))) | (right; (refine ⟨?_, ?_⟩ <;> (first | rfl | assumption | trivial | omega | (simp []; done) | (simp; omega)))), by rw [ht]; exact hP.sub [] rfl, va_K.moved hW.alike (hK.sub [] rfl), hD.sub [] (by decide) rfl⟩, hS.F ht⟩) hS.2.2 dX11_about_84
          · have ts_1_4 : ¬ (wh).toInt = 4 := toI_neq s_1_4 rfl (by decide)
            by_cases s_1_5 : wh = 5
            · have ts_1_5 : (wh).toInt = 5 := toI_eq s_1_5 rfl (by decide)
              refine lv_tableIn (off := 84) (tgt := 85) hx hb dX11_about_1 (by rw [s_1_5]; decide) (by rw [s_1_5]; decide) (by rw [s_1_5]; decide) (by decide) ?_
              refine lv_aload_n hx hb dX11_about_85 rfl (lv_at hl 0 rfl) ?_
              refine va_get (D := (dC, dI)) (ci := 11) (v := .ref (a 3)) (C := RX11) (T := TX11) (N := 11) hx hb hts iwsPX11_about_in11 hown hK hP 0 rfl rfl 2 (by decide) (hts (.fieldLink RX11 23 "OptimaWorks" "model" "LOptimaWorks$Model;") (by decide +kernel)) (fun _ h9 => h9) rfl dX11_about_86 ?_
              refine va_get (D := (dC, dI)) (ci := 1) (v := .int 0) (C := RX1) (T := TX1) (N := 17) hx hb hts iwsPX11_about_in1 hown hK hP 2 rfl rfl 4 (by decide) (hts (.fieldLink RX11 147 "OptimaWorks$Model" "differents" "I") (by decide +kernel)) (fun _ h9 => h9) rfl dX11_about_89 ?_
              refine W.widen (k := 0) (n := 0) (by decide +kernel) (by decide +kernel) ?_
              exact W.iret (v := 0) hx hb hr (fun t ht hW => ⟨⟨0, (), rfl, by first | (left; (refine ⟨?_, ?_⟩ <;> (first | rfl | assumption | trivial | omega | (simp []; done) | (simp; omega)))) | (right; (refine ⟨?_, ?_⟩ <;> (first | rfl | assumption | trivial | omega | (simp []; done) | (simp; omega)))), by rw [ht]; exact hP.sub [] rfl, va_K.moved hW.alike (hK.sub [] rfl), hD.sub [] (by decide) rfl⟩, hS.F ht⟩) hS.2.2 dX11_about_92
            · have ts_1_5 : ¬ (wh).toInt = 5 := toI_neq s_1_5 rfl (by decide)
              by_cases s_1_6 : wh = 6
              · have ts_1_6 : (wh).toInt = 6 := toI_eq s_1_6 rfl (by decide)
                refine lv_tableIn (off := 92) (tgt := 93) hx hb dX11_about_1 (by rw [s_1_6]; decide) (by rw [s_1_6]; decide) (by rw [s_1_6]; decide) (by decide) ?_
                refine lv_aload_n hx hb dX11_about_93 rfl (lv_at hl 0 rfl) ?_
                refine va_get (D := (dC, dI)) (ci := 11) (v := .ref (a 3)) (C := RX11) (T := TX11) (N := 11) hx hb hts iwsPX11_about_in11 hown hK hP 0 rfl rfl 2 (by decide) (hts (.fieldLink RX11 23 "OptimaWorks" "model" "LOptimaWorks$Model;") (by decide +kernel)) (fun _ h9 => h9) rfl dX11_about_94 ?_
                refine va_get (D := (dC, dI)) (ci := 1) (v := .int 0) (C := RX1) (T := TX1) (N := 17) hx hb hts iwsPX11_about_in1 hown hK hP 2 rfl rfl 0 (by decide) (hts (.fieldLink RX11 80 "OptimaWorks$Model" "stands" "Z") (by decide +kernel)) (fun _ h9 => h9) rfl dX11_about_97 ?_
                refine lv_if_eq (tgt := 113) hx hb dX11_about_100 (by decide) (fun _ => ?_) (fun c9 => absurd (by decide) c9)
                refine lv_iconst (v := 0) hx hb dX11_about_113 (by decide) ?_
                refine W.widen (k := 0) (n := 0) (by decide +kernel) (by decide +kernel) ?_
                exact W.iret (v := 0) hx hb hr (fun t ht hW => ⟨⟨0, (), rfl, by first | (left; (refine ⟨?_, ?_⟩ <;> (first | rfl | assumption | trivial | omega | (simp []; done) | (simp; omega)))) | (right; (refine ⟨?_, ?_⟩ <;> (first | rfl | assumption | trivial | omega | (simp []; done) | (simp; omega)))), by rw [ht]; exact hP.sub [] rfl, va_K.moved hW.alike (hK.sub [] rfl), hD.sub [] (by decide) rfl⟩, hS.F ht⟩) hS.2.2 dX11_about_114
              · have ts_1_6 : ¬ (wh).toInt = 6 := toI_neq s_1_6 rfl (by decide)
                by_cases s_1_7 : wh = 7
                · have ts_1_7 : (wh).toInt = 7 := toI_eq s_1_7 rfl (by decide)
                  refine lv_tableIn (off := 114) (tgt := 115) hx hb dX11_about_1 (by rw [s_1_7]; decide) (by rw [s_1_7]; decide) (by rw [s_1_7]; decide) (by decide) ?_
                  refine lv_aload_n hx hb dX11_about_115 rfl (lv_at hl 0 rfl) ?_
                  refine va_get (D := (dC, dI)) (ci := 11) (v := .ref (a 3)) (C := RX11) (T := TX11) (N := 11) hx hb hts iwsPX11_about_in11 hown hK hP 0 rfl rfl 2 (by decide) (hts (.fieldLink RX11 23 "OptimaWorks" "model" "LOptimaWorks$Model;") (by decide +kernel)) (fun _ h9 => h9) rfl dX11_about_116 ?_
                  have hPc := hP.sub (ws' := [((a 3), .inr (1, [.int 0, .int 0, .int 0, .int 0, .int 0, .int 0, .ref (a 4), .ref (a 5), .ref (a 6), .ref (a 7), .int 0, .ref (a 8), .ref (a 9), .ref (a 10), .ref (a 11), .ref (a 12), .ref (a 13)]))]) [2] rfl
                  have hDc := hD.sub (ws' := [((a 3), .inr (1, [.int 0, .int 0, .int 0, .int 0, .int 0, .int 0, .ref (a 4), .ref (a 5), .ref (a 6), .ref (a 7), .int 0, .ref (a 8), .ref (a 9), .ref (a 10), .ref (a 11), .ref (a 12), .ref (a 13)]))]) [2] (by decide) rfl
                  have hKc := hK.sub (tys' := []) [] rfl
                  have hFc := va_free (wc := [((a 3), .inr (1, [.int 0, .int 0, .int 0, .int 0, .int 0, .int 0, .ref (a 4), .ref (a 5), .ref (a 6), .ref (a 7), .int 0, .ref (a 8), .ref (a 9), .ref (a 10), .ref (a 11), .ref (a 12), .ref (a 13)]))]) hD hS hA [2] rfl
                  refine va_calli (va_runV (As := []) (rest := []) ⟨hx, hb, hml, hown, hts⟩ (p_X1_needs l dC dI (a 3) (.int 0) (.int 0) (.int 0) (.int 0) (.int 0) (.ref (a 4)) (.ref (a 5)) (.ref (a 6)) (.ref (a 7)) (.ref (a 8)) (.ref (a 9)) (.ref (a 10)) (.ref (a 11)) (.ref (a 12)) (.ref (a 13)) s.heap.size) (cwV 0 hts gwsPX11_about_0 rfl rfl rfl (by decide +kernel) ⟨by decide +kernel, by decide +kernel⟩) ⟨fun a U g mk q => by obtain ⟨q0, q1, qP, qK, qD⟩ := q; exact ⟨q0, q1, qP, va_K.moved (u := U) (U := U.calling g mk a) (Vm.Alike.refl U.vm) qK, qD⟩, va_recv hKc hPc (ci := 1) (q0 := 0) rfl rfl, fun U hU9 hW => ⟨rfl, by rw [hU9], by rw [hU9]; exact hPc, va_K.moved hW.alike hKc, hDc.weaken (fun _ _ _ _ => trivial)⟩⟩ rfl rfl hl.1 rfl (lv_room (Nat.le_of_ble_eq_true rfl)) dX11_about_119 ⟨by decide +kernel, by decide +kernel⟩) hS (fun q _ h => hFc q h) hFc (fun r119 u t H1 locs ht hvm hw hB hz1 hk1 hS => ?_)
                  obtain ⟨hP1, hK1, hD1⟩ := hB
                  rw [ht] at hP1
                  have hK1 := va_K.moved hvm.symm hK1
                  obtain ⟨hP, hD⟩ := va_join (wr := [(h0, .inr (11, [.ref (a 0), .ref (a 1), .ref (a 3), .ref (a 14), .int 0, .null, .null, .null, .null, .null, .null])), ((a 1), .inr (9, [.ref (a 2), .int 0, .int 0, .int (-1), .int 0, .int 0, .int 0, .long 0, .int 0]))]) (w1 := []) hP hD [2] [0, 1] rfl rfl (by decide) (by decide) hk1 hFc hP1 hD1
                  generalize H1 = H at hP hS ⊢
                  have hP : va_P (dC, dI) vwCl [(h0, .inr (11, [.ref (a 0), .ref (a 1), .ref (a 3), .ref (a 14), .int 0, .null, .null, .null, .null, .null, .null])), ((a 1), .inr (9, [.ref (a 2), .int 0, .int 0, .int (-1), .int 0, .int 0, .int 0, .long 0, .int 0]))] H := hP
                  have hD : va_D A [(h0, .inr (11, [.ref (a 0), .ref (a 1), .ref (a 3), .ref (a 14), .int 0, .null, .null, .null, .null, .null, .null])), ((a 1), .inr (9, [.ref (a 2), .int 0, .int 0, .int (-1), .int 0, .int 0, .int 0, .long 0, .int 0]))] := hD
                  obtain rfl := hw
                  refine W.widen (k := 0) (n := 0) (by decide +kernel) (by decide +kernel) ?_
                  exact W.iret (v := 0) hx hb hr (fun t ht hW => ⟨⟨0, (), rfl, by first | (left; (refine ⟨?_, ?_⟩ <;> (first | rfl | assumption | trivial | omega | (simp []; done) | (simp; omega)))) | (right; (refine ⟨?_, ?_⟩ <;> (first | rfl | assumption | trivial | omega | (simp []; done) | (simp; omega)))), by rw [ht]; exact hP.sub [] rfl, va_K.moved hW.alike (hK.sub [] rfl), hD.sub [] (by decide) rfl⟩, hS.F ht⟩) hS.2.2 dX11_about_122
                · have ts_1_7 : ¬ (wh).toInt = 7 := toI_neq s_1_7 rfl (by decide)
                  refine lv_tableOut (tgt := 123) hx hb dX11_about_1 (by have := lv_neT s_1_0 (show Int32.toInt 0 = 0 by decide); have := lv_neT s_1_1 (show Int32.toInt 1 = 1 by decide); have := lv_neT s_1_2 (show Int32.toInt 2 = 2 by decide); have := lv_neT s_1_3 (show Int32.toInt 3 = 3 by decide); have := lv_neT s_1_4 (show Int32.toInt 4 = 4 by decide); have := lv_neT s_1_5 (show Int32.toInt 5 = 5 by decide); have := lv_neT s_1_6 (show Int32.toInt 6 = 6 by decide); have := lv_neT s_1_7 (show Int32.toInt 7 = 7 by decide); omega) (by decide) ?_
                  refine lv_iconst (v := (-1)) hx hb dX11_about_123 (by decide) ?_
                  refine W.widen (k := 0) (n := 0) (by decide +kernel) (by decide +kernel) ?_
                  exact W.iret (v := (-1)) hx hb hr (fun t ht hW => ⟨⟨(-1), (), rfl, by first | (left; (refine ⟨?_, ?_⟩ <;> (first | rfl | assumption | trivial | omega | (simp []; done) | (simp; omega)))) | (right; (refine ⟨?_, ?_⟩ <;> (first | rfl | assumption | trivial | omega | (simp []; done) | (simp; omega)))), by rw [ht]; exact hP.sub [] rfl, va_K.moved hW.alike (hK.sub [] rfl), hD.sub [] (by decide) rfl⟩, hS.F ht⟩) hS.2.2 dX11_about_124
theorem dX11_theValues_0 : decode cX11_theValues 0 = .ok (.aload_n 0, 1) := by decide +kernel
theorem dX11_theValues_1 : decode cX11_theValues 1 = .ok (.getfield 337, 3) := by decide +kernel
theorem dX11_theValues_4 : decode cX11_theValues 4 = .ok (.ifnonnull 14, 3) := by decide +kernel
theorem dX11_theValues_7 : decode cX11_theValues 7 = .ok (.aload_n 0, 1) := by decide +kernel
theorem dX11_theValues_8 : decode cX11_theValues 8 = .ok (.new 341, 3) := by decide +kernel
theorem dX11_theValues_11 : decode cX11_theValues 11 = .ok (.dup, 1) := by decide +kernel
theorem dX11_theValues_12 : decode cX11_theValues 12 = .ok (.invokespecial 343, 3) := by decide +kernel
theorem dX11_theValues_15 : decode cX11_theValues 15 = .ok (.putfield 337, 3) := by decide +kernel
theorem dX11_theValues_18 : decode cX11_theValues 18 = .ok (.aload_n 0, 1) := by decide +kernel
theorem dX11_theValues_19 : decode cX11_theValues 19 = .ok (.getfield 337, 3) := by decide +kernel
theorem dX11_theValues_22 : decode cX11_theValues 22 = .ok (.areturn, 1) := by decide +kernel
def wsPX11_theValues : List Cond := .code yX11_theValues cX11_theValues 1 (some (.object "OptimaWorks$ValueDesk")) :: ([.fieldLink RX11 337 "OptimaWorks" "values" "LOptimaWorks$ValueDesk;", .classLink RX11 341 RX7, .instantiable RX7 20, .initialized RX7, .instanceMethod yX7_init] ++ wsX70 ++ wsX110 ++ (wsX7_init))
theorem iwsPX11_theValues_in7 : ∀ w ∈ wsX70, w ∈ wsPX11_theValues := fun _ h => List.mem_cons_of_mem _ (List.mem_append_left _ (List.mem_append_left _ (List.mem_append_right _ h)))
theorem iwsPX11_theValues_in11 : ∀ w ∈ wsX110, w ∈ wsPX11_theValues := fun _ h => List.mem_cons_of_mem _ (List.mem_append_left _ (List.mem_append_right _ h))
theorem gwsPX11_theValues_0 : GoodIn wsPX11_theValues (wsX7_init) := goodIn_sub (fun _ h => List.mem_cons_of_mem _ (List.mem_append_right _ h)) (by decide +kernel)
set_option maxHeartbeats 4000000 in
set_option maxRecDepth 100000 in
/-- theValues() on a fresh object: a desk comes -/
theorem p_X11_theValues (l : Launch) (dC : Nat → ClassId) (dI : Nat → Nat → Nat) (h0 : Nat) (a : Nat → Nat) (sz : Nat) : Met l yX11_theValues wsPX11_theValues ({ frames := 2, cells := 15, slots := 1408, locals := 32 }) (va_Pc [.ref h0] (fun U => U.heap.size = sz ∧ va_P (dC, dI) vwCl [(h0, .inr (11, [.ref (a 0), .ref (a 1), .ref (a 3), .ref (a 14), .int 0, .null, .null, .null, .null, .null, .null]))] U.heap ∧ va_K (dC, dI) vwCl [] U ∧ va_D (fun _ => True) [(h0, .inr (11, [.ref (a 0), .ref (a 1), .ref (a 3), .ref (a 14), .int 0, .null, .null, .null, .null, .null, .null]))] ∧ va_Nw (.methodLinkNest RX11 343 yX7_init RX11) U)) (va_Qr (fun (u : (Nat → Nat) × (Nat → ClassId)) => True) (fun (u : (Nat → Nat) × (Nat → ClassId)) ra t => va_P (dC, dI) vwCl [(h0, .inr (11, [.ref (a 0), .ref (a 1), .ref (a 3), .ref (a 14), .int 0, .null, .null, .null, .ref ra, .null, .null])), (ra, .inr (7, [.int 0, .int 0, .ref ((u.1) 0), .ref ((u.1) 1), .ref ((u.1) 2), .ref ((u.1) 3), .ref ((u.1) 4), .ref ((u.1) 5), .ref ((u.1) 6), .ref ((u.1) 7), .ref ((u.1) 8), .int (-1), .int 0, .ref ((u.1) 9), .ref ((u.1) 10), .ref ((u.1) 11), .ref ((u.1) 12), .ref ((u.1) 13), .int 0, .int 0])), (((u.1) 0), .inl (((u.2) 0), 16, .inl (fun _ => 0))), (((u.1) 1), .inl (((u.2) 1), 10, .inl (fun _ => 0))), (((u.1) 2), .inl (((u.2) 2), 12, .inl (fun _ => 0))), (((u.1) 3), .inl (((u.2) 3), 12, .inl (fun _ => 0))), (((u.1) 4), .inl (((u.2) 4), 12, .inl (fun _ => 0))), (((u.1) 5), .inl (((u.2) 5), 12, .inl (fun _ => 0))), (((u.1) 6), .inl (((u.2) 6), 192, .inl (fun _ => 0))), (((u.1) 7), .inl (((u.2) 7), 12, .inl (fun _ => 0))), (((u.1) 8), .inl (((u.2) 8), 10, .inl (fun _ => 0))), (((u.1) 9), .inl (((u.2) 9), 33, .inr (.inl (fun _ => 0)))), (((u.1) 10), .inl (((u.2) 10), 33, .inr (.inl (fun _ => 0)))), (((u.1) 11), .inl (((u.2) 11), 1024, .inl (fun _ => 0))), (((u.1) 12), .inl (((u.2) 12), 10, .inl (fun _ => 0))), (((u.1) 13), .inl (((u.2) 13), 0, .inr (.inl (fun _ => 0))))] t.heap ∧ va_K (dC, dI) vwCl [(((u.2) 0), .int), (((u.2) 1), .int), (((u.2) 2), .int), (((u.2) 3), .int), (((u.2) 4), .int), (((u.2) 5), .int), (((u.2) 6), .int), (((u.2) 7), .int), (((u.2) 8), .int), (((u.2) 9), .long), (((u.2) 10), .long), (((u.2) 11), .int), (((u.2) 12), .int), (((u.2) 13), .long)] t ∧ va_D (va_A [(h0, .inr (11, [.ref (a 0), .ref (a 1), .ref (a 3), .ref (a 14), .int 0, .null, .null, .null, .null, .null, .null]))] sz) [(h0, .inr (11, [.ref (a 0), .ref (a 1), .ref (a 3), .ref (a 14), .int 0, .null, .null, .null, .ref ra, .null, .null])), (ra, .inr (7, [.int 0, .int 0, .ref ((u.1) 0), .ref ((u.1) 1), .ref ((u.1) 2), .ref ((u.1) 3), .ref ((u.1) 4), .ref ((u.1) 5), .ref ((u.1) 6), .ref ((u.1) 7), .ref ((u.1) 8), .int (-1), .int 0, .ref ((u.1) 9), .ref ((u.1) 10), .ref ((u.1) 11), .ref ((u.1) 12), .ref ((u.1) 13), .int 0, .int 0])), (((u.1) 0), .inl (((u.2) 0), 16, .inl (fun _ => 0))), (((u.1) 1), .inl (((u.2) 1), 10, .inl (fun _ => 0))), (((u.1) 2), .inl (((u.2) 2), 12, .inl (fun _ => 0))), (((u.1) 3), .inl (((u.2) 3), 12, .inl (fun _ => 0))), (((u.1) 4), .inl (((u.2) 4), 12, .inl (fun _ => 0))), (((u.1) 5), .inl (((u.2) 5), 12, .inl (fun _ => 0))), (((u.1) 6), .inl (((u.2) 6), 192, .inl (fun _ => 0))), (((u.1) 7), .inl (((u.2) 7), 12, .inl (fun _ => 0))), (((u.1) 8), .inl (((u.2) 8), 10, .inl (fun _ => 0))), (((u.1) 9), .inl (((u.2) 9), 33, .inr (.inl (fun _ => 0)))), (((u.1) 10), .inl (((u.2) 10), 33, .inr (.inl (fun _ => 0)))), (((u.1) 11), .inl (((u.2) 11), 1024, .inl (fun _ => 0))), (((u.1) 12), .inl (((u.2) 12), 10, .inl (fun _ => 0))), (((u.1) 13), .inl (((u.2) 13), 0, .inr (.inl (fun _ => 0))))]) (va_A [(h0, .inr (11, [.ref (a 0), .ref (a 1), .ref (a 3), .ref (a 14), .int 0, .null, .null, .null, .null, .null, .null]))] sz)) 15 1408 (va_A [(h0, .inr (11, [.ref (a 0), .ref (a 1), .ref (a 3), .ref (a 14), .int 0, .null, .null, .null, .null, .null, .null]))] sz) := by
  refine Met.ofW (cc := cX11_theValues) (maxL := 1) (ret := (some (.object "OptimaWorks$ValueDesk"))) (by decide) rfl ?_
  intro p e s m args below meth c s₁ B hml hv
  obtain ⟨rfl, hsz, hP, hK, hD0, hnX11_343⟩ := hv
  have hx := B.exec
  have hb := B.bytes
  have hr := B.returns
  have hts := atoms_spec (ws := wsPX11_theValues) B.pre
  have hown : s.vm.findClass RX11 = some m.cls := findClass_of_methodNamed B.named
  have hlocks := B.notSynchronized
  subst hsz
  have hD := hD0.self (sz := s.heap.size)
  generalize hAe : va_A [(h0, .inr (11, [.ref (a 0), .ref (a 1), .ref (a 3), .ref (a 14), .int 0, .null, .null, .null, .null, .null, .null]))] s.heap.size = A at hD ⊢
  have hA : ∀ q : Nat, s.heap.size ≤ q → A q := fun q h => by rw [← hAe]; exact Or.inr h
  have hS : va_S A s.heap s.heap [] := va_S.rf
  have hP : va_P (dC, dI) vwCl [(h0, .inr (11, [.ref (a 0), .ref (a 1), .ref (a 3), .ref (a 14), .int 0, .null, .null, .null, .null, .null, .null]))] s.heap := hP
  have hl := lv_entry ([.ref h0]) (n := 1) (Nat.le_of_ble_eq_true rfl)
  rw [lg_entry_eq]
  generalize (lg_sl ([.ref h0]) ++ List.replicate (1 - (lg_sl ([.ref h0])).length) Slot.unset).toArray = ls at hl ⊢
  have hl : lv_has ls 1 [(0, .ref h0)] := hl
  refine lv_aload_n hx hb dX11_theValues_0 rfl (lv_at hl 0 rfl) ?_
  refine va_get (D := (dC, dI)) (ci := 11) (v := .null) (C := RX11) (T := TX11) (N := 11) hx hb hts iwsPX11_theValues_in11 hown hK hP 0 rfl rfl 8 (by decide) (hts (.fieldLink RX11 337 "OptimaWorks" "values" "LOptimaWorks$ValueDesk;") (by decide +kernel)) (fun _ h9 => h9) rfl dX11_theValues_1 ?_
  refine lv_ifnonnullN hx hb dX11_theValues_4 ?_
  refine lv_aload_n hx hb dX11_theValues_7 rfl (lv_at hl 0 rfl) ?_
  refine va_new (ci := 7) (fs := [.int 0, .int 0, .null, .null, .null, .null, .null, .null, .null, .null, .null, .int 0, .int 0, .null, .null, .null, .null, .null, .int 0, .int 0]) (C := RX7) (T := TX7) (N := 20) hx hb hts iwsPX11_theValues_in7 tyX7 tyX7_ok hown (hts (.classLink RX11 341 RX7) (by decide +kernel)) (hts (.instantiable RX7 20) (by decide +kernel)) (hts (.initialized RX7) (by decide +kernel)) hK hP hD hS hA rfl (by decide +kernel) (by decide +kernel) (by decide +kernel) dX11_theValues_8 (fun q8 H hP hD hS => ?_)
  have hP : va_P (dC, dI) vwCl [(h0, .inr (11, [.ref (a 0), .ref (a 1), .ref (a 3), .ref (a 14), .int 0, .null, .null, .null, .null, .null, .null])), (q8, .inr (7, [.int 0, .int 0, .null, .null, .null, .null, .null, .null, .null, .null, .null, .int 0, .int 0, .null, .null, .null, .null, .null, .int 0, .int 0]))] H := hP
  have hD : va_D A [(h0, .inr (11, [.ref (a 0), .ref (a 1), .ref (a 3), .ref (a 14), .int 0, .null, .null, .null, .null, .null, .null])), (q8, .inr (7, [.int 0, .int 0, .null, .null, .null, .null, .null, .null, .null, .null, .null, .int 0, .int 0, .null, .null, .null, .null, .null, .int 0, .int 0]))] := hD
  refine W.widen (k := 1) (n := 20) (by decide +kernel) (by decide +kernel) ?_
  refine lv_dup hx hb dX11_theValues_11 rfl ?_
  have hPc := hP.sub (ws' := [(q8, .inr (7, [.int 0, .int 0, .null, .null, .null, .null, .null, .null, .null, .null, .null, .int 0, .int 0, .null, .null, .null, .null, .null, .int 0, .int 0]))]) [1] rfl
  have hDc := hD.sub (ws' := [(q8, .inr (7, [.int 0, .int 0, .null, .null, .null, .null, .null, .null, .null, .null, .null, .int 0, .int 0, .null, .null, .null, .null, .null, .int 0, .int 0]))]) [1] (by decide) rfl
  have hKc := hK.sub (tys' := []) [] rfl
  have hFc := va_free (wc := [(q8, .inr (7, [.int 0, .int 0, .null, .null, .null, .null, .null, .null, .null, .null, .null, .int 0, .int 0, .null, .null, .null, .null, .null, .int 0, .int 0]))]) hD hS hA [1] rfl
  refine va_callv (va_runIN (As := []) (rest := [.ref q8, .ref h0]) ⟨hx, hb, hml, hown, hts⟩ (c_X7_init l dC dI q8 H.size) ⟨va_cnB 0 hts gwsPX11_theValues_0 rfl rfl rfl hnX11_343 (hts (.initialized RX7) (by decide +kernel)) (by decide +kernel) ⟨by decide +kernel, by decide +kernel⟩, rfl, (hts (.instanceMethod yX7_init) (by decide +kernel))⟩ ⟨fun a U g mk q => by obtain ⟨q0, q1, qP, qK, qD⟩ := q; exact ⟨q0, q1, qP, va_K.moved (u := U) (U := U.calling g mk a) (Vm.Alike.refl U.vm) qK, qD⟩, fun U hU9 hW => ⟨rfl, by rw [hU9], by rw [hU9]; exact hPc, va_K.moved hW.alike hKc, hDc.weaken (fun _ _ _ _ => trivial)⟩⟩ rfl rfl hl.1 rfl (lv_room (Nat.le_of_ble_eq_true rfl)) dX11_theValues_12 ⟨by decide +kernel, by decide +kernel⟩) hS (fun q _ h => hFc q h) hFc (fun u t H1 locs ht hvm hw hB hz1 hk1 hS => ?_)
  obtain ⟨aa12, kk12⟩ := u
  obtain ⟨hP1, hK1, hD1⟩ := hB
  rw [ht] at hP1
  have hK1 := va_K.moved hvm.symm hK1
  obtain ⟨hP, hD⟩ := va_join (wr := [(h0, .inr (11, [.ref (a 0), .ref (a 1), .ref (a 3), .ref (a 14), .int 0, .null, .null, .null, .null, .null, .null]))]) (w1 := [(q8, .inr (7, [.int 0, .int 0, .ref (aa12 0), .ref (aa12 1), .ref (aa12 2), .ref (aa12 3), .ref (aa12 4), .ref (aa12 5), .ref (aa12 6), .ref (aa12 7), .ref (aa12 8), .int (-1), .int 0, .ref (aa12 9), .ref (aa12 10), .ref (aa12 11), .ref (aa12 12), .ref (aa12 13), .int 0, .int 0])), ((aa12 0), .inl ((kk12 0), 16, .inl (fun _ => 0))), ((aa12 1), .inl ((kk12 1), 10, .inl (fun _ => 0))), ((aa12 2), .inl ((kk12 2), 12, .inl (fun _ => 0))), ((aa12 3), .inl ((kk12 3), 12, .inl (fun _ => 0))), ((aa12 4), .inl ((kk12 4), 12, .inl (fun _ => 0))), ((aa12 5), .inl ((kk12 5), 12, .inl (fun _ => 0))), ((aa12 6), .inl ((kk12 6), 192, .inl (fun _ => 0))), ((aa12 7), .inl ((kk12 7), 12, .inl (fun _ => 0))), ((aa12 8), .inl ((kk12 8), 10, .inl (fun _ => 0))), ((aa12 9), .inl ((kk12 9), 33, .inr (.inl (fun _ => 0)))), ((aa12 10), .inl ((kk12 10), 33, .inr (.inl (fun _ => 0)))), ((aa12 11), .inl ((kk12 11), 1024, .inl (fun _ => 0))), ((aa12 12), .inl ((kk12 12), 10, .inl (fun _ => 0))), ((aa12 13), .inl ((kk12 13), 0, .inr (.inl (fun _ => 0))))]) hP hD [1] [0] rfl rfl (by decide) (by decide) hk1 hFc hP1 hD1
  have hK := hK.app hK1
  generalize H1 = H at hP hS ⊢
  have hP : va_P (dC, dI) vwCl [(h0, .inr (11, [.ref (a 0), .ref (a 1), .ref (a 3), .ref (a 14), .int 0, .null, .null, .null, .null, .null, .null])), (q8, .inr (7, [.int 0, .int 0, .ref (aa12 0), .ref (aa12 1), .ref (aa12 2), .ref (aa12 3), .ref (aa12 4), .ref (aa12 5), .ref (aa12 6), .ref (aa12 7), .ref (aa12 8), .int (-1), .int 0, .ref (aa12 9), .ref (aa12 10), .ref (aa12 11), .ref (aa12 12), .ref (aa12 13), .int 0, .int 0])), ((aa12 0), .inl ((kk12 0), 16, .inl (fun _ => 0))), ((aa12 1), .inl ((kk12 1), 10, .inl (fun _ => 0))), ((aa12 2), .inl ((kk12 2), 12, .inl (fun _ => 0))), ((aa12 3), .inl ((kk12 3), 12, .inl (fun _ => 0))), ((aa12 4), .inl ((kk12 4), 12, .inl (fun _ => 0))), ((aa12 5), .inl ((kk12 5), 12, .inl (fun _ => 0))), ((aa12 6), .inl ((kk12 6), 192, .inl (fun _ => 0))), ((aa12 7), .inl ((kk12 7), 12, .inl (fun _ => 0))), ((aa12 8), .inl ((kk12 8), 10, .inl (fun _ => 0))), ((aa12 9), .inl ((kk12 9), 33, .inr (.inl (fun _ => 0)))), ((aa12 10), .inl ((kk12 10), 33, .inr (.inl (fun _ => 0)))), ((aa12 11), .inl ((kk12 11), 1024, .inl (fun _ => 0))), ((aa12 12), .inl ((kk12 12), 10, .inl (fun _ => 0))), ((aa12 13), .inl ((kk12 13), 0, .inr (.inl (fun _ => 0))))] H := hP
  have hD : va_D A [(h0, .inr (11, [.ref (a 0), .ref (a 1), .ref (a 3), .ref (a 14), .int 0, .null, .null, .null, .null, .null, .null])), (q8, .inr (7, [.int 0, .int 0, .ref (aa12 0), .ref (aa12 1), .ref (aa12 2), .ref (aa12 3), .ref (aa12 4), .ref (aa12 5), .ref (aa12 6), .ref (aa12 7), .ref (aa12 8), .int (-1), .int 0, .ref (aa12 9), .ref (aa12 10), .ref (aa12 11), .ref (aa12 12), .ref (aa12 13), .int 0, .int 0])), ((aa12 0), .inl ((kk12 0), 16, .inl (fun _ => 0))), ((aa12 1), .inl ((kk12 1), 10, .inl (fun _ => 0))), ((aa12 2), .inl ((kk12 2), 12, .inl (fun _ => 0))), ((aa12 3), .inl ((kk12 3), 12, .inl (fun _ => 0))), ((aa12 4), .inl ((kk12 4), 12, .inl (fun _ => 0))), ((aa12 5), .inl ((kk12 5), 12, .inl (fun _ => 0))), ((aa12 6), .inl ((kk12 6), 192, .inl (fun _ => 0))), ((aa12 7), .inl ((kk12 7), 12, .inl (fun _ => 0))), ((aa12 8), .inl ((kk12 8), 10, .inl (fun _ => 0))), ((aa12 9), .inl ((kk12 9), 33, .inr (.inl (fun _ => 0)))), ((aa12 10), .inl ((kk12 10), 33, .inr (.inl (fun _ => 0)))), ((aa12 11), .inl ((kk12 11), 1024, .inl (fun _ => 0))), ((aa12 12), .inl ((kk12 12), 10, .inl (fun _ => 0))), ((aa12 13), .inl ((kk12 13), 0, .inr (.inl (fun _ => 0))))] := hD
  have hK : va_K (dC, dI) vwCl [((kk12 0), .int), ((kk12 1), .int), ((kk12 2), .int), ((kk12 3), .int), ((kk12 4), .int), ((kk12 5), .int), ((kk12 6), .int), ((kk12 7), .int), ((kk12 8), .int), ((kk12 9), .long), ((kk12 10), .long), ((kk12 11), .int), ((kk12 12), .int), ((kk12 13), .long)] s := hK
  refine W.widen (k := 15) (n := 1408) (by decide +kernel) (by decide +kernel) ?_
  refine va_put (D := (dC, dI)) (ci := 11) (v := .ref q8) (ty := .object "OptimaWorks$ValueDesk") (C := RX11) (T := TX11) (N := 11) hx hb hts iwsPX11_theValues_in11 tyX11 tyX11_ok nmX11 hown hK hP hD hS 0 rfl rfl 8 (by decide) (hts (.fieldLink RX11 337 "OptimaWorks" "values" "LOptimaWorks$ValueDesk;") (by decide +kernel)) (fun _ h9 => h9) rfl (by decide +kernel) rfl rfl (Nat.le_of_ble_eq_true rfl) dX11_theValues_15 (fun H locs hP hD hS => ?_)
  have hP : va_P (dC, dI) vwCl [(h0, .inr (11, [.ref (a 0), .ref (a 1), .ref (a 3), .ref (a 14), .int 0, .null, .null, .null, .ref q8, .null, .null])), (q8, .inr (7, [.int 0, .int 0, .ref (aa12 0), .ref (aa12 1), .ref (aa12 2), .ref (aa12 3), .ref (aa12 4), .ref (aa12 5), .ref (aa12 6), .ref (aa12 7), .ref (aa12 8), .int (-1), .int 0, .ref (aa12 9), .ref (aa12 10), .ref (aa12 11), .ref (aa12 12), .ref (aa12 13), .int 0, .int 0])), ((aa12 0), .inl ((kk12 0), 16, .inl (fun _ => 0))), ((aa12 1), .inl ((kk12 1), 10, .inl (fun _ => 0))), ((aa12 2), .inl ((kk12 2), 12, .inl (fun _ => 0))), ((aa12 3), .inl ((kk12 3), 12, .inl (fun _ => 0))), ((aa12 4), .inl ((kk12 4), 12, .inl (fun _ => 0))), ((aa12 5), .inl ((kk12 5), 12, .inl (fun _ => 0))), ((aa12 6), .inl ((kk12 6), 192, .inl (fun _ => 0))), ((aa12 7), .inl ((kk12 7), 12, .inl (fun _ => 0))), ((aa12 8), .inl ((kk12 8), 10, .inl (fun _ => 0))), ((aa12 9), .inl ((kk12 9), 33, .inr (.inl (fun _ => 0)))), ((aa12 10), .inl ((kk12 10), 33, .inr (.inl (fun _ => 0)))), ((aa12 11), .inl ((kk12 11), 1024, .inl (fun _ => 0))), ((aa12 12), .inl ((kk12 12), 10, .inl (fun _ => 0))), ((aa12 13), .inl ((kk12 13), 0, .inr (.inl (fun _ => 0))))] H := hP
  have hD : va_D A [(h0, .inr (11, [.ref (a 0), .ref (a 1), .ref (a 3), .ref (a 14), .int 0, .null, .null, .null, .ref q8, .null, .null])), (q8, .inr (7, [.int 0, .int 0, .ref (aa12 0), .ref (aa12 1), .ref (aa12 2), .ref (aa12 3), .ref (aa12 4), .ref (aa12 5), .ref (aa12 6), .ref (aa12 7), .ref (aa12 8), .int (-1), .int 0, .ref (aa12 9), .ref (aa12 10), .ref (aa12 11), .ref (aa12 12), .ref (aa12 13), .int 0, .int 0])), ((aa12 0), .inl ((kk12 0), 16, .inl (fun _ => 0))), ((aa12 1), .inl ((kk12 1), 10, .inl (fun _ => 0))), ((aa12 2), .inl ((kk12 2), 12, .inl (fun _ => 0))), ((aa12 3), .inl ((kk12 3), 12, .inl (fun _ => 0))), ((aa12 4), .inl ((kk12 4), 12, .inl (fun _ => 0))), ((aa12 5), .inl ((kk12 5), 12, .inl (fun _ => 0))), ((aa12 6), .inl ((kk12 6), 192, .inl (fun _ => 0))), ((aa12 7), .inl ((kk12 7), 12, .inl (fun _ => 0))), ((aa12 8), .inl ((kk12 8), 10, .inl (fun _ => 0))), ((aa12 9), .inl ((kk12 9), 33, .inr (.inl (fun _ => 0)))), ((aa12 10), .inl ((kk12 10), 33, .inr (.inl (fun _ => 0)))), ((aa12 11), .inl ((kk12 11), 1024, .inl (fun _ => 0))), ((aa12 12), .inl ((kk12 12), 10, .inl (fun _ => 0))), ((aa12 13), .inl ((kk12 13), 0, .inr (.inl (fun _ => 0))))] := hD
  refine lv_aload_n hx hb dX11_theValues_18 rfl (lv_at hl 0 rfl) ?_
  refine va_get (D := (dC, dI)) (ci := 11) (v := .ref q8) (C := RX11) (T := TX11) (N := 11) hx hb hts iwsPX11_theValues_in11 hown hK hP 0 rfl rfl 8 (by decide) (hts (.fieldLink RX11 337 "OptimaWorks" "values" "LOptimaWorks$ValueDesk;") (by decide +kernel)) (fun _ h9 => h9) rfl dX11_theValues_19 ?_
  refine W.widen (k := 15) (n := 1408) (by decide +kernel) (by decide +kernel) ?_
  exact W.aret hx hb hr (Or.inl ⟨_, rfl⟩) (Or.inr ⟨_, rfl⟩) (fun t ht hW => ⟨⟨(aa12, kk12), _, rfl, trivial, by rw [ht]; exact hP.sub [0, 1, 2, 3, 4, 5, 6, 7, 8, 9, 10, 11, 12, 13, 14, 15] rfl, va_K.moved hW.alike (hK.sub [0, 1, 2, 3, 4, 5, 6, 7, 8, 9, 10, 11, 12, 13] rfl), hD.sub [0, 1, 2, 3, 4, 5, 6, 7, 8, 9, 10, 11, 12, 13, 14, 15] (by decide) rfl⟩, hS.F ht⟩) hS.2.2 dX11_theValues_22
theorem dX7_change_0 : decode cX7_change 0 = .ok (.aload_n 0, 1) := by decide +kernel
theorem dX7_change_1 : decode cX7_change 1 = .ok (.iconst (-1), 1) := by decide +kernel
theorem dX7_change_2 : decode cX7_change 2 = .ok (.putfield 39, 3) := by decide +kernel
theorem dX7_change_5 : decode cX7_change 5 = .ok (.aload_n 0, 1) := by decide +kernel
theorem dX7_change_6 : decode cX7_change 6 = .ok (.iconst 0, 1) := by decide +kernel
theorem dX7_change_7 : decode cX7_change 7 = .ok (.putfield 68, 3) := by decide +kernel
theorem dX7_change_10 : decode cX7_change 10 = .ok (.return_, 1) := by decide +kernel
def wsPX7_change : List Cond := .code yX7_change cX7_change 1 none :: ([.fieldLink RX7 39 "OptimaWorks$ValueDesk" "doneFor" "I", .fieldLink RX7 68 "OptimaWorks$ValueDesk" "listDone" "Z"] ++ wsX70)
theorem iwsPX7_change_in7 : ∀ w ∈ wsX70, w ∈ wsPX7_change := fun _ h => List.mem_cons_of_mem _ (List.mem_append_right _ h)
set_option maxHeartbeats 4000000 in
set_option maxRecDepth 100000 in
/-- change() -/
theorem p_X7_change (l : Launch) (dC : Nat → ClassId) (dI : Nat → Nat → Nat) (d0 : Nat) (q0 : Value) (q1 : Value) (q2 : Value) (q3 : Value) (q4 : Value) (q5 : Value) (q6 : Value) (q7 : Value) (q8 : Value) (q9 : Value) (q10 : Value) (q12 : Value) (q13 : Value) (q14 : Value) (q15 : Value) (q16 : Value) (q17 : Value) (q18 : Value) (x1 : Value) (x2 : Value) (sz : Nat) : Met l yX7_change wsPX7_change ({ frames := 0, cells := 0, slots := 0, locals := 0 }) (va_Pc [.ref d0] (fun U => U.heap.size = sz ∧ va_P (dC, dI) vwCl [(d0, .inr (7, [q0, q1, q2, q3, q4, q5, q6, q7, q8, q9, q10, x1, q12, q13, q14, q15, q16, q17, q18, x2]))] U.heap ∧ va_K (dC, dI) vwCl [] U ∧ va_D (fun _ => True) [(d0, .inr (7, [q0, q1, q2, q3, q4, q5, q6, q7, q8, q9, q10, x1, q12, q13, q14, q15, q16, q17, q18, x2]))])) (va_Qv (fun (u : Unit) => True) (fun (u : Unit) t => va_P (dC, dI) vwCl [(d0, .inr (7, [q0, q1, q2, q3, q4, q5, q6, q7, q8, q9, q10, .int (-1), q12, q13, q14, q15, q16, q17, q18, .int 0]))] t.heap ∧ va_K (dC, dI) vwCl [] t ∧ va_D (va_A [(d0, .inr (7, [q0, q1, q2, q3, q4, q5, q6, q7, q8, q9, q10, x1, q12, q13, q14, q15, q16, q17, q18, x2]))] sz) [(d0, .inr (7, [q0, q1, q2, q3, q4, q5, q6, q7, q8, q9, q10, .int (-1), q12, q13, q14, q15, q16, q17, q18, .int 0]))]) (va_A [(d0, .inr (7, [q0, q1, q2, q3, q4, q5, q6, q7, q8, q9, q10, x1, q12, q13, q14, q15, q16, q17, q18, x2]))] sz)) 0 0 (va_A [(d0, .inr (7, [q0, q1, q2, q3, q4, q5, q6, q7, q8, q9, q10, x1, q12, q13, q14, q15, q16, q17, q18, x2]))] sz) := by
  refine Met.ofW (cc := cX7_change) (maxL := 1) (ret := none) (by decide) rfl ?_
  intro p e s m args below meth c s₁ B hml hv
  obtain ⟨rfl, hsz, hP, hK, hD0⟩ := hv
  have hx := B.exec
  have hb := B.bytes
  have hr := B.returns
  have hts := atoms_spec (ws := wsPX7_change) B.pre
  have hown : s.vm.findClass RX7 = some m.cls := findClass_of_methodNamed B.named
  have hlocks := B.notSynchronized
  subst hsz
  have hD := hD0.self (sz := s.heap.size)
  generalize hAe : va_A [(d0, .inr (7, [q0, q1, q2, q3, q4, q5, q6, q7, q8, q9, q10, x1, q12, q13, q14, q15, q16, q17, q18, x2]))] s.heap.size = A at hD ⊢
  have hA : ∀ q : Nat, s.heap.size ≤ q → A q := fun q h => by rw [← hAe]; exact Or.inr h
  have hS : va_S A s.heap s.heap [] := va_S.rf
  have hP : va_P (dC, dI) vwCl [(d0, .inr (7, [q0, q1, q2, q3, q4, q5, q6, q7, q8, q9, q10, x1, q12, q13, q14, q15, q16, q17, q18, x2]))] s.heap := hP
  have hl := lv_entry ([.ref d0]) (n := 1) (Nat.le_of_ble_eq_true rfl)
  rw [lg_entry_eq]
  generalize (lg_sl ([.ref d0]) ++ List.replicate (1 - (lg_sl ([.ref d0])).length) Slot.unset).toArray = ls at hl ⊢
  have hl : lv_has ls 1 [(0, .ref d0)] := hl
  refine lv_aload_n hx hb dX7_change_0 rfl (lv_at hl 0 rfl) ?_
  refine lv_iconst (v := (-1)) hx hb dX7_change_1 (by decide) ?_
  refine va_put (D := (dC, dI)) (ci := 7) (v := .int (-1)) (ty := .int) (C := RX7) (T := TX7) (N := 20) hx hb hts iwsPX7_change_in7 tyX7 tyX7_ok nmX7 hown hK hP hD hS 0 rfl rfl 11 (by decide) (hts (.fieldLink RX7 39 "OptimaWorks$ValueDesk" "doneFor" "I") (by decide +kernel)) (fun _ h9 => h9) rfl (by decide +kernel) rfl rfl (Nat.le_of_ble_eq_true rfl) dX7_change_2 (fun H locs hP hD hS => ?_)
  have hP : va_P (dC, dI) vwCl [(d0, .inr (7, [q0, q1, q2, q3, q4, q5, q6, q7, q8, q9, q10, .int (-1), q12, q13, q14, q15, q16, q17, q18, x2]))] H := hP
  have hD : va_D A [(d0, .inr (7, [q0, q1, q2, q3, q4, q5, q6, q7, q8, q9, q10, .int (-1), q12, q13, q14, q15, q16, q17, q18, x2]))] := hD
  refine lv_aload_n hx hb dX7_change_5 rfl (lv_at hl 0 rfl) ?_
  refine lv_iconst (v := 0) hx hb dX7_change_6 (by decide) ?_
  refine va_put (D := (dC, dI)) (ci := 7) (v := .int 0) (ty := .boolean) (C := RX7) (T := TX7) (N := 20) hx hb hts iwsPX7_change_in7 tyX7 tyX7_ok nmX7 hown hK hP hD hS 0 rfl rfl 19 (by decide) (hts (.fieldLink RX7 68 "OptimaWorks$ValueDesk" "listDone" "Z") (by decide +kernel)) (fun _ h9 => h9) rfl (by decide +kernel) rfl rfl (Nat.le_of_ble_eq_true rfl) dX7_change_7 (fun H locs hP hD hS => ?_)
  have hP : va_P (dC, dI) vwCl [(d0, .inr (7, [q0, q1, q2, q3, q4, q5, q6, q7, q8, q9, q10, .int (-1), q12, q13, q14, q15, q16, q17, q18, .int 0]))] H := hP
  have hD : va_D A [(d0, .inr (7, [q0, q1, q2, q3, q4, q5, q6, q7, q8, q9, q10, .int (-1), q12, q13, q14, q15, q16, q17, q18, .int 0]))] := hD
  refine W.widen (k := 0) (n := 0) (by decide +kernel) (by decide +kernel) ?_
  exact W.vret hx hb hr (fun t ht hW => ⟨⟨(), rfl, trivial, by rw [ht]; exact hP.sub [0] rfl, va_K.moved hW.alike (hK.sub [] rfl), hD.sub [0] (by decide) rfl⟩, hS.F ht⟩) hS.2.2 dX7_change_10
theorem dX7_addHolder_0 : decode cX7_addHolder 0 = .ok (.aload_n 0, 1) := by decide +kernel
theorem dX7_addHolder_1 : decode cX7_addHolder 1 = .ok (.getfield 15, 3) := by decide +kernel
theorem dX7_addHolder_4 : decode cX7_addHolder 4 = .ok (.aload_n 0, 1) := by decide +kernel
theorem dX7_addHolder_5 : decode cX7_addHolder 5 = .ok (.getfield 59, 3) := by decide +kernel
theorem dX7_addHolder_8 : decode cX7_addHolder 8 = .ok (.iload_n 1, 1) := by decide +kernel
theorem dX7_addHolder_9 : decode cX7_addHolder 9 = .ok (.iastore, 1) := by decide +kernel
theorem dX7_addHolder_10 : decode cX7_addHolder 10 = .ok (.aload_n 0, 1) := by decide +kernel
theorem dX7_addHolder_11 : decode cX7_addHolder 11 = .ok (.dup, 1) := by decide +kernel
theorem dX7_addHolder_12 : decode cX7_addHolder 12 = .ok (.getfield 59, 3) := by decide +kernel
theorem dX7_addHolder_15 : decode cX7_addHolder 15 = .ok (.iconst 1, 1) := by decide +kernel
theorem dX7_addHolder_16 : decode cX7_addHolder 16 = .ok (.iadd, 1) := by decide +kernel
theorem dX7_addHolder_17 : decode cX7_addHolder 17 = .ok (.putfield 59, 3) := by decide +kernel
theorem dX7_addHolder_20 : decode cX7_addHolder 20 = .ok (.aload_n 0, 1) := by decide +kernel
theorem dX7_addHolder_21 : decode cX7_addHolder 21 = .ok (.invokevirtual 65, 3) := by decide +kernel
theorem dX7_addHolder_24 : decode cX7_addHolder 24 = .ok (.aload_n 0, 1) := by decide +kernel
theorem dX7_addHolder_25 : decode cX7_addHolder 25 = .ok (.getfield 59, 3) := by decide +kernel
theorem dX7_addHolder_28 : decode cX7_addHolder 28 = .ok (.iconst 1, 1) := by decide +kernel
theorem dX7_addHolder_29 : decode cX7_addHolder 29 = .ok (.isub, 1) := by decide +kernel
theorem dX7_addHolder_30 : decode cX7_addHolder 30 = .ok (.ireturn, 1) := by decide +kernel
def wsPX7_addHolder : List Cond := .code yX7_addHolder cX7_addHolder 2 (some .int) :: ([.fieldLink RX7 15 "OptimaWorks$ValueDesk" "domain" "[I", .fieldLink RX7 59 "OptimaWorks$ValueDesk" "holders" "I"] ++ wsX70 ++ (wsV RX7 65 RX7 yX7_change wsPX7_change))
theorem iwsPX7_addHolder_in7 : ∀ w ∈ wsX70, w ∈ wsPX7_addHolder := fun _ h => List.mem_cons_of_mem _ (List.mem_append_left _ (List.mem_append_right _ h))
theorem gwsPX7_addHolder_0 : GoodIn wsPX7_addHolder (wsV RX7 65 RX7 yX7_change wsPX7_change) := goodIn_sub (fun _ h => List.mem_cons_of_mem _ (List.mem_append_right _ h)) (by decide +kernel)
set_option maxHeartbeats 4000000 in
set_option maxRecDepth 100000 in
/-- addHolder(bits) on a fresh desk -/
theorem p_X7_addHolder (l : Launch) (dC : Nat → ClassId) (dI : Nat → Nat → Nat) (d0 : Nat) (bb : Nat → Nat) (kd : Nat → ClassId) (hb9 : Int32) (sz : Nat) : Met l yX7_addHolder wsPX7_addHolder ({ frames := 1, cells := 0, slots := 0, locals := 20 }) (va_Pc [.ref d0, .int hb9] (fun U => U.heap.size = sz ∧ va_P (dC, dI) vwCl [(d0, .inr (7, [.int 0, .int 0, .ref (bb 0), .ref (bb 1), .ref (bb 2), .ref (bb 3), .ref (bb 4), .ref (bb 5), .ref (bb 6), .ref (bb 7), .ref (bb 8), .int (-1), .int 0, .ref (bb 9), .ref (bb 10), .ref (bb 11), .ref (bb 12), .ref (bb 13), .int 0, .int 0])), ((bb 1), .inl ((kd 1), 10, .inl (fun _ => 0)))] U.heap ∧ va_K (dC, dI) vwCl [((kd 1), .int)] U ∧ va_D (fun _ => True) [(d0, .inr (7, [.int 0, .int 0, .ref (bb 0), .ref (bb 1), .ref (bb 2), .ref (bb 3), .ref (bb 4), .ref (bb 5), .ref (bb 6), .ref (bb 7), .ref (bb 8), .int (-1), .int 0, .ref (bb 9), .ref (bb 10), .ref (bb 11), .ref (bb 12), .ref (bb 13), .int 0, .int 0])), ((bb 1), .inl ((kd 1), 10, .inl (fun _ => 0)))])) (va_Qi (fun (r : Int32) (u : Unit) => r = 0) (fun (u : Unit) t => va_P (dC, dI) vwCl [] t.heap ∧ va_K (dC, dI) vwCl [] t ∧ va_D (va_A [(d0, .inr (7, [.int 0, .int 0, .ref (bb 0), .ref (bb 1), .ref (bb 2), .ref (bb 3), .ref (bb 4), .ref (bb 5), .ref (bb 6), .ref (bb 7), .ref (bb 8), .int (-1), .int 0, .ref (bb 9), .ref (bb 10), .ref (bb 11), .ref (bb 12), .ref (bb 13), .int 0, .int 0])), ((bb 1), .inl ((kd 1), 10, .inl (fun _ => 0)))] sz) []) (va_A [(d0, .inr (7, [.int 0, .int 0, .ref (bb 0), .ref (bb 1), .ref (bb 2), .ref (bb 3), .ref (bb 4), .ref (bb 5), .ref (bb 6), .ref (bb 7), .ref (bb 8), .int (-1), .int 0, .ref (bb 9), .ref (bb 10), .ref (bb 11), .ref (bb 12), .ref (bb 13), .int 0, .int 0])), ((bb 1), .inl ((kd 1), 10, .inl (fun _ => 0)))] sz)) 0 0 (va_A [(d0, .inr (7, [.int 0, .int 0, .ref (bb 0), .ref (bb 1), .ref (bb 2), .ref (bb 3), .ref (bb 4), .ref (bb 5), .ref (bb 6), .ref (bb 7), .ref (bb 8), .int (-1), .int 0, .ref (bb 9), .ref (bb 10), .ref (bb 11), .ref (bb 12), .ref (bb 13), .int 0, .int 0])), ((bb 1), .inl ((kd 1), 10, .inl (fun _ => 0)))] sz) := by
  refine Met.ofW (cc := cX7_addHolder) (maxL := 2) (ret := (some .int)) (by decide) rfl ?_
  intro p e s m args below meth c s₁ B hml hv
  obtain ⟨rfl, hsz, hP, hK, hD0⟩ := hv
  have hx := B.exec
  have hb := B.bytes
  have hr := B.returns
  have hts := atoms_spec (ws := wsPX7_addHolder) B.pre
  have hown : s.vm.findClass RX7 = some m.cls := findClass_of_methodNamed B.named
  have hlocks := B.notSynchronized
  subst hsz
  have hD := hD0.self (sz := s.heap.size)
  generalize hAe : va_A [(d0, .inr (7, [.int 0, .int 0, .ref (bb 0), .ref (bb 1), .ref (bb 2), .ref (bb 3), .ref (bb 4), .ref (bb 5), .ref (bb 6), .ref (bb 7), .ref (bb 8), .int (-1), .int 0, .ref (bb 9), .ref (bb 10), .ref (bb 11), .ref (bb 12), .ref (bb 13), .int 0, .int 0])), ((bb 1), .inl ((kd 1), 10, .inl (fun _ => 0)))] s.heap.size = A at hD ⊢
  have hA : ∀ q : Nat, s.heap.size ≤ q → A q := fun q h => by rw [← hAe]; exact Or.inr h
  have hS : va_S A s.heap s.heap [] := va_S.rf
  have hP : va_P (dC, dI) vwCl [(d0, .inr (7, [.int 0, .int 0, .ref (bb 0), .ref (bb 1), .ref (bb 2), .ref (bb 3), .ref (bb 4), .ref (bb 5), .ref (bb 6), .ref (bb 7), .ref (bb 8), .int (-1), .int 0, .ref (bb 9), .ref (bb 10), .ref (bb 11), .ref (bb 12), .ref (bb 13), .int 0, .int 0])), ((bb 1), .inl ((kd 1), 10, .inl (fun _ => 0)))] s.heap := hP
  have hl := lv_entry ([.ref d0, .int hb9]) (n := 2) (Nat.le_of_ble_eq_true rfl)
  rw [lg_entry_eq]
  generalize (lg_sl ([.ref d0, .int hb9]) ++ List.replicate (2 - (lg_sl ([.ref d0, .int hb9])).length) Slot.unset).toArray = ls at hl ⊢
  have hl : lv_has ls 2 [(0, .ref d0), (1, .int hb9)] := hl
  refine lv_aload_n hx hb dX7_addHolder_0 rfl (lv_at hl 0 rfl) ?_
  refine va_get (D := (dC, dI)) (ci := 7) (v := .ref (bb 1)) (C := RX7) (T := TX7) (N := 20) hx hb hts iwsPX7_addHolder_in7 hown hK hP 0 rfl rfl 3 (by decide) (hts (.fieldLink RX7 15 "OptimaWorks$ValueDesk" "domain" "[I") (by decide +kernel)) (fun _ h9 => h9) rfl dX7_addHolder_1 ?_
  refine lv_aload_n hx hb dX7_addHolder_4 rfl (lv_at hl 0 rfl) ?_
  refine va_get (D := (dC, dI)) (ci := 7) (v := .int 0) (C := RX7) (T := TX7) (N := 20) hx hb hts iwsPX7_addHolder_in7 hown hK hP 0 rfl rfl 0 (by decide) (hts (.fieldLink RX7 59 "OptimaWorks$ValueDesk" "holders" "I") (by decide +kernel)) (fun _ h9 => h9) rfl dX7_addHolder_5 ?_
  refine lv_iload_n hx hb dX7_addHolder_8 rfl (lv_at hl 1 rfl) ?_
  refine va_iast hx hb hK hP hD hS 1 0 rfl rfl (show ¬ ((0 : Int32) < 0 ∨ 10 ≤ (0 : Int32).toNatClampNeg) by decide) dX7_addHolder_9 (fun H locs hP hD hS => ?_)
  have hP : va_P (dC, dI) vwCl [(d0, .inr (7, [.int 0, .int 0, .ref (bb 0), .ref (bb 1), .ref (bb 2), .ref (bb 3), .ref (bb 4), .ref (bb 5), .ref (bb 6), .ref (bb 7), .ref (bb 8), .int (-1), .int 0, .ref (bb 9), .ref (bb 10), .ref (bb 11), .ref (bb 12), .ref (bb 13), .int 0, .int 0])), ((bb 1), .inl ((kd 1), 10, .inl (upd (fun _ => 0) (0 : Int32).toNatClampNeg hb9)))] H := hP
  have hD : va_D A [(d0, .inr (7, [.int 0, .int 0, .ref (bb 0), .ref (bb 1), .ref (bb 2), .ref (bb 3), .ref (bb 4), .ref (bb 5), .ref (bb 6), .ref (bb 7), .ref (bb 8), .int (-1), .int 0, .ref (bb 9), .ref (bb 10), .ref (bb 11), .ref (bb 12), .ref (bb 13), .int 0, .int 0])), ((bb 1), .inl ((kd 1), 10, .inl (upd (fun _ => 0) (0 : Int32).toNatClampNeg hb9)))] := hD
  refine lv_aload_n hx hb dX7_addHolder_10 rfl (lv_at hl 0 rfl) ?_
  refine lv_dup hx hb dX7_addHolder_11 rfl ?_
  refine va_get (D := (dC, dI)) (ci := 7) (v := .int 0) (C := RX7) (T := TX7) (N := 20) hx hb hts iwsPX7_addHolder_in7 hown hK hP 0 rfl rfl 0 (by decide) (hts (.fieldLink RX7 59 "OptimaWorks$ValueDesk" "holders" "I") (by decide +kernel)) (fun _ h9 => h9) rfl dX7_addHolder_12 ?_
  refine lv_iconst (v := 1) hx hb dX7_addHolder_15 (by decide) ?_
  refine lv_iadd hx hb dX7_addHolder_16 ?_
  refine lv_topi (fun y1 hy1 => ?_)
  obtain rfl : 1 = y1 := (hy1.trans (by decide)).symm
  refine va_put (D := (dC, dI)) (ci := 7) (v := .int 1) (ty := .int) (C := RX7) (T := TX7) (N := 20) hx hb hts iwsPX7_addHolder_in7 tyX7 tyX7_ok nmX7 hown hK hP hD hS 0 rfl rfl 0 (by decide) (hts (.fieldLink RX7 59 "OptimaWorks$ValueDesk" "holders" "I") (by decide +kernel)) (fun _ h9 => h9) rfl (by decide +kernel) rfl rfl (Nat.le_of_ble_eq_true rfl) dX7_addHolder_17 (fun H locs hP hD hS => ?_)
  have hP : va_P (dC, dI) vwCl [(d0, .inr (7, [.int 1, .int 0, .ref (bb 0), .ref (bb 1), .ref (bb 2), .ref (bb 3), .ref (bb 4), .ref (bb 5), .ref (bb 6), .ref (bb 7), .ref (bb 8), .int (-1), .int 0, .ref (bb 9), .ref (bb 10), .ref (bb 11), .ref (bb 12), .ref (bb 13), .int 0, .int 0])), ((bb 1), .inl ((kd 1), 10, .inl (upd (fun _ => 0) (0 : Int32).toNatClampNeg hb9)))] H := hP
  have hD : va_D A [(d0, .inr (7, [.int 1, .int 0, .ref (bb 0), .ref (bb 1), .ref (bb 2), .ref (bb 3), .ref (bb 4), .ref (bb 5), .ref (bb 6), .ref (bb 7), .ref (bb 8), .int (-1), .int 0, .ref (bb 9), .ref (bb 10), .ref (bb 11), .ref (bb 12), .ref (bb 13), .int 0, .int 0])), ((bb 1), .inl ((kd 1), 10, .inl (upd (fun _ => 0) (0 : Int32).toNatClampNeg hb9)))] := hD
  refine lv_aload_n hx hb dX7_addHolder_20 rfl (lv_at hl 0 rfl) ?_
  have hPc := hP.sub (ws' := [(d0, .inr (7, [.int 1, .int 0, .ref (bb 0), .ref (bb 1), .ref (bb 2), .ref (bb 3), .ref (bb 4), .ref (bb 5), .ref (bb 6), .ref (bb 7), .ref (bb 8), .int (-1), .int 0, .ref (bb 9), .ref (bb 10), .ref (bb 11), .ref (bb 12), .ref (bb 13), .int 0, .int 0]))]) [0] rfl
  have hDc := hD.sub (ws' := [(d0, .inr (7, [.int 1, .int 0, .ref (bb 0), .ref (bb 1), .ref (bb 2), .ref (bb 3), .ref (bb 4), .ref (bb 5), .ref (bb 6), .ref (bb 7), .ref (bb 8), .int (-1), .int 0, .ref (bb 9), .ref (bb 10), .ref (bb 11), .ref (bb 12), .ref (bb 13), .int 0, .int 0]))]) [0] (by decide) rfl
  have hKc := hK.sub (tys' := []) [] rfl
  have hFc := va_free (wc := [(d0, .inr (7, [.int 1, .int 0, .ref (bb 0), .ref (bb 1), .ref (bb 2), .ref (bb 3), .ref (bb 4), .ref (bb 5), .ref (bb 6), .ref (bb 7), .ref (bb 8), .int (-1), .int 0, .ref (bb 9), .ref (bb 10), .ref (bb 11), .ref (bb 12), .ref (bb 13), .int 0, .int 0]))]) hD hS hA [0] rfl
  refine va_callv (va_runV (As := []) (rest := []) ⟨hx, hb, hml, hown, hts⟩ (p_X7_change l dC dI d0 (.int 1) (.int 0) (.ref (bb 0)) (.ref (bb 1)) (.ref (bb 2)) (.ref (bb 3)) (.ref (bb 4)) (.ref (bb 5)) (.ref (bb 6)) (.ref (bb 7)) (.ref (bb 8)) (.int 0) (.ref (bb 9)) (.ref (bb 10)) (.ref (bb 11)) (.ref (bb 12)) (.ref (bb 13)) (.int 0) (.int (-1)) (.int 0) H.size) (cwV 0 hts gwsPX7_addHolder_0 rfl rfl rfl (by decide +kernel) ⟨by decide +kernel, by decide +kernel⟩) ⟨fun a U g mk q => by obtain ⟨q0, q1, qP, qK, qD⟩ := q; exact ⟨q0, q1, qP, va_K.moved (u := U) (U := U.calling g mk a) (Vm.Alike.refl U.vm) qK, qD⟩, va_recv hKc hPc (ci := 7) (q0 := 0) rfl rfl, fun U hU9 hW => ⟨rfl, by rw [hU9], by rw [hU9]; exact hPc, va_K.moved hW.alike hKc, hDc.weaken (fun _ _ _ _ => trivial)⟩⟩ rfl rfl hl.1 rfl (lv_room (Nat.le_of_ble_eq_true rfl)) dX7_addHolder_21 ⟨by decide +kernel, by decide +kernel⟩) hS (fun q _ h => hFc q h) hFc (fun u t H1 locs ht hvm hw hB hz1 hk1 hS => ?_)
  obtain ⟨hP1, hK1, hD1⟩ := hB
  rw [ht] at hP1
  have hK1 := va_K.moved hvm.symm hK1
  obtain ⟨hP, hD⟩ := va_join (wr := [((bb 1), .inl ((kd 1), 10, .inl (upd (fun _ => 0) (0 : Int32).toNatClampNeg hb9)))]) (w1 := [(d0, .inr (7, [.int 1, .int 0, .ref (bb 0), .ref (bb 1), .ref (bb 2), .ref (bb 3), .ref (bb 4), .ref (bb 5), .ref (bb 6), .ref (bb 7), .ref (bb 8), .int (-1), .int 0, .ref (bb 9), .ref (bb 10), .ref (bb 11), .ref (bb 12), .ref (bb 13), .int 0, .int 0]))]) hP hD [0] [1] rfl rfl (by decide) (by decide) hk1 hFc hP1 hD1
  generalize H1 = H at hP hS ⊢
  have hP : va_P (dC, dI) vwCl [((bb 1), .inl ((kd 1), 10, .inl (upd (fun _ => 0) (0 : Int32).toNatClampNeg hb9))), (d0, .inr (7, [.int 1, .int 0, .ref (bb 0), .ref (bb 1), .ref (bb 2), .ref (bb 3), .ref (bb 4), .ref (bb 5), .ref (bb 6), .ref (bb 7), .ref (bb 8), .int (-1), .int 0, .ref (bb 9), .ref (bb 10), .ref (bb 11), .ref (bb 12), .ref (bb 13), .int 0, .int 0]))] H := hP
  have hD : va_D A [((bb 1), .inl ((kd 1), 10, .inl (upd (fun _ => 0) (0 : Int32).toNatClampNeg hb9))), (d0, .inr (7, [.int 1, .int 0, .ref (bb 0), .ref (bb 1), .ref (bb 2), .ref (bb 3), .ref (bb 4), .ref (bb 5), .ref (bb 6), .ref (bb 7), .ref (bb 8), .int (-1), .int 0, .ref (bb 9), .ref (bb 10), .ref (bb 11), .ref (bb 12), .ref (bb 13), .int 0, .int 0]))] := hD
  refine lv_aload_n hx hb dX7_addHolder_24 rfl (lv_at hl 0 rfl) ?_
  refine va_get (D := (dC, dI)) (ci := 7) (v := .int 1) (C := RX7) (T := TX7) (N := 20) hx hb hts iwsPX7_addHolder_in7 hown hK hP 1 rfl rfl 0 (by decide) (hts (.fieldLink RX7 59 "OptimaWorks$ValueDesk" "holders" "I") (by decide +kernel)) (fun _ h9 => h9) rfl dX7_addHolder_25 ?_
  refine lv_iconst (v := 1) hx hb dX7_addHolder_28 (by decide) ?_
  refine lv_isub hx hb dX7_addHolder_29 ?_
  refine lv_topi (fun y2 hy2 => ?_)
  obtain rfl : 0 = y2 := (hy2.trans (by decide)).symm
  refine W.widen (k := 0) (n := 0) (by decide +kernel) (by decide +kernel) ?_
  exact W.iret (v := 0) hx hb hr (fun t ht hW => ⟨⟨0, (), rfl, by (first | rfl | assumption | trivial | omega | (simp []; done) | (simp; omega)), by rw [ht]; exact hP.sub [] rfl, va_K.moved hW.alike (hK.sub [] rfl), hD.sub [] (by decide) rfl⟩, hS.F ht⟩) hS.2.2 dX7_addHolder_30
theorem dX11_holder_0 : decode cX11_holder 0 = .ok (.iload_n 1, 1) := by decide +kernel
theorem dX11_holder_1 : decode cX11_holder 1 = .ok (.iconst 1, 1) := by decide +kernel
theorem dX11_holder_2 : decode cX11_holder 2 = .ok (.if_icmp .lt 10, 3) := by decide +kernel
theorem dX11_holder_5 : decode cX11_holder 5 = .ok (.iload_n 1, 1) := by decide +kernel
theorem dX11_holder_6 : decode cX11_holder 6 = .ok (.ldc_w 344, 3) := by decide +kernel
theorem dX11_holder_9 : decode cX11_holder 9 = .ok (.if_icmp .le 11, 3) := by decide +kernel
theorem dX11_holder_12 : decode cX11_holder 12 = .ok (.new 77, 3) := by decide +kernel
theorem dX11_holder_15 : decode cX11_holder 15 = .ok (.dup, 1) := by decide +kernel
theorem dX11_holder_16 : decode cX11_holder 16 = .ok (.invokespecial 79, 3) := by decide +kernel
theorem dX11_holder_19 : decode cX11_holder 19 = .ok (.athrow, 1) := by decide +kernel
theorem dX11_holder_20 : decode cX11_holder 20 = .ok (.aload_n 0, 1) := by decide +kernel
theorem dX11_holder_21 : decode cX11_holder 21 = .ok (.invokevirtual 345, 3) := by decide +kernel
theorem dX11_holder_24 : decode cX11_holder 24 = .ok (.getfield 349, 3) := by decide +kernel
theorem dX11_holder_27 : decode cX11_holder 27 = .ok (.bipush 10, 2) := by decide +kernel
theorem dX11_holder_29 : decode cX11_holder 29 = .ok (.if_icmp .lt 11, 3) := by decide +kernel
theorem dX11_holder_40 : decode cX11_holder 40 = .ok (.aload_n 0, 1) := by decide +kernel
theorem dX11_holder_41 : decode cX11_holder 41 = .ok (.getfield 337, 3) := by decide +kernel
theorem dX11_holder_44 : decode cX11_holder 44 = .ok (.iload_n 1, 1) := by decide +kernel
theorem dX11_holder_45 : decode cX11_holder 45 = .ok (.invokevirtual 352, 3) := by decide +kernel
theorem dX11_holder_48 : decode cX11_holder 48 = .ok (.ireturn, 1) := by decide +kernel
def ngX11_79 : List Cond := (vx_at0 RX11 79 "java/lang/IllegalArgumentException" ["java/lang/RuntimeException", "java/lang/Exception"]).filter (fun w => !goodWord w)
theorem ngX11_79_ot : ∀ w ∈ ngX11_79, w.onTables = true := by decide +kernel
theorem ngX11_79_cd : ∀ w ∈ ngX11_79, isCD w = true := by decide +kernel
def wsPX11_holder : List Cond := .code yX11_holder cX11_holder 2 (some .int) :: ([.classLink RX11 77 "java/lang/IllegalArgumentException", .initialized "java/lang/IllegalArgumentException", .constant RX11 344 65535, .fieldLink RX11 349 "OptimaWorks$ValueDesk" "holders" "I", .fieldLink RX11 337 "OptimaWorks" "values" "LOptimaWorks$ValueDesk;"] ++ wsX70 ++ wsX110 ++ ((vx_at0 RX11 79 "java/lang/IllegalArgumentException" ["java/lang/RuntimeException", "java/lang/Exception"]).filter goodWord) ++ (wsV RX11 345 RX11 yX11_theValues wsPX11_theValues) ++ (wsV RX11 352 RX7 yX7_addHolder wsPX7_addHolder))
theorem iwsPX11_holder_in7 : ∀ w ∈ wsX70, w ∈ wsPX11_holder := fun _ h => List.mem_cons_of_mem _ (List.mem_append_left _ (List.mem_append_left _ (List.mem_append_left _ (List.mem_append_left _ (List.mem_append_right _ h)))))
theorem iwsPX11_holder_in11 : ∀ w ∈ wsX110, w ∈ wsPX11_holder := fun _ h => List.mem_cons_of_mem _ (List.mem_append_left _ (List.mem_append_left _ (List.mem_append_left _ (List.mem_append_right _ h))))
theorem gwsPX11_holder_1 : GoodIn wsPX11_holder (wsV RX11 345 RX11 yX11_theValues wsPX11_theValues) := goodIn_sub (fun _ h => List.mem_cons_of_mem _ (List.mem_append_left _ (List.mem_append_right _ h))) (by decide +kernel)
theorem gwsPX11_holder_2 : GoodIn wsPX11_holder (wsV RX11 352 RX7 yX7_addHolder wsPX7_addHolder) := goodIn_sub (fun _ h => List.mem_cons_of_mem _ (List.mem_append_right _ h)) (by decide +kernel)
set_option maxHeartbeats 4000000 in
set_option maxRecDepth 100000 in
/-- holder(bits) -/
theorem p_X11_holder (l : Launch) (hst : l.stackTraces = false) (dC : Nat → ClassId) (dI : Nat → Nat → Nat) (h0 : Nat) (a : Nat → Nat) (hb9 : Int32) (sz : Nat) : vx_Met l yX11_holder wsPX11_holder ({ frames := 6, cells := 16, slots := 1414, locals := 81 }) (va_Pc [.ref h0, .int hb9] (fun U => U.heap.size = sz ∧ va_P (dC, dI) vwCl [(h0, .inr (11, [.ref (a 0), .ref (a 1), .ref (a 3), .ref (a 14), .int 0, .null, .null, .null, .null, .null, .null]))] U.heap ∧ va_K (dC, dI) vwCl [] U ∧ va_D (fun _ => True) [(h0, .inr (11, [.ref (a 0), .ref (a 1), .ref (a 3), .ref (a 14), .int 0, .null, .null, .null, .null, .null, .null]))] ∧ vx_Zq Bundle.tN "UNASSIGNED_STACK" Bundle.steD (va_A [(h0, .inr (11, [.ref (a 0), .ref (a 1), .ref (a 3), .ref (a 14), .int 0, .null, .null, .null, .null, .null, .null]))] sz) U U.heap ∧ vx_Zq Bundle.tN "SUPPRESSED_SENTINEL" Bundle.listD (va_A [(h0, .inr (11, [.ref (a 0), .ref (a 1), .ref (a 3), .ref (a 14), .int 0, .null, .null, .null, .null, .null, .null]))] sz) U U.heap ∧ (∀ w ∈ ngX11_79, va_Nw w U) ∧ va_Nw (.methodLinkNest RX11 343 yX7_init RX11) U)) (va_Qi (fun (r : Int32) (u : Unit) => r = 0 ∧ (1 ≤ (hb9).toInt ∧ (hb9).toInt ≤ 65535)) (fun (u : Unit) t => va_P (dC, dI) vwCl [] t.heap ∧ va_K (dC, dI) vwCl [] t ∧ va_D (va_A [(h0, .inr (11, [.ref (a 0), .ref (a 1), .ref (a 3), .ref (a 14), .int 0, .null, .null, .null, .null, .null, .null]))] sz) []) (va_A [(h0, .inr (11, [.ref (a 0), .ref (a 1), .ref (a 3), .ref (a 14), .int 0, .null, .null, .null, .null, .null, .null]))] sz)) (vx_X (fun n : String => (n = "java/lang/IllegalArgumentException" ∧ ((hb9).toInt < 1 ∨ 65535 < (hb9).toInt))) (fun E n t => E = n) (va_A [(h0, .inr (11, [.ref (a 0), .ref (a 1), .ref (a 3), .ref (a 14), .int 0, .null, .null, .null, .null, .null, .null]))] sz)) 16 1414 (va_A [(h0, .inr (11, [.ref (a 0), .ref (a 1), .ref (a 3), .ref (a 14), .int 0, .null, .null, .null, .null, .null, .null]))] sz) := by
  refine vx_ofW (cc := cX11_holder) (maxL := 2) (ret := (some .int)) (by decide) rfl ?_
  intro p e s m args below meth c s₁ B hml htab hv
  obtain ⟨rfl, hsz, hP, hK, hD0, hU, hN, hngX11_79, hnX11_343⟩ := hv
  have hx := B.exec
  have hb := B.bytes
  have hr := B.returns
  have hts := atoms_spec (ws := wsPX11_holder) B.pre
  have hown : s.vm.findClass RX11 = some m.cls := findClass_of_methodNamed B.named
  have hlocks := B.notSynchronized
  subst hsz
  have hD := hD0.self (sz := s.heap.size)
  generalize hAe : va_A [(h0, .inr (11, [.ref (a 0), .ref (a 1), .ref (a 3), .ref (a 14), .int 0, .null, .null, .null, .null, .null, .null]))] s.heap.size = A at hD hU hN ⊢
  have hA : ∀ q : Nat, s.heap.size ≤ q → A q := fun q h => by rw [← hAe]; exact Or.inr h
  have hS : va_S A s.heap s.heap [] := va_S.rf
  have hP : va_P (dC, dI) vwCl [(h0, .inr (11, [.ref (a 0), .ref (a 1), .ref (a 3), .ref (a 14), .int 0, .null, .null, .null, .null, .null, .null]))] s.heap := hP
  have hl := lv_entry ([.ref h0, .int hb9]) (n := 2) (Nat.le_of_ble_eq_true rfl)
  rw [lg_entry_eq]
  generalize (lg_sl ([.ref h0, .int hb9]) ++ List.replicate (2 - (lg_sl ([.ref h0, .int hb9])).length) Slot.unset).toArray = ls at hl ⊢
  have hl : lv_has ls 2 [(0, .ref h0), (1, .int hb9)] := hl
  refine lv_iload_n hx hb dX11_holder_0 rfl (lv_at hl 1 rfl) ?_
  refine lv_iconst (v := 1) hx hb dX11_holder_1 (by decide) ?_
  refine lv_icmp_lt (tgt := 12) hx hb dX11_holder_2 (by decide) (fun c_2 => ?_) (fun c_2 => ?_)
  · have t_2 : (hb9).toInt < 1 := toI_lt c_2 rfl (by decide)
    exact vx_throw0 (own := RX11) (cls := "java/lang/IllegalArgumentException") (names := ["java/lang/RuntimeException", "java/lang/Exception"]) (ik := 77) (ic := 79) (A := A) hx hb hst hown (by decide +kernel) (by decide +kernel) (hts (.classLink RX11 77 "java/lang/IllegalArgumentException") (by decide +kernel)) (hts (.initialized "java/lang/IllegalArgumentException") (by decide +kernel)) (vx_hat (B := ngX11_79) (fun w h => hts w (List.mem_cons_of_mem _ (List.mem_append_left _ (List.mem_append_left _ (List.mem_append_right _ h))))) (fun _ h => h) (fun w h => va_Nw.use (ngX11_79_ot w h) (hngX11_79 w h))) (by decide +kernel) hU hN hS (by rw [hml]; exact hl.1) dX11_holder_12 dX11_holder_15 dX11_holder_16 dX11_holder_19 (fun x hx9 => (htab x hx9).elim) (by decide +kernel) (Nat.le_of_ble_eq_true rfl) (by decide +kernel) (by decide +kernel) hlocks (fun t hvm hz hk => ⟨"java/lang/IllegalArgumentException", ⟨rfl, by omega⟩, rfl, ⟨Nat.le_trans hS.1 hz, fun q h1 h2 => (hk q (Nat.lt_of_lt_of_le h1 hS.1)).trans (hS.2.1 q h1 h2)⟩⟩) hS.2.2 (by decide +kernel) (by decide +kernel)
  · have t_2 : ¬ (hb9).toInt < 1 := toI_nlt c_2 rfl (by decide)
    refine lv_iload_n hx hb dX11_holder_5 rfl (lv_at hl 1 rfl) ?_
    refine lv_ldcw (v := 65535) hx hb hown (hts (.constant RX11 344 65535) (by decide +kernel)) dX11_holder_6 ?_
    refine lv_icmp_le (tgt := 20) hx hb dX11_holder_9 (by decide) (fun c_9 => ?_) (fun c_9 => ?_)
    · have t_9 : (hb9).toInt ≤ 65535 := toI_le c_9 rfl (by decide)
      refine lv_aload_n hx hb dX11_holder_20 rfl (lv_at hl 0 rfl) ?_
      have hPc := hP.sub (ws' := [(h0, .inr (11, [.ref (a 0), .ref (a 1), .ref (a 3), .ref (a 14), .int 0, .null, .null, .null, .null, .null, .null]))]) [0] rfl
      have hDc := hD.sub (ws' := [(h0, .inr (11, [.ref (a 0), .ref (a 1), .ref (a 3), .ref (a 14), .int 0, .null, .null, .null, .null, .null, .null]))]) [0] (by decide) rfl
      have hKc := hK.sub (tys' := []) [] rfl
      have hFc := va_free (wc := [(h0, .inr (11, [.ref (a 0), .ref (a 1), .ref (a 3), .ref (a 14), .int 0, .null, .null, .null, .null, .null, .null]))]) hD hS hA [0] rfl
      refine va_callr (va_runV (As := []) (rest := []) ⟨hx, hb, hml, hown, hts⟩ (p_X11_theValues l dC dI h0 a s.heap.size) (cwV 0 hts gwsPX11_holder_1 rfl rfl rfl (by decide +kernel) ⟨by decide +kernel, by decide +kernel⟩) ⟨fun a U g mk q => by obtain ⟨q0, q1, qP, qK, qD, qhnX11_343⟩ := q; exact ⟨q0, q1, qP, va_K.moved (u := U) (U := U.calling g mk a) (Vm.Alike.refl U.vm) qK, qD, va_Nw.same (u := U) (U := U.calling g mk a) rfl rfl qhnX11_343⟩, va_recv hKc hPc (ci := 11) (q0 := 0) rfl rfl, fun U hU9 hW => ⟨rfl, by rw [hU9], by rw [hU9]; exact hPc, va_K.moved hW.alike hKc, hDc.weaken (fun _ _ _ _ => trivial), va_Nw.warmM hW hnX11_343⟩⟩ rfl rfl hl.1 rfl (lv_room (Nat.le_of_ble_eq_true rfl)) dX11_holder_21 ⟨by decide +kernel, by decide +kernel⟩) hS (fun q _ h => hFc q h) hFc (fun u a21 t H1 locs ht hvm hw hB hz1 hk1 hS => ?_)
      obtain ⟨aa21, kk21⟩ := u
      obtain ⟨hP1, hK1, hD1⟩ := hB
      rw [ht] at hP1
      have hK1 := va_K.moved hvm.symm hK1
      obtain ⟨hP, hD⟩ := va_join (wr := []) (w1 := [(h0, .inr (11, [.ref (a 0), .ref (a 1), .ref (a 3), .ref (a 14), .int 0, .null, .null, .null, .ref a21, .null, .null])), (a21, .inr (7, [.int 0, .int 0, .ref (aa21 0), .ref (aa21 1), .ref (aa21 2), .ref (aa21 3), .ref (aa21 4), .ref (aa21 5), .ref (aa21 6), .ref (aa21 7), .ref (aa21 8), .int (-1), .int 0, .ref (aa21 9), .ref (aa21 10), .ref (aa21 11), .ref (aa21 12), .ref (aa21 13), .int 0, .int 0])), ((aa21 0), .inl ((kk21 0), 16, .inl (fun _ => 0))), ((aa21 1), .inl ((kk21 1), 10, .inl (fun _ => 0))), ((aa21 2), .inl ((kk21 2), 12, .inl (fun _ => 0))), ((aa21 3), .inl ((kk21 3), 12, .inl (fun _ => 0))), ((aa21 4), .inl ((kk21 4), 12, .inl (fun _ => 0))), ((aa21 5), .inl ((kk21 5), 12, .inl (fun _ => 0))), ((aa21 6), .inl ((kk21 6), 192, .inl (fun _ => 0))), ((aa21 7), .inl ((kk21 7), 12, .inl (fun _ => 0))), ((aa21 8), .inl ((kk21 8), 10, .inl (fun _ => 0))), ((aa21 9), .inl ((kk21 9), 33, .inr (.inl (fun _ => 0)))), ((aa21 10), .inl ((kk21 10), 33, .inr (.inl (fun _ => 0)))), ((aa21 11), .inl ((kk21 11), 1024, .inl (fun _ => 0))), ((aa21 12), .inl ((kk21 12), 10, .inl (fun _ => 0))), ((aa21 13), .inl ((kk21 13), 0, .inr (.inl (fun _ => 0))))]) hP hD [0] [] rfl rfl (by decide) (by decide) hk1 hFc hP1 hD1
      have hK := hK.app hK1
      generalize H1 = H at hP hS ⊢
      have hP : va_P (dC, dI) vwCl [(h0, .inr (11, [.ref (a 0), .ref (a 1), .ref (a 3), .ref (a 14), .int 0, .null, .null, .null, .ref a21, .null, .null])), (a21, .inr (7, [.int 0, .int 0, .ref (aa21 0), .ref (aa21 1), .ref (aa21 2), .ref (aa21 3), .ref (aa21 4), .ref (aa21 5), .ref (aa21 6), .ref (aa21 7), .ref (aa21 8), .int (-1), .int 0, .ref (aa21 9), .ref (aa21 10), .ref (aa21 11), .ref (aa21 12), .ref (aa21 13), .int 0, .int 0])), ((aa21 0), .inl ((kk21 0), 16, .inl (fun _ => 0))), ((aa21 1), .inl ((kk21 1), 10, .inl (fun _ => 0))), ((aa21 2), .inl ((kk21 2), 12, .inl (fun _ => 0))), ((aa21 3), .inl ((kk21 3), 12, .inl (fun _ => 0))), ((aa21 4), .inl ((kk21 4), 12, .inl (fun _ => 0))), ((aa21 5), .inl ((kk21 5), 12, .inl (fun _ => 0))), ((aa21 6), .inl ((kk21 6), 192, .inl (fun _ => 0))), ((aa21 7), .inl ((kk21 7), 12, .inl (fun _ => 0))), ((aa21 8), .inl ((kk21 8), 10, .inl (fun _ => 0))), ((aa21 9), .inl ((kk21 9), 33, .inr (.inl (fun _ => 0)))), ((aa21 10), .inl ((kk21 10), 33, .inr (.inl (fun _ => 0)))), ((aa21 11), .inl ((kk21 11), 1024, .inl (fun _ => 0))), ((aa21 12), .inl ((kk21 12), 10, .inl (fun _ => 0))), ((aa21 13), .inl ((kk21 13), 0, .inr (.inl (fun _ => 0))))] H := hP
      have hD : va_D A [(h0, .inr (11, [.ref (a 0), .ref (a 1), .ref (a 3), .ref (a 14), .int 0, .null, .null, .null, .ref a21, .null, .null])), (a21, .inr (7, [.int 0, .int 0, .ref (aa21 0), .ref (aa21 1), .ref (aa21 2), .ref (aa21 3), .ref (aa21 4), .ref (aa21 5), .ref (aa21 6), .ref (aa21 7), .ref (aa21 8), .int (-1), .int 0, .ref (aa21 9), .ref (aa21 10), .ref (aa21 11), .ref (aa21 12), .ref (aa21 13), .int 0, .int 0])), ((aa21 0), .inl ((kk21 0), 16, .inl (fun _ => 0))), ((aa21 1), .inl ((kk21 1), 10, .inl (fun _ => 0))), ((aa21 2), .inl ((kk21 2), 12, .inl (fun _ => 0))), ((aa21 3), .inl ((kk21 3), 12, .inl (fun _ => 0))), ((aa21 4), .inl ((kk21 4), 12, .inl (fun _ => 0))), ((aa21 5), .inl ((kk21 5), 12, .inl (fun _ => 0))), ((aa21 6), .inl ((kk21 6), 192, .inl (fun _ => 0))), ((aa21 7), .inl ((kk21 7), 12, .inl (fun _ => 0))), ((aa21 8), .inl ((kk21 8), 10, .inl (fun _ => 0))), ((aa21 9), .inl ((kk21 9), 33, .inr (.inl (fun _ => 0)))), ((aa21 10), .inl ((kk21 10), 33, .inr (.inl (fun _ => 0)))), ((aa21 11), .inl ((kk21 11), 1024, .inl (fun _ => 0))), ((aa21 12), .inl ((kk21 12), 10, .inl (fun _ => 0))), ((aa21 13), .inl ((kk21 13), 0, .inr (.inl (fun _ => 0))))] := hD
      have hK : va_K (dC, dI) vwCl [((kk21 0), .int), ((kk21 1), .int), ((kk21 2), .int), ((kk21 3), .int), ((kk21 4), .int), ((kk21 5), .int), ((kk21 6), .int), ((kk21 7), .int), ((kk21 8), .int), ((kk21 9), .long), ((kk21 10), .long), ((kk21 11), .int), ((kk21 12), .int), ((kk21 13), .long)] s := hK
      refine W.widen (k := 15) (n := 1408) (by decide +kernel) (by decide +kernel) ?_
      refine va_get (D := (dC, dI)) (ci := 7) (v := .int 0) (C := RX7) (T := TX7) (N := 20) hx hb hts iwsPX11_holder_in7 hown hK hP 1 rfl rfl 0 (by decide) (hts (.fieldLink RX11 349 "OptimaWorks$ValueDesk" "holders" "I") (by decide +kernel)) (fun _ h9 => h9) rfl dX11_holder_24 ?_
      refine lv_bipush (v := 10) hx hb dX11_holder_27 (by decide) ?_
      refine lv_icmp_lt (tgt := 40) hx hb dX11_holder_29 (by decide) (fun _ => ?_) (fun c9 => absurd (by decide) c9)
      refine lv_aload_n hx hb dX11_holder_40 rfl (lv_at hl 0 rfl) ?_
      refine va_get (D := (dC, dI)) (ci := 11) (v := .ref a21) (C := RX11) (T := TX11) (N := 11) hx hb hts iwsPX11_holder_in11 hown hK hP 0 rfl rfl 8 (by decide) (hts (.fieldLink RX11 337 "OptimaWorks" "values" "LOptimaWorks$ValueDesk;") (by decide +kernel)) (fun _ h9 => h9) rfl dX11_holder_41 ?_
      refine lv_iload_n hx hb dX11_holder_44 rfl (lv_at hl 1 rfl) ?_
      have hPc := hP.sub (ws' := [(a21, .inr (7, [.int 0, .int 0, .ref (aa21 0), .ref (aa21 1), .ref (aa21 2), .ref (aa21 3), .ref (aa21 4), .ref (aa21 5), .ref (aa21 6), .ref (aa21 7), .ref (aa21 8), .int (-1), .int 0, .ref (aa21 9), .ref (aa21 10), .ref (aa21 11), .ref (aa21 12), .ref (aa21 13), .int 0, .int 0])), ((aa21 1), .inl ((kk21 1), 10, .inl (fun _ => 0)))]) [1, 3] rfl
      have hDc := hD.sub (ws' := [(a21, .inr (7, [.int 0, .int 0, .ref (aa21 0), .ref (aa21 1), .ref (aa21 2), .ref (aa21 3), .ref (aa21 4), .ref (aa21 5), .ref (aa21 6), .ref (aa21 7), .ref (aa21 8), .int (-1), .int 0, .ref (aa21 9), .ref (aa21 10), .ref (aa21 11), .ref (aa21 12), .ref (aa21 13), .int 0, .int 0])), ((aa21 1), .inl ((kk21 1), 10, .inl (fun _ => 0)))]) [1, 3] (by decide) rfl
      have hKc := hK.sub (tys' := [((kk21 1), .int)]) [1] rfl
      have hFc := va_free (wc := [(a21, .inr (7, [.int 0, .int 0, .ref (aa21 0), .ref (aa21 1), .ref (aa21 2), .ref (aa21 3), .ref (aa21 4), .ref (aa21 5), .ref (aa21 6), .ref (aa21 7), .ref (aa21 8), .int (-1), .int 0, .ref (aa21 9), .ref (aa21 10), .ref (aa21 11), .ref (aa21 12), .ref (aa21 13), .int 0, .int 0])), ((aa21 1), .inl ((kk21 1), 10, .inl (fun _ => 0)))]) hD hS hA [1, 3] rfl
      refine va_calli (va_runV (As := [.int hb9]) (rest := []) ⟨hx, hb, hml, hown, hts⟩ (p_X7_addHolder l dC dI a21 aa21 kk21 hb9 H.size) (cwV 1 hts gwsPX11_holder_2 rfl rfl rfl (by decide +kernel) ⟨by decide +kernel, by decide +kernel⟩) ⟨fun a U g mk q => by obtain ⟨q0, q1, qP, qK, qD⟩ := q; exact ⟨q0, q1, qP, va_K.moved (u := U) (U := U.calling g mk a) (Vm.Alike.refl U.vm) qK, qD⟩, va_recv hKc hPc (ci := 7) (q0 := 0) rfl rfl, fun U hU9 hW => ⟨rfl, by rw [hU9], by rw [hU9]; exact hPc, va_K.moved hW.alike hKc, hDc.weaken (fun _ _ _ _ => trivial)⟩⟩ rfl rfl hl.1 rfl (lv_room (Nat.le_of_ble_eq_true rfl)) dX11_holder_45 ⟨by decide +kernel, by decide +kernel⟩) hS (fun q _ h => hFc q h) hFc (fun r45 u t H1 locs ht hvm hw hB hz1 hk1 hS => ?_)
      obtain ⟨hP1, hK1, hD1⟩ := hB
      rw [ht] at hP1
      have hK1 := va_K.moved hvm.symm hK1
      obtain ⟨hP, hD⟩ := va_join (wr := [(h0, .inr (11, [.ref (a 0), .ref (a 1), .ref (a 3), .ref (a 14), .int 0, .null, .null, .null, .ref a21, .null, .null])), ((aa21 0), .inl ((kk21 0), 16, .inl (fun _ => 0))), ((aa21 2), .inl ((kk21 2), 12, .inl (fun _ => 0))), ((aa21 3), .inl ((kk21 3), 12, .inl (fun _ => 0))), ((aa21 4), .inl ((kk21 4), 12, .inl (fun _ => 0))), ((aa21 5), .inl ((kk21 5), 12, .inl (fun _ => 0))), ((aa21 6), .inl ((kk21 6), 192, .inl (fun _ => 0))), ((aa21 7), .inl ((kk21 7), 12, .inl (fun _ => 0))), ((aa21 8), .inl ((kk21 8), 10, .inl (fun _ => 0))), ((aa21 9), .inl ((kk21 9), 33, .inr (.inl (fun _ => 0)))), ((aa21 10), .inl ((kk21 10), 33, .inr (.inl (fun _ => 0)))), ((aa21 11), .inl ((kk21 11), 1024, .inl (fun _ => 0))), ((aa21 12), .inl ((kk21 12), 10, .inl (fun _ => 0))), ((aa21 13), .inl ((kk21 13), 0, .inr (.inl (fun _ => 0))))]) (w1 := []) hP hD [1, 3] [0, 2, 4, 5, 6, 7, 8, 9, 10, 11, 12, 13, 14, 15] rfl rfl (by decide) (by decide) hk1 hFc hP1 hD1
      generalize H1 = H at hP hS ⊢
      have hP : va_P (dC, dI) vwCl [(h0, .inr (11, [.ref (a 0), .ref (a 1), .ref (a 3), .ref (a 14), .int 0, .null, .null, .null, .ref a21, .null, .null])), ((aa21 0), .inl ((kk21 0), 16, .inl (fun _ => 0))), ((aa21 2), .inl ((kk21 2), 12, .inl (fun _ => 0))), ((aa21 3), .inl ((kk21 3), 12, .inl (fun _ => 0))), ((aa21 4), .inl ((kk21 4), 12, .inl (fun _ => 0))), ((aa21 5), .inl ((kk21 5), 12, .inl (fun _ => 0))), ((aa21 6), .inl ((kk21 6), 192, .inl (fun _ => 0))), ((aa21 7), .inl ((kk21 7), 12, .inl (fun _ => 0))), ((aa21 8), .inl ((kk21 8), 10, .inl (fun _ => 0))), ((aa21 9), .inl ((kk21 9), 33, .inr (.inl (fun _ => 0)))), ((aa21 10), .inl ((kk21 10), 33, .inr (.inl (fun _ => 0)))), ((aa21 11), .inl ((kk21 11), 1024, .inl (fun _ => 0))), ((aa21 12), .inl ((kk21 12), 10, .inl (fun _ => 0))), ((aa21 13), .inl ((kk21 13), 0, .inr (.inl (fun _ => 0))))] H := hP
      have hD : va_D A [(h0, .inr (11, [.ref (a 0), .ref (a 1), .ref (a 3), .ref (a 14), .int 0, .null, .null, .null, .ref a21, .null, .null])), ((aa21 0), .inl ((kk21 0), 16, .inl (fun _ => 0))), ((aa21 2), .inl ((kk21 2), 12, .inl (fun _ => 0))), ((aa21 3), .inl ((kk21 3), 12, .inl (fun _ => 0))), ((aa21 4), .inl ((kk21 4), 12, .inl (fun _ => 0))), ((aa21 5), .inl ((kk21 5), 12, .inl (fun _ => 0))), ((aa21 6), .inl ((kk21 6), 192, .inl (fun _ => 0))), ((aa21 7), .inl ((kk21 7), 12, .inl (fun _ => 0))), ((aa21 8), .inl ((kk21 8), 10, .inl (fun _ => 0))), ((aa21 9), .inl ((kk21 9), 33, .inr (.inl (fun _ => 0)))), ((aa21 10), .inl ((kk21 10), 33, .inr (.inl (fun _ => 0)))), ((aa21 11), .inl ((kk21 11), 1024, .inl (fun _ => 0))), ((aa21 12), .inl ((kk21 12), 10, .inl (fun _ => 0))), ((aa21 13), .inl ((kk21 13), 0, .inr (.inl (fun _ => 0))))] := hD
      obtain rfl := hw
      refine vx_ret ?_
      refine W.widen (k := 16) (n := 1414) (by decide +kernel) (by decide +kernel) ?_
      exact W.iret (v := 0) hx hb hr (fun t ht hW => ⟨⟨0, (), rfl, by (refine ⟨?_, ?_⟩ <;> (first | rfl | assumption | trivial | omega | (simp [c_2, c_9]; done) | (simp; omega))), by rw [ht]; exact hP.sub [] rfl, va_K.moved hW.alike (hK.sub [] rfl), hD.sub [] (by decide) rfl⟩, hS.F ht⟩) hS.2.2 dX11_holder_48
    · have t_9 : ¬ (hb9).toInt ≤ 65535 := toI_nle c_9 rfl (by decide)
      exact vx_throw0 (own := RX11) (cls := "java/lang/IllegalArgumentException") (names := ["java/lang/RuntimeException", "java/lang/Exception"]) (ik := 77) (ic := 79) (A := A) hx hb hst hown (by decide +kernel) (by decide +kernel) (hts (.classLink RX11 77 "java/lang/IllegalArgumentException") (by decide +kernel)) (hts (.initialized "java/lang/IllegalArgumentException") (by decide +kernel)) (vx_hat (B := ngX11_79) (fun w h => hts w (List.mem_cons_of_mem _ (List.mem_append_left _ (List.mem_append_left _ (List.mem_append_right _ h))))) (fun _ h => h) (fun w h => va_Nw.use (ngX11_79_ot w h) (hngX11_79 w h))) (by decide +kernel) hU hN hS (by rw [hml]; exact hl.1) dX11_holder_12 dX11_holder_15 dX11_holder_16 dX11_holder_19 (fun x hx9 => (htab x hx9).elim) (by decide +kernel) (Nat.le_of_ble_eq_true rfl) (by decide +kernel) (by decide +kernel) hlocks (fun t hvm hz hk => ⟨"java/lang/IllegalArgumentException", ⟨rfl, by omega⟩, rfl, ⟨Nat.le_trans hS.1 hz, fun q h1 h2 => (hk q (Nat.lt_of_lt_of_le h1 hS.1)).trans (hS.2.1 q h1 h2)⟩⟩) hS.2.2 (by decide +kernel) (by decide +kernel)
theorem dX7_isSet_0 : decode cX7_isSet 0 = .ok (.iload_n 1, 1) := by decide +kernel
theorem dX7_isSet_1 : decode cX7_isSet 1 = .ok (.ifCond .le 17, 3) := by decide +kernel
theorem dX7_isSet_4 : decode cX7_isSet 4 = .ok (.iload_n 1, 1) := by decide +kernel
theorem dX7_isSet_5 : decode cX7_isSet 5 = .ok (.iconst 1, 1) := by decide +kernel
theorem dX7_isSet_6 : decode cX7_isSet 6 = .ok (.aload_n 0, 1) := by decide +kernel
theorem dX7_isSet_7 : decode cX7_isSet 7 = .ok (.getfield 59, 3) := by decide +kernel
theorem dX7_isSet_10 : decode cX7_isSet 10 = .ok (.ishl, 1) := by decide +kernel
theorem dX7_isSet_11 : decode cX7_isSet 11 = .ok (.if_icmp .ge 7, 3) := by decide +kernel
theorem dX7_isSet_18 : decode cX7_isSet 18 = .ok (.iconst 0, 1) := by decide +kernel
theorem dX7_isSet_19 : decode cX7_isSet 19 = .ok (.ireturn, 1) := by decide +kernel
def wsPX7_isSet : List Cond := .code yX7_isSet cX7_isSet 2 (some .boolean) :: ([.fieldLink RX7 59 "OptimaWorks$ValueDesk" "holders" "I"] ++ wsX70)
theorem iwsPX7_isSet_in7 : ∀ w ∈ wsX70, w ∈ wsPX7_isSet := fun _ h => List.mem_cons_of_mem _ (List.mem_append_right _ h)
set_option maxHeartbeats 4000000 in
set_option maxRecDepth 100000 in
/-- isSet(bits) -/
theorem p_X7_isSet (l : Launch) (dC : Nat → ClassId) (dI : Nat → Nat → Nat) (d0 : Nat) (bb : Nat → Nat) (qa : Int32) (sz : Nat) : Met l yX7_isSet wsPX7_isSet ({ frames := 0, cells := 0, slots := 0, locals := 0 }) (va_Pc [.ref d0, .int qa] (fun U => U.heap.size = sz ∧ va_P (dC, dI) vwCl [(d0, .inr (7, [.int 0, .int 0, .ref (bb 0), .ref (bb 1), .ref (bb 2), .ref (bb 3), .ref (bb 4), .ref (bb 5), .ref (bb 6), .ref (bb 7), .ref (bb 8), .int (-1), .int 0, .ref (bb 9), .ref (bb 10), .ref (bb 11), .ref (bb 12), .ref (bb 13), .int 0, .int 0]))] U.heap ∧ va_K (dC, dI) vwCl [] U ∧ va_D (fun _ => True) [(d0, .inr (7, [.int 0, .int 0, .ref (bb 0), .ref (bb 1), .ref (bb 2), .ref (bb 3), .ref (bb 4), .ref (bb 5), .ref (bb 6), .ref (bb 7), .ref (bb 8), .int (-1), .int 0, .ref (bb 9), .ref (bb 10), .ref (bb 11), .ref (bb 12), .ref (bb 13), .int 0, .int 0]))])) (va_Qi (fun (r : Int32) (u : Unit) => r = 0) (fun (u : Unit) t => va_P (dC, dI) vwCl [(d0, .inr (7, [.int 0, .int 0, .ref (bb 0), .ref (bb 1), .ref (bb 2), .ref (bb 3), .ref (bb 4), .ref (bb 5), .ref (bb 6), .ref (bb 7), .ref (bb 8), .int (-1), .int 0, .ref (bb 9), .ref (bb 10), .ref (bb 11), .ref (bb 12), .ref (bb 13), .int 0, .int 0]))] t.heap ∧ va_K (dC, dI) vwCl [] t ∧ va_D (va_A [(d0, .inr (7, [.int 0, .int 0, .ref (bb 0), .ref (bb 1), .ref (bb 2), .ref (bb 3), .ref (bb 4), .ref (bb 5), .ref (bb 6), .ref (bb 7), .ref (bb 8), .int (-1), .int 0, .ref (bb 9), .ref (bb 10), .ref (bb 11), .ref (bb 12), .ref (bb 13), .int 0, .int 0]))] sz) [(d0, .inr (7, [.int 0, .int 0, .ref (bb 0), .ref (bb 1), .ref (bb 2), .ref (bb 3), .ref (bb 4), .ref (bb 5), .ref (bb 6), .ref (bb 7), .ref (bb 8), .int (-1), .int 0, .ref (bb 9), .ref (bb 10), .ref (bb 11), .ref (bb 12), .ref (bb 13), .int 0, .int 0]))]) (va_A [(d0, .inr (7, [.int 0, .int 0, .ref (bb 0), .ref (bb 1), .ref (bb 2), .ref (bb 3), .ref (bb 4), .ref (bb 5), .ref (bb 6), .ref (bb 7), .ref (bb 8), .int (-1), .int 0, .ref (bb 9), .ref (bb 10), .ref (bb 11), .ref (bb 12), .ref (bb 13), .int 0, .int 0]))] sz)) 0 0 (va_A [(d0, .inr (7, [.int 0, .int 0, .ref (bb 0), .ref (bb 1), .ref (bb 2), .ref (bb 3), .ref (bb 4), .ref (bb 5), .ref (bb 6), .ref (bb 7), .ref (bb 8), .int (-1), .int 0, .ref (bb 9), .ref (bb 10), .ref (bb 11), .ref (bb 12), .ref (bb 13), .int 0, .int 0]))] sz) := by
  refine Met.ofW (cc := cX7_isSet) (maxL := 2) (ret := (some .boolean)) (by decide) rfl ?_
  intro p e s m args below meth c s₁ B hml hv
  obtain ⟨rfl, hsz, hP, hK, hD0⟩ := hv
  have hx := B.exec
  have hb := B.bytes
  have hr := B.returns
  have hts := atoms_spec (ws := wsPX7_isSet) B.pre
  have hown : s.vm.findClass RX7 = some m.cls := findClass_of_methodNamed B.named
  have hlocks := B.notSynchronized
  subst hsz
  have hD := hD0.self (sz := s.heap.size)
  generalize hAe : va_A [(d0, .inr (7, [.int 0, .int 0, .ref (bb 0), .ref (bb 1), .ref (bb 2), .ref (bb 3), .ref (bb 4), .ref (bb 5), .ref (bb 6), .ref (bb 7), .ref (bb 8), .int (-1), .int 0, .ref (bb 9), .ref (bb 10), .ref (bb 11), .ref (bb 12), .ref (bb 13), .int 0, .int 0]))] s.heap.size = A at hD ⊢
  have hA : ∀ q : Nat, s.heap.size ≤ q → A q := fun q h => by rw [← hAe]; exact Or.inr h
  have hS : va_S A s.heap s.heap [] := va_S.rf
  have hP : va_P (dC, dI) vwCl [(d0, .inr (7, [.int 0, .int 0, .ref (bb 0), .ref (bb 1), .ref (bb 2), .ref (bb 3), .ref (bb 4), .ref (bb 5), .ref (bb 6), .ref (bb 7), .ref (bb 8), .int (-1), .int 0, .ref (bb 9), .ref (bb 10), .ref (bb 11), .ref (bb 12), .ref (bb 13), .int 0, .int 0]))] s.heap := hP
  have hl := lv_entry ([.ref d0, .int qa]) (n := 2) (Nat.le_of_ble_eq_true rfl)
  rw [lg_entry_eq]
  generalize (lg_sl ([.ref d0, .int qa]) ++ List.replicate (2 - (lg_sl ([.ref d0, .int qa])).length) Slot.unset).toArray = ls at hl ⊢
  have hl : lv_has ls 2 [(0, .ref d0), (1, .int qa)] := hl
  refine lv_iload_n hx hb dX7_isSet_0 rfl (lv_at hl 1 rfl) ?_
  refine lv_if_le (tgt := 18) hx hb dX7_isSet_1 (by decide) (fun c_1 => ?_) (fun c_1 => ?_)
  · have t_1 : (qa).toInt ≤ 0 := toI_le c_1 rfl (by decide)
    refine lv_iconst (v := 0) hx hb dX7_isSet_18 (by decide) ?_
    refine W.widen (k := 0) (n := 0) (by decide +kernel) (by decide +kernel) ?_
    exact W.zret (v := 0) hx hb hr rfl (fun t ht hW => ⟨⟨0, (), rfl, by (first | rfl | assumption | trivial | omega | (simp [c_1]; done) | (simp; omega)), by rw [ht]; exact hP.sub [0] rfl, va_K.moved hW.alike (hK.sub [] rfl), hD.sub [0] (by decide) rfl⟩, hS.F ht⟩) hS.2.2 dX7_isSet_19
  · have t_1 : ¬ (qa).toInt ≤ 0 := toI_nle c_1 rfl (by decide)
    refine lv_iload_n hx hb dX7_isSet_4 rfl (lv_at hl 1 rfl) ?_
    refine lv_iconst (v := 1) hx hb dX7_isSet_5 (by decide) ?_
    refine lv_aload_n hx hb dX7_isSet_6 rfl (lv_at hl 0 rfl) ?_
    refine va_get (D := (dC, dI)) (ci := 7) (v := .int 0) (C := RX7) (T := TX7) (N := 20) hx hb hts iwsPX7_isSet_in7 hown hK hP 0 rfl rfl 0 (by decide) (hts (.fieldLink RX7 59 "OptimaWorks$ValueDesk" "holders" "I") (by decide +kernel)) (fun _ h9 => h9) rfl dX7_isSet_7 ?_
    refine lv_ishl hx hb dX7_isSet_10 ?_
    refine lv_topi (fun y1 hy1 => ?_)
    obtain rfl : 1 = y1 := (hy1.trans (by decide)).symm
    refine lv_icmp_ge (tgt := 18) hx hb dX7_isSet_11 (by decide) (fun c_11 => ?_) (fun c9 => False.elim (by have t9 : ¬ (qa).toInt ≥ 1 := toI_nge c9 rfl (by decide); omega))
    have t_11 : (qa).toInt ≥ 1 := toI_ge c_11 rfl (by decide)
    refine lv_iconst (v := 0) hx hb dX7_isSet_18 (by decide) ?_
    refine W.widen (k := 0) (n := 0) (by decide +kernel) (by decide +kernel) ?_
    exact W.zret (v := 0) hx hb hr rfl (fun t ht hW => ⟨⟨0, (), rfl, by (first | rfl | assumption | trivial | omega | (simp [c_1]; done) | (simp; omega)), by rw [ht]; exact hP.sub [0] rfl, va_K.moved hW.alike (hK.sub [] rfl), hD.sub [0] (by decide) rfl⟩, hS.F ht⟩) hS.2.2 dX7_isSet_19
theorem dX7_isHolder_0 : decode cX7_isHolder 0 = .ok (.iload_n 1, 1) := by decide +kernel
theorem dX7_isHolder_1 : decode cX7_isHolder 1 = .ok (.ifCond .lt 15, 3) := by decide +kernel
theorem dX7_isHolder_4 : decode cX7_isHolder 4 = .ok (.iload_n 1, 1) := by decide +kernel
theorem dX7_isHolder_5 : decode cX7_isHolder 5 = .ok (.aload_n 0, 1) := by decide +kernel
theorem dX7_isHolder_6 : decode cX7_isHolder 6 = .ok (.getfield 59, 3) := by decide +kernel
theorem dX7_isHolder_9 : decode cX7_isHolder 9 = .ok (.if_icmp .ge 7, 3) := by decide +kernel
theorem dX7_isHolder_16 : decode cX7_isHolder 16 = .ok (.iconst 0, 1) := by decide +kernel
theorem dX7_isHolder_17 : decode cX7_isHolder 17 = .ok (.ireturn, 1) := by decide +kernel
def wsPX7_isHolder : List Cond := .code yX7_isHolder cX7_isHolder 2 (some .boolean) :: ([.fieldLink RX7 59 "OptimaWorks$ValueDesk" "holders" "I"] ++ wsX70)
theorem iwsPX7_isHolder_in7 : ∀ w ∈ wsX70, w ∈ wsPX7_isHolder := fun _ h => List.mem_cons_of_mem _ (List.mem_append_right _ h)
set_option maxHeartbeats 4000000 in
set_option maxRecDepth 100000 in
/-- isHolder(i) -/
theorem p_X7_isHolder (l : Launch) (dC : Nat → ClassId) (dI : Nat → Nat → Nat) (d0 : Nat) (bb : Nat → Nat) (qa : Int32) (sz : Nat) : Met l yX7_isHolder wsPX7_isHolder ({ frames := 0, cells := 0, slots := 0, locals := 0 }) (va_Pc [.ref d0, .int qa] (fun U => U.heap.size = sz ∧ va_P (dC, dI) vwCl [(d0, .inr (7, [.int 0, .int 0, .ref (bb 0), .ref (bb 1), .ref (bb 2), .ref (bb 3), .ref (bb 4), .ref (bb 5), .ref (bb 6), .ref (bb 7), .ref (bb 8), .int (-1), .int 0, .ref (bb 9), .ref (bb 10), .ref (bb 11), .ref (bb 12), .ref (bb 13), .int 0, .int 0]))] U.heap ∧ va_K (dC, dI) vwCl [] U ∧ va_D (fun _ => True) [(d0, .inr (7, [.int 0, .int 0, .ref (bb 0), .ref (bb 1), .ref (bb 2), .ref (bb 3), .ref (bb 4), .ref (bb 5), .ref (bb 6), .ref (bb 7), .ref (bb 8), .int (-1), .int 0, .ref (bb 9), .ref (bb 10), .ref (bb 11), .ref (bb 12), .ref (bb 13), .int 0, .int 0]))])) (va_Qi (fun (r : Int32) (u : Unit) => r = 0) (fun (u : Unit) t => va_P (dC, dI) vwCl [(d0, .inr (7, [.int 0, .int 0, .ref (bb 0), .ref (bb 1), .ref (bb 2), .ref (bb 3), .ref (bb 4), .ref (bb 5), .ref (bb 6), .ref (bb 7), .ref (bb 8), .int (-1), .int 0, .ref (bb 9), .ref (bb 10), .ref (bb 11), .ref (bb 12), .ref (bb 13), .int 0, .int 0]))] t.heap ∧ va_K (dC, dI) vwCl [] t ∧ va_D (va_A [(d0, .inr (7, [.int 0, .int 0, .ref (bb 0), .ref (bb 1), .ref (bb 2), .ref (bb 3), .ref (bb 4), .ref (bb 5), .ref (bb 6), .ref (bb 7), .ref (bb 8), .int (-1), .int 0, .ref (bb 9), .ref (bb 10), .ref (bb 11), .ref (bb 12), .ref (bb 13), .int 0, .int 0]))] sz) [(d0, .inr (7, [.int 0, .int 0, .ref (bb 0), .ref (bb 1), .ref (bb 2), .ref (bb 3), .ref (bb 4), .ref (bb 5), .ref (bb 6), .ref (bb 7), .ref (bb 8), .int (-1), .int 0, .ref (bb 9), .ref (bb 10), .ref (bb 11), .ref (bb 12), .ref (bb 13), .int 0, .int 0]))]) (va_A [(d0, .inr (7, [.int 0, .int 0, .ref (bb 0), .ref (bb 1), .ref (bb 2), .ref (bb 3), .ref (bb 4), .ref (bb 5), .ref (bb 6), .ref (bb 7), .ref (bb 8), .int (-1), .int 0, .ref (bb 9), .ref (bb 10), .ref (bb 11), .ref (bb 12), .ref (bb 13), .int 0, .int 0]))] sz)) 0 0 (va_A [(d0, .inr (7, [.int 0, .int 0, .ref (bb 0), .ref (bb 1), .ref (bb 2), .ref (bb 3), .ref (bb 4), .ref (bb 5), .ref (bb 6), .ref (bb 7), .ref (bb 8), .int (-1), .int 0, .ref (bb 9), .ref (bb 10), .ref (bb 11), .ref (bb 12), .ref (bb 13), .int 0, .int 0]))] sz) := by
  refine Met.ofW (cc := cX7_isHolder) (maxL := 2) (ret := (some .boolean)) (by decide) rfl ?_
  intro p e s m args below meth c s₁ B hml hv
  obtain ⟨rfl, hsz, hP, hK, hD0⟩ := hv
  have hx := B.exec
  have hb := B.bytes
  have hr := B.returns
  have hts := atoms_spec (ws := wsPX7_isHolder) B.pre
  have hown : s.vm.findClass RX7 = some m.cls := findClass_of_methodNamed B.named
  have hlocks := B.notSynchronized
  subst hsz
  have hD := hD0.self (sz := s.heap.size)
  generalize hAe : va_A [(d0, .inr (7, [.int 0, .int 0, .ref (bb 0), .ref (bb 1), .ref (bb 2), .ref (bb 3), .ref (bb 4), .ref (bb 5), .ref (bb 6), .ref (bb 7), .ref (bb 8), .int (-1), .int 0, .ref (bb 9), .ref (bb 10), .ref (bb 11), .ref (bb 12), .ref (bb 13), .int 0, .int 0]))] s.heap.size = A at hD ⊢
  have hA : ∀ q : Nat, s.heap.size ≤ q → A q := fun q h => by rw [← hAe]; exact Or.inr h
  have hS : va_S A s.heap s.heap [] := va_S.rf
  have hP : va_P (dC, dI) vwCl [(d0, .inr (7, [.int 0, .int 0, .ref (bb 0), .ref (bb 1), .ref (bb 2), .ref (bb 3), .ref (bb 4), .ref (bb 5), .ref (bb 6), .ref (bb 7), .ref (bb 8), .int (-1), .int 0, .ref (bb 9), .ref (bb 10), .ref (bb 11), .ref (bb 12), .ref (bb 13), .int 0, .int 0]))] s.heap := hP
  have hl := lv_entry ([.ref d0, .int qa]) (n := 2) (Nat.le_of_ble_eq_true rfl)
  rw [lg_entry_eq]
  generalize (lg_sl ([.ref d0, .int qa]) ++ List.replicate (2 - (lg_sl ([.ref d0, .int qa])).length) Slot.unset).toArray = ls at hl ⊢
  have hl : lv_has ls 2 [(0, .ref d0), (1, .int qa)] := hl
  refine lv_iload_n hx hb dX7_isHolder_0 rfl (lv_at hl 1 rfl) ?_
  refine lv_if_lt (tgt := 16) hx hb dX7_isHolder_1 (by decide) (fun c_1 => ?_) (fun c_1 => ?_)
  · have t_1 : (qa).toInt < 0 := toI_lt c_1 rfl (by decide)
    refine lv_iconst (v := 0) hx hb dX7_isHolder_16 (by decide) ?_
    refine W.widen (k := 0) (n := 0) (by decide +kernel) (by decide +kernel) ?_
    exact W.zret (v := 0) hx hb hr rfl (fun t ht hW => ⟨⟨0, (), rfl, by (first | rfl | assumption | trivial | omega | (simp [c_1]; done) | (simp; omega)), by rw [ht]; exact hP.sub [0] rfl, va_K.moved hW.alike (hK.sub [] rfl), hD.sub [0] (by decide) rfl⟩, hS.F ht⟩) hS.2.2 dX7_isHolder_17
  · have t_1 : ¬ (qa).toInt < 0 := toI_nlt c_1 rfl (by decide)
    refine lv_iload_n hx hb dX7_isHolder_4 rfl (lv_at hl 1 rfl) ?_
    refine lv_aload_n hx hb dX7_isHolder_5 rfl (lv_at hl 0 rfl) ?_
    refine va_get (D := (dC, dI)) (ci := 7) (v := .int 0) (C := RX7) (T := TX7) (N := 20) hx hb hts iwsPX7_isHolder_in7 hown hK hP 0 rfl rfl 0 (by decide) (hts (.fieldLink RX7 59 "OptimaWorks$ValueDesk" "holders" "I") (by decide +kernel)) (fun _ h9 => h9) rfl dX7_isHolder_6 ?_
    refine lv_icmp_ge (tgt := 16) hx hb dX7_isHolder_9 (by decide) (fun c_9 => ?_) (fun c9 => False.elim (by have t9 : ¬ (qa).toInt ≥ 0 := toI_nge c9 rfl (by decide); omega))
    have t_9 : (qa).toInt ≥ 0 := toI_ge c_9 rfl (by decide)
    refine lv_iconst (v := 0) hx hb dX7_isHolder_16 (by decide) ?_
    refine W.widen (k := 0) (n := 0) (by decide +kernel) (by decide +kernel) ?_
    exact W.zret (v := 0) hx hb hr rfl (fun t ht hW => ⟨⟨0, (), rfl, by (first | rfl | assumption | trivial | omega | (simp [c_1]; done) | (simp; omega)), by rw [ht]; exact hP.sub [0] rfl, va_K.moved hW.alike (hK.sub [] rfl), hD.sub [0] (by decide) rfl⟩, hS.F ht⟩) hS.2.2 dX7_isHolder_17
theorem dX7_isRule_0 : decode cX7_isRule 0 = .ok (.iload_n 1, 1) := by decide +kernel
theorem dX7_isRule_1 : decode cX7_isRule 1 = .ok (.tableswitch 171 0 4 #[35, 41, 73, 108, 144], 35) := by decide +kernel
theorem dX7_isRule_36 : decode cX7_isRule 36 = .ok (.aload_n 0, 1) := by decide +kernel
theorem dX7_isRule_37 : decode cX7_isRule 37 = .ok (.iload_n 2, 1) := by decide +kernel
theorem dX7_isRule_38 : decode cX7_isRule 38 = .ok (.invokevirtual 72, 3) := by decide +kernel
theorem dX7_isRule_41 : decode cX7_isRule 41 = .ok (.ireturn, 1) := by decide +kernel
theorem dX7_isRule_42 : decode cX7_isRule 42 = .ok (.aload_n 0, 1) := by decide +kernel
theorem dX7_isRule_43 : decode cX7_isRule 43 = .ok (.iload_n 2, 1) := by decide +kernel
theorem dX7_isRule_44 : decode cX7_isRule 44 = .ok (.invokevirtual 76, 3) := by decide +kernel
theorem dX7_isRule_47 : decode cX7_isRule 47 = .ok (.ifCond .eq 25, 3) := by decide +kernel
theorem dX7_isRule_72 : decode cX7_isRule 72 = .ok (.iconst 0, 1) := by decide +kernel
theorem dX7_isRule_73 : decode cX7_isRule 73 = .ok (.ireturn, 1) := by decide +kernel
theorem dX7_isRule_74 : decode cX7_isRule 74 = .ok (.aload_n 0, 1) := by decide +kernel
theorem dX7_isRule_75 : decode cX7_isRule 75 = .ok (.iload_n 2, 1) := by decide +kernel
theorem dX7_isRule_76 : decode cX7_isRule 76 = .ok (.invokevirtual 72, 3) := by decide +kernel
theorem dX7_isRule_79 : decode cX7_isRule 79 = .ok (.ifCond .eq 28, 3) := by decide +kernel
theorem dX7_isRule_107 : decode cX7_isRule 107 = .ok (.iconst 0, 1) := by decide +kernel
theorem dX7_isRule_108 : decode cX7_isRule 108 = .ok (.ireturn, 1) := by decide +kernel
theorem dX7_isRule_109 : decode cX7_isRule 109 = .ok (.aload_n 0, 1) := by decide +kernel
theorem dX7_isRule_110 : decode cX7_isRule 110 = .ok (.iload_n 2, 1) := by decide +kernel
theorem dX7_isRule_111 : decode cX7_isRule 111 = .ok (.invokevirtual 72, 3) := by decide +kernel
theorem dX7_isRule_114 : decode cX7_isRule 114 = .ok (.ifCond .eq 29, 3) := by decide +kernel
theorem dX7_isRule_143 : decode cX7_isRule 143 = .ok (.iconst 0, 1) := by decide +kernel
theorem dX7_isRule_144 : decode cX7_isRule 144 = .ok (.ireturn, 1) := by decide +kernel
theorem dX7_isRule_145 : decode cX7_isRule 145 = .ok (.aload_n 0, 1) := by decide +kernel
theorem dX7_isRule_146 : decode cX7_isRule 146 = .ok (.iload_n 2, 1) := by decide +kernel
theorem dX7_isRule_147 : decode cX7_isRule 147 = .ok (.invokevirtual 76, 3) := by decide +kernel
theorem dX7_isRule_150 : decode cX7_isRule 150 = .ok (.ifCond .eq 20, 3) := by decide +kernel
theorem dX7_isRule_170 : decode cX7_isRule 170 = .ok (.iconst 0, 1) := by decide +kernel
theorem dX7_isRule_171 : decode cX7_isRule 171 = .ok (.ireturn, 1) := by decide +kernel
theorem dX7_isRule_172 : decode cX7_isRule 172 = .ok (.iconst 0, 1) := by decide +kernel
theorem dX7_isRule_173 : decode cX7_isRule 173 = .ok (.ireturn, 1) := by decide +kernel
def wsPX7_isRule : List Cond := .code yX7_isRule cX7_isRule 5 (some .boolean) :: ([] ++ (wsV RX7 72 RX7 yX7_isSet wsPX7_isSet) ++ (wsV RX7 76 RX7 yX7_isHolder wsPX7_isHolder))
theorem gwsPX7_isRule_0 : GoodIn wsPX7_isRule (wsV RX7 72 RX7 yX7_isSet wsPX7_isSet) := goodIn_sub (fun _ h => List.mem_cons_of_mem _ (List.mem_append_left _ (List.mem_append_right _ h))) (by decide +kernel)
theorem gwsPX7_isRule_1 : GoodIn wsPX7_isRule (wsV RX7 76 RX7 yX7_isHolder wsPX7_isHolder) := goodIn_sub (fun _ h => List.mem_cons_of_mem _ (List.mem_append_right _ h)) (by decide +kernel)
set_option maxHeartbeats 4000000 in
set_option maxRecDepth 100000 in
/-- isRule(..) -/
theorem p_X7_isRule (l : Launch) (dC : Nat → ClassId) (dI : Nat → Nat → Nat) (d0 : Nat) (bb : Nat → Nat) (qk : Int32) (qa : Int32) (qb : Int32) (qc : Int32) (sz : Nat) : Met l yX7_isRule wsPX7_isRule ({ frames := 1, cells := 0, slots := 0, locals := 21 }) (va_Pc [.ref d0, .int qk, .int qa, .int qb, .int qc] (fun U => U.heap.size = sz ∧ va_P (dC, dI) vwCl [(d0, .inr (7, [.int 0, .int 0, .ref (bb 0), .ref (bb 1), .ref (bb 2), .ref (bb 3), .ref (bb 4), .ref (bb 5), .ref (bb 6), .ref (bb 7), .ref (bb 8), .int (-1), .int 0, .ref (bb 9), .ref (bb 10), .ref (bb 11), .ref (bb 12), .ref (bb 13), .int 0, .int 0]))] U.heap ∧ va_K (dC, dI) vwCl [] U ∧ va_D (fun _ => True) [(d0, .inr (7, [.int 0, .int 0, .ref (bb 0), .ref (bb 1), .ref (bb 2), .ref (bb 3), .ref (bb 4), .ref (bb 5), .ref (bb 6), .ref (bb 7), .ref (bb 8), .int (-1), .int 0, .ref (bb 9), .ref (bb 10), .ref (bb 11), .ref (bb 12), .ref (bb 13), .int 0, .int 0]))])) (va_Qi (fun (r : Int32) (u : Unit) => r = 0) (fun (u : Unit) t => va_P (dC, dI) vwCl [] t.heap ∧ va_K (dC, dI) vwCl [] t ∧ va_D (va_A [(d0, .inr (7, [.int 0, .int 0, .ref (bb 0), .ref (bb 1), .ref (bb 2), .ref (bb 3), .ref (bb 4), .ref (bb 5), .ref (bb 6), .ref (bb 7), .ref (bb 8), .int (-1), .int 0, .ref (bb 9), .ref (bb 10), .ref (bb 11), .ref (bb 12), .ref (bb 13), .int 0, .int 0]))] sz) []) (va_A [(d0, .inr (7, [.int 0, .int 0, .ref (bb 0), .ref (bb 1), .ref (bb 2), .ref (bb 3), .ref (bb 4), .ref (bb 5), .ref (bb 6), .ref (bb 7), .ref (bb 8), .int (-1), .int 0, .ref (bb 9), .ref (bb 10), .ref (bb 11), .ref (bb 12), .ref (bb 13), .int 0, .int 0]))] sz)) 0 0 (va_A [(d0, .inr (7, [.int 0, .int 0, .ref (bb 0), .ref (bb 1), .ref (bb 2), .ref (bb 3), .ref (bb 4), .ref (bb 5), .ref (bb 6), .ref (bb 7), .ref (bb 8), .int (-1), .int 0, .ref (bb 9), .ref (bb 10), .ref (bb 11), .ref (bb 12), .ref (bb 13), .int 0, .int 0]))] sz) := by
  refine Met.ofW (cc := cX7_isRule) (maxL := 5) (ret := (some .boolean)) (by decide) rfl ?_
  intro p e s m args below meth c s₁ B hml hv
  obtain ⟨rfl, hsz, hP, hK, hD0⟩ := hv
  have hx := B.exec
  have hb := B.bytes
  have hr := B.returns
  have hts := atoms_spec (ws := wsPX7_isRule) B.pre
  have hown : s.vm.findClass RX7 = some m.cls := findClass_of_methodNamed B.named
  have hlocks := B.notSynchronized
  subst hsz
  have hD := hD0.self (sz := s.heap.size)
  generalize hAe : va_A [(d0, .inr (7, [.int 0, .int 0, .ref (bb 0), .ref (bb 1), .ref (bb 2), .ref (bb 3), .ref (bb 4), .ref (bb 5), .ref (bb 6), .ref (bb 7), .ref (bb 8), .int (-1), .int 0, .ref (bb 9), .ref (bb 10), .ref (bb 11), .ref (bb 12), .ref (bb 13), .int 0, .int 0]))] s.heap.size = A at hD ⊢
  have hA : ∀ q : Nat, s.heap.size ≤ q → A q := fun q h => by rw [← hAe]; exact Or.inr h
  have hS : va_S A s.heap s.heap [] := va_S.rf
  have hP : va_P (dC, dI) vwCl [(d0, .inr (7, [.int 0, .int 0, .ref (bb 0), .ref (bb 1), .ref (bb 2), .ref (bb 3), .ref (bb 4), .ref (bb 5), .ref (bb 6), .ref (bb 7), .ref (bb 8), .int (-1), .int 0, .ref (bb 9), .ref (bb 10), .ref (bb 11), .ref (bb 12), .ref (bb 13), .int 0, .int 0]))] s.heap := hP
  have hl := lv_entry ([.ref d0, .int qk, .int qa, .int qb, .int qc]) (n := 5) (Nat.le_of_ble_eq_true rfl)
  rw [lg_entry_eq]
  generalize (lg_sl ([.ref d0, .int qk, .int qa, .int qb, .int qc]) ++ List.replicate (5 - (lg_sl ([.ref d0, .int qk, .int qa, .int qb, .int qc])).length) Slot.unset).toArray = ls at hl ⊢
  have hl : lv_has ls 5 [(0, .ref d0), (1, .int qk), (2, .int qa), (3, .int qb), (4, .int qc)] := hl
  refine lv_iload_n hx hb dX7_isRule_0 rfl (lv_at hl 1 rfl) ?_
  by_cases s_1_0 : qk = 0
  · have ts_1_0 : (qk).toInt = 0 := toI_eq s_1_0 rfl (by decide)
    refine lv_tableIn (off := 35) (tgt := 36) hx hb dX7_isRule_1 (by rw [s_1_0]; decide) (by rw [s_1_0]; decide) (by rw [s_1_0]; decide) (by decide) ?_
    refine lv_aload_n hx hb dX7_isRule_36 rfl (lv_at hl 0 rfl) ?_
    refine lv_iload_n hx hb dX7_isRule_37 rfl (lv_at hl 2 rfl) ?_
    have hPc := hP.sub (ws' := [(d0, .inr (7, [.int 0, .int 0, .ref (bb 0), .ref (bb 1), .ref (bb 2), .ref (bb 3), .ref (bb 4), .ref (bb 5), .ref (bb 6), .ref (bb 7), .ref (bb 8), .int (-1), .int 0, .ref (bb 9), .ref (bb 10), .ref (bb 11), .ref (bb 12), .ref (bb 13), .int 0, .int 0]))]) [0] rfl
    have hDc := hD.sub (ws' := [(d0, .inr (7, [.int 0, .int 0, .ref (bb 0), .ref (bb 1), .ref (bb 2), .ref (bb 3), .ref (bb 4), .ref (bb 5), .ref (bb 6), .ref (bb 7), .ref (bb 8), .int (-1), .int 0, .ref (bb 9), .ref (bb 10), .ref (bb 11), .ref (bb 12), .ref (bb 13), .int 0, .int 0]))]) [0] (by decide) rfl
    have hKc := hK.sub (tys' := []) [] rfl
    have hFc := va_free (wc := [(d0, .inr (7, [.int 0, .int 0, .ref (bb 0), .ref (bb 1), .ref (bb 2), .ref (bb 3), .ref (bb 4), .ref (bb 5), .ref (bb 6), .ref (bb 7), .ref (bb 8), .int (-1), .int 0, .ref (bb 9), .ref (bb 10), .ref (bb 11), .ref (bb 12), .ref (bb 13), .int 0, .int 0]))]) hD hS hA [0] rfl
    refine va_calli (va_runV (As := [.int qa]) (rest := []) ⟨hx, hb, hml, hown, hts⟩ (p_X7_isSet l dC dI d0 bb qa s.heap.size) (cwV 1 hts gwsPX7_isRule_0 rfl rfl rfl (by decide +kernel) ⟨by decide +kernel, by decide +kernel⟩) ⟨fun a U g mk q => by obtain ⟨q0, q1, qP, qK, qD⟩ := q; exact ⟨q0, q1, qP, va_K.moved (u := U) (U := U.calling g mk a) (Vm.Alike.refl U.vm) qK, qD⟩, va_recv hKc hPc (ci := 7) (q0 := 0) rfl rfl, fun U hU9 hW => ⟨rfl, by rw [hU9], by rw [hU9]; exact hPc, va_K.moved hW.alike hKc, hDc.weaken (fun _ _ _ _ => trivial)⟩⟩ rfl rfl hl.1 rfl (lv_room (Nat.le_of_ble_eq_true rfl)) dX7_isRule_38 ⟨by decide +kernel, by decide +kernel⟩) hS (fun q _ h => hFc q h) hFc (fun r38 u t H1 locs ht hvm hw hB hz1 hk1 hS => ?_)
    obtain ⟨hP1, hK1, hD1⟩ := hB
    rw [ht] at hP1
    have hK1 := va_K.moved hvm.symm hK1
    obtain ⟨hP, hD⟩ := va_join (wr := []) (w1 := [(d0, .inr (7, [.int 0, .int 0, .ref (bb 0), .ref (bb 1), .ref (bb 2), .ref (bb 3), .ref (bb 4), .ref (bb 5), .ref (bb 6), .ref (bb 7), .ref (bb 8), .int (-1), .int 0, .ref (bb 9), .ref (bb 10), .ref (bb 11), .ref (bb 12), .ref (bb 13), .int 0, .int 0]))]) hP hD [0] [] rfl rfl (by decide) (by decide) hk1 hFc hP1 hD1
    generalize H1 = H at hP hS ⊢
    have hP : va_P (dC, dI) vwCl [(d0, .inr (7, [.int 0, .int 0, .ref (bb 0), .ref (bb 1), .ref (bb 2), .ref (bb 3), .ref (bb 4), .ref (bb 5), .ref (bb 6), .ref (bb 7), .ref (bb 8), .int (-1), .int 0, .ref (bb 9), .ref (bb 10), .ref (bb 11), .ref (bb 12), .ref (bb 13), .int 0, .int 0]))] H := hP
    have hD : va_D A [(d0, .inr (7, [.int 0, .int 0, .ref (bb 0), .ref (bb 1), .ref (bb 2), .ref (bb 3), .ref (bb 4), .ref (bb 5), .ref (bb 6), .ref (bb 7), .ref (bb 8), .int (-1), .int 0, .ref (bb 9), .ref (bb 10), .ref (bb 11), .ref (bb 12), .ref (bb 13), .int 0, .int 0]))] := hD
    obtain rfl := hw
    refine W.widen (k := 0) (n := 0) (by decide +kernel) (by decide +kernel) ?_
    exact W.zret (v := 0) hx hb hr rfl (fun t ht hW => ⟨⟨0, (), rfl, by (first | rfl | assumption | trivial | omega | (simp []; done) | (simp; omega)), by rw [ht]; exact hP.sub [] rfl, va_K.moved hW.alike (hK.sub [] rfl), hD.sub [] (by decide) rfl⟩, hS.F ht⟩) hS.2.2 dX7_isRule_41
  · have ts_1_0 : ¬ (qk).toInt = 0 := toI_neq s_1_0 rfl (by decide)
    by_cases s_1_1 : qk = 1
    · have ts_1_1 : (qk).toInt = 1 := toI_eq s_1_1 rfl (by decide)
      refine lv_tableIn (off := 41) (tgt := 42) hx hb dX7_isRule_1 (by rw [s_1_1]; decide) (by rw [s_1_1]; decide) (by rw [s_1_1]; decide) (by decide) ?_
      refine lv_aload_n hx hb dX7_isRule_42 rfl (lv_at hl 0 rfl) ?_
      refine lv_iload_n hx hb dX7_isRule_43 rfl (lv_at hl 2 rfl) ?_
      have hPc := hP.sub (ws' := [(d0, .inr (7, [.int 0, .int 0, .ref (bb 0), .ref (bb 1), .ref (bb 2), .ref (bb 3), .ref (bb 4), .ref (bb 5), .ref (bb 6), .ref (bb 7), .ref (bb 8), .int (-1), .int 0, .ref (bb 9), .ref (bb 10), .ref (bb 11), .ref (bb 12), .ref (bb 13), .int 0, .int 0]))]) [0] rfl
      have hDc := hD.sub (ws' := [(d0, .inr (7, [.int 0, .int 0, .ref (bb 0), .ref (bb 1), .ref (bb 2), .ref (bb 3), .ref (bb 4), .ref (bb 5), .ref (bb 6), .ref (bb 7), .ref (bb 8), .int (-1), .int 0, .ref (bb 9), .ref (bb 10), .ref (bb 11), .ref (bb 12), .ref (bb 13), .int 0, .int 0]))]) [0] (by decide) rfl
      have hKc := hK.sub (tys' := []) [] rfl
      have hFc := va_free (wc := [(d0, .inr (7, [.int 0, .int 0, .ref (bb 0), .ref (bb 1), .ref (bb 2), .ref (bb 3), .ref (bb 4), .ref (bb 5), .ref (bb 6), .ref (bb 7), .ref (bb 8), .int (-1), .int 0, .ref (bb 9), .ref (bb 10), .ref (bb 11), .ref (bb 12), .ref (bb 13), .int 0, .int 0]))]) hD hS hA [0] rfl
      refine va_calli (va_runV (As := [.int qa]) (rest := []) ⟨hx, hb, hml, hown, hts⟩ (p_X7_isHolder l dC dI d0 bb qa s.heap.size) (cwV 1 hts gwsPX7_isRule_1 rfl rfl rfl (by decide +kernel) ⟨by decide +kernel, by decide +kernel⟩) ⟨fun a U g mk q => by obtain ⟨q0, q1, qP, qK, qD⟩ := q; exact ⟨q0, q1, qP, va_K.moved (u := U) (U := U.calling g mk a) (Vm.Alike.refl U.vm) qK, qD⟩, va_recv hKc hPc (ci := 7) (q0 := 0) rfl rfl, fun U hU9 hW => ⟨rfl, by rw [hU9], by rw [hU9]; exact hPc, va_K.moved hW.alike hKc, hDc.weaken (fun _ _ _ _ => trivial)⟩⟩ rfl rfl hl.1 rfl (lv_room (Nat.le_of_ble_eq_true rfl)) dX7_isRule_44 ⟨by decide +kernel, by decide +kernel⟩) hS (fun q _ h => hFc q h) hFc (fun r44 u t H1 locs ht hvm hw hB hz1 hk1 hS => ?_)
      obtain ⟨hP1, hK1, hD1⟩ := hB
      rw [ht] at hP1
      have hK1 := va_K.moved hvm.symm hK1
      obtain ⟨hP, hD⟩ := va_join (wr := []) (w1 := [(d0, .inr (7, [.int 0, .int 0, .ref (bb 0), .ref (bb 1), .ref (bb 2), .ref (bb 3), .ref (bb 4), .ref (bb 5), .ref (bb 6), .ref (bb 7), .ref (bb 8), .int (-1), .int 0, .ref (bb 9), .ref (bb 10), .ref (bb 11), .ref (bb 12), .ref (bb 13), .int 0, .int 0]))]) hP hD [0] [] rfl rfl (by decide) (by decide) hk1 hFc hP1 hD1
      generalize H1 = H at hP hS ⊢
      have hP : va_P (dC, dI) vwCl [(d0, .inr (7, [.int 0, .int 0, .ref (bb 0), .ref (bb 1), .ref (bb 2), .ref (bb 3), .ref (bb 4), .ref (bb 5), .ref (bb 6), .ref (bb 7), .ref (bb 8), .int (-1), .int 0, .ref (bb 9), .ref (bb 10), .ref (bb 11), .ref (bb 12), .ref (bb 13), .int 0, .int 0]))] H := hP
      have hD : va_D A [(d0, .inr (7, [.int 0, .int 0, .ref (bb 0), .ref (bb 1), .ref (bb 2), .ref (bb 3), .ref (bb 4), .ref (bb 5), .ref (bb 6), .ref (bb 7), .ref (bb 8), .int (-1), .int 0, .ref (bb 9), .ref (bb 10), .ref (bb 11), .ref (bb 12), .ref (bb 13), .int 0, .int 0]))] := hD
      obtain rfl := hw
      refine lv_if_eq (tgt := 72) hx hb dX7_isRule_47 (by decide) (fun _ => ?_) (fun c9 => absurd (by decide) c9)
      refine lv_iconst (v := 0) hx hb dX7_isRule_72 (by decide) ?_
      refine W.widen (k := 0) (n := 0) (by decide +kernel) (by decide +kernel) ?_
      exact W.zret (v := 0) hx hb hr rfl (fun t ht hW => ⟨⟨0, (), rfl, by (first | rfl | assumption | trivial | omega | (simp []; done) | (simp; omega)), by rw [ht]; exact hP.sub [] rfl, va_K.moved hW.alike (hK.sub [] rfl), hD.sub [] (by decide) rfl⟩, hS.F ht⟩) hS.2.2 dX7_isRule_73
    · have ts_1_1 : ¬ (qk).toInt = 1 := toI_neq s_1_1 rfl (by decide)
      by_cases s_1_2 : qk = 2
      · have ts_1_2 : (qk).toInt = 2 := toI_eq s_1_2 rfl (by decide)
        refine lv_tableIn (off := 73) (tgt := 74) hx hb dX7_isRule_1 (by rw [s_1_2]; decide) (by rw [s_1_2]; decide) (by rw [s_1_2]; decide) (by decide) ?_
        refine lv_aload_n hx hb dX7_isRule_74 rfl (lv_at hl 0 rfl) ?_
        refine lv_iload_n hx hb dX7_isRule_75 rfl (lv_at hl 2 rfl) ?_
        have hPc := hP.sub (ws' := [(d0, .inr (7, [.int 0, .int 0, .ref (bb 0), .ref (bb 1), .ref (bb 2), .ref (bb 3), .ref (bb 4), .ref (bb 5), .ref (bb 6), .ref (bb 7), .ref (bb 8), .int (-1), .int 0, .ref (bb 9), .ref (bb 10), .ref (bb 11), .ref (bb 12), .ref (bb 13), .int 0, .int 0]))]) [0] rfl
        have hDc := hD.sub (ws' := [(d0, .inr (7, [.int 0, .int 0, .ref (bb 0), .ref (bb 1), .ref (bb 2), .ref (bb 3), .ref (bb 4), .ref (bb 5), .ref (bb 6), .ref (bb 7), .ref (bb 8), .int (-1), .int 0, .ref (bb 9), .ref (bb 10), .ref (bb 11), .ref (bb 12), .ref (bb 13), .int 0, .int 0]))]) [0] (by decide) rfl
        have hKc := hK.sub (tys' := []) [] rfl
        have hFc := va_free (wc := [(d0, .inr (7, [.int 0, .int 0, .ref (bb 0), .ref (bb 1), .ref (bb 2), .ref (bb 3), .ref (bb 4), .ref (bb 5), .ref (bb 6), .ref (bb 7), .ref (bb 8), .int (-1), .int 0, .ref (bb 9), .ref (bb 10), .ref (bb 11), .ref (bb 12), .ref (bb 13), .int 0, .int 0]))]) hD hS hA [0] rfl
        refine va_calli (va_runV (As := [.int qa]) (rest := []) ⟨hx, hb, hml, hown, hts⟩ (p_X7_isSet l dC dI d0 bb qa s.heap.size) (cwV 1 hts gwsPX7_isRule_0 rfl rfl rfl (by decide +kernel) ⟨by decide +kernel, by decide +kernel⟩) ⟨fun a U g mk q => by obtain ⟨q0, q1, qP, qK, qD⟩ := q; exact ⟨q0, q1, qP, va_K.moved (u := U) (U := U.calling g mk a) (Vm.Alike.refl U.vm) qK, qD⟩, va_recv hKc hPc (ci := 7) (q0 := 0) rfl rfl, fun U hU9 hW => ⟨rfl, by rw [hU9], by rw [hU9]; exact hPc, va_K.moved hW.alike hKc, hDc.weaken (fun _ _ _ _ => trivial)⟩⟩ rfl rfl hl.1 rfl (lv_room (Nat.le_of_ble_eq_true rfl)) dX7_isRule_76 ⟨by decide +kernel, by decide +kernel⟩) hS (fun q _ h => hFc q h) hFc (fun r76 u t H1 locs ht hvm hw hB hz1 hk1 hS => ?_)
        obtain ⟨hP1, hK1, hD1⟩ := hB
        rw [ht] at hP1
        have hK1 := va_K.moved hvm.symm hK1
        obtain ⟨hP, hD⟩ := va_join (wr := []) (w1 := [(d0, .inr (7, [.int 0, .int 0, .ref (bb 0), .ref (bb 1), .ref (bb 2), .ref (bb 3), .ref (bb 4), .ref (bb 5), .ref (bb 6), .ref (bb 7), .ref (bb 8), .int (-1), .int 0, .ref (bb 9), .ref (bb 10), .ref (bb 11), .ref (bb 12), .ref (bb 13), .int 0, .int 0]))]) hP hD [0] [] rfl rfl (by decide) (by decide) hk1 hFc hP1 hD1
        generalize H1 = H at hP hS ⊢
        have hP : va_P (dC, dI) vwCl [(d0, .inr (7, [.int 0, .int 0, .ref (bb 0), .ref (bb 1), .ref (bb 2), .ref (bb 3), .ref (bb 4), .ref (bb 5), .ref (bb 6), .ref (bb 7), .ref (bb 8), .int (-1), .int 0, .ref (bb 9), .ref (bb 10), .ref (bb 11), .ref (bb 12), .ref (bb 13), .int 0, .int 0]))] H := hP
        have hD : va_D A [(d0, .inr (7, [.int 0, .int 0, .ref (bb 0), .ref (bb 1), .ref (bb 2), .ref (bb 3), .ref (bb 4), .ref (bb 5), .ref (bb 6), .ref (bb 7), .ref (bb 8), .int (-1), .int 0, .ref (bb 9), .ref (bb 10), .ref (bb 11), .ref (bb 12), .ref (bb 13), .int 0, .int 0]))] := hD
        obtain rfl := hw
        refine lv_if_eq (tgt := 107) hx hb dX7_isRule_79 (by decide) (fun _ => ?_) (fun c9 => absurd (by decide) c9)
        refine lv_iconst (v := 0) hx hb dX7_isRule_107 (by decide) ?_
        refine W.widen (k := 0) (n := 0) (by decide +kernel) (by decide +kernel) ?_
        exact W.zret (v := 0) hx hb hr rfl (fun t ht hW => ⟨⟨0, (), rfl, by (first | rfl | assumption | trivial | omega | (simp []; done) | (simp; omega)), by rw [ht]; exact hP.sub [] rfl, va_K.moved hW.alike (hK.sub [] rfl), hD.sub [] (by decide) rfl⟩, hS.F ht⟩) hS.2.2 dX7_isRule_108
      · have ts_1_2 : ¬ (qk).toInt = 2 := toI_neq s_1_2 rfl (by decide)
        by_cases s_1_3 : qk = 3
        · have ts_1_3 : (qk).toInt = 3 := toI_eq s_1_3 rfl (by decide)
          refine lv_tableIn (off := 108) (tgt := 109) hx hb dX7_isRule_1 (by rw [s_1_3]; decide) (by rw [s_1_3]; decide) (by rw [s_1_3]; decide) (by decide) ?_
          refine lv_aload_n hx hb dX7_isRule_109 rfl (lv_at hl 0 rfl) ?_
          refine lv_iload_n hx hb dX7_isRule_110 rfl (lv_at hl 2 rfl) ?_
          have hPc := hP.sub (ws' := [(d0, .inr (7, [.int 0, .int 0, .ref (bb 0), .ref (bb 1), .ref (bb 2), .ref (bb 3), .ref (bb 4), .ref (bb 5), .ref (bb 6), .ref (bb 7), .ref (bb 8), .int (-1), .int 0, .ref (bb 9), .ref (bb 10), .ref (bb 11), .ref (bb 12), .ref (bb 13), .int 0, .int 0]))]) [0] rfl
          have hDc := hD.sub (ws' := [(d0, .inr (7, [.int 0, .int 0, .ref (bb 0), .ref (bb 1), .ref (bb 2), .ref (bb 3), .ref (bb 4), .ref (bb 5), .ref (bb 6), .ref (bb 7), .ref (bb 8), .int (-1), .int 0, .ref (bb 9), .ref (bb 10), .ref (bb 11), .ref (bb 12), .ref (bb 13), .int 0, .int 0]))]) [0] (by decide) rfl
          have hKc := hK.sub (tys' := []) [] rfl
          have hFc := va_free (wc := [(d0, .inr (7, [.int 0, .int 0, .ref (bb 0), .ref (bb 1), .ref (bb 2), .ref (bb 3), .ref (bb 4), .ref (bb 5), .ref (bb 6), .ref (bb 7), .ref (bb 8), .int (-1), .int 0, .ref (bb 9), .ref (bb 10), .ref (bb 11), .ref (bb 12), .ref (bb 13), .int 0, .int 0]))]) hD hS hA [0] rfl
          refine va_calli (va_runV (As := [.int qa]) (rest := []) ⟨hx, hb, hml, hown, hts⟩ (p_X7_isSet l dC dI d0 bb qa s.heap.size) (cwV 1 hts gwsPX7_isRule_0 rfl rfl rfl (by decide +kernel) ⟨by decide +kernel, by decide +kernel⟩) ⟨fun a U g mk q => by obtain ⟨q0, q1, qP, qK, qD⟩ := q; exact ⟨q0, q1, qP, va_K.moved (u := U) (U := U.calling g mk a) (Vm.Alike.refl U.vm) qK, qD⟩, va_recv hKc hPc (ci := 7) (q0 := 0) rfl rfl, fun U hU9 hW => ⟨rfl, by rw [hU9], by rw [hU9]; exact hPc, va_K.moved hW.alike hKc, hDc.weaken (fun _ _ _ _ => trivial)⟩⟩ rfl rfl hl.1 rfl (lv_room (Nat.le_of_ble_eq_true rfl)) dX7_isRule_111 ⟨by decide +kernel, by decide +kernel⟩) hS (fun q _ h => hFc q h) hFc (fun r111 u t H1 locs ht hvm hw hB hz1 hk1 hS => ?_)
          obtain ⟨hP1, hK1, hD1⟩ := hB
          rw [ht] at hP1
          have hK1 := va_K.moved hvm.symm hK1
          obtain ⟨hP, hD⟩ := va_join (wr := []) (w1 := [(d0, .inr (7, [.int 0, .int 0, .ref (bb 0), .ref (bb 1), .ref (bb 2), .ref (bb 3), .ref (bb 4), .ref (bb 5), .ref (bb 6), .ref (bb 7), .ref (bb 8), .int (-1), .int 0, .ref (bb 9), .ref (bb 10), .ref (bb 11), .ref (bb 12), .ref (bb 13), .int 0, .int 0]))]) hP hD [0] [] rfl rfl (by decide) (by decide) hk1 hFc hP1 hD1
          generalize H1 = H at hP hS ⊢
          have hP : va_P (dC, dI) vwCl [(d0, .inr (7, [.int 0, .int 0, .ref (bb 0), .ref (bb 1), .ref (bb 2), .ref (bb 3), .ref (bb 4), .ref (bb 5), .ref (bb 6), .ref (bb 7), .ref (bb 8), .int (-1), .int 0, .ref (bb 9), .ref (bb 10), .ref (bb 11), .ref (bb 12), .ref (bb 13), .int 0, .int 0]))] H := hP
          have hD : va_D A [(d0, .inr (7, [.int 0, .int 0, .ref (bb 0), .ref (bb 1), .ref (bb 2), .ref (bb 3), .ref (bb 4), .ref (bb 5), .ref (bb 6), .ref (bb 7), .ref (bb 8), .int (-1), .int 0, .ref (bb 9), .ref (bb 10), .ref (bb 11), .ref (bb 12), .ref (bb 13), .int 0, .int 0]))] := hD
          obtain rfl := hw
          refine lv_if_eq (tgt := 143) hx hb dX7_isRule_114 (by decide) (fun _ => ?_) (fun c9 => absurd (by decide) c9)
          refine lv_iconst (v := 0) hx hb dX7_isRule_143 (by decide) ?_
          refine W.widen (k := 0) (n := 0) (by decide +kernel) (by decide +kernel) ?_
          exact W.zret (v := 0) hx hb hr rfl (fun t ht hW => ⟨⟨0, (), rfl, by (first | rfl | assumption | trivial | omega | (simp []; done) | (simp; omega)), by rw [ht]; exact hP.sub [] rfl, va_K.moved hW.alike (hK.sub [] rfl), hD.sub [] (by decide) rfl⟩, hS.F ht⟩) hS.2.2 dX7_isRule_144
        · have ts_1_3 : ¬ (qk).toInt = 3 := toI_neq s_1_3 rfl (by decide)
          by_cases s_1_4 : qk = 4
          · have ts_1_4 : (qk).toInt = 4 := toI_eq s_1_4 rfl (by decide)
            refine lv_tableIn (off := 144) (tgt := 145) hx hb dX7_isRule_1 (by rw [s_1_4]; decide) (by rw [s_1_4]; decide) (by rw [s_1_4]; decide) (by decide) ?_
            refine lv_aload_n hx hb dX7_isRule_145 rfl (lv_at hl 0 rfl) ?_
            refine lv_iload_n hx hb dX7_isRule_146 rfl (lv_at hl 2 rfl) ?_
            have hPc := hP.sub (ws' := [(d0, .inr (7, [.int 0, .int 0, .ref (bb 0), .ref (bb 1), .ref (bb 2), .ref (bb 3), .ref (bb 4), .ref (bb 5), .ref (bb 6), .ref (bb 7), .ref (bb 8), .int (-1), .int 0, .ref (bb 9), .ref (bb 10), .ref (bb 11), .ref (bb 12), .ref (bb 13), .int 0, .int 0]))]) [0] rfl
            have hDc := hD.sub (ws' := [(d0, .inr (7, [.int 0, .int 0, .ref (bb 0), .ref (bb 1), .ref (bb 2), .ref (bb 3), .ref (bb 4), .ref (bb 5), .ref (bb 6), .ref (bb 7), .ref (bb 8), .int (-1), .int 0, .ref (bb 9), .ref (bb 10), .ref (bb 11), .ref (bb 12), .ref (bb 13), .int 0, .int 0]))]) [0] (by decide) rfl
            have hKc := hK.sub (tys' := []) [] rfl
            have hFc := va_free (wc := [(d0, .inr (7, [.int 0, .int 0, .ref (bb 0), .ref (bb 1), .ref (bb 2), .ref (bb 3), .ref (bb 4), .ref (bb 5), .ref (bb 6), .ref (bb 7), .ref (bb 8), .int (-1), .int 0, .ref (bb 9), .ref (bb 10), .ref (bb 11), .ref (bb 12), .ref (bb 13), .int 0, .int 0]))]) hD hS hA [0] rfl
            refine va_calli (va_runV (As := [.int qa]) (rest := []) ⟨hx, hb, hml, hown, hts⟩ (p_X7_isHolder l dC dI d0 bb qa s.heap.size) (cwV 1 hts gwsPX7_isRule_1 rfl rfl rfl (by decide +kernel) ⟨by decide +kernel, by decide +kernel⟩) ⟨fun a U g mk q => by obtain ⟨q0, q1, qP, qK, qD⟩ := q; exact ⟨q0, q1, qP, va_K.moved (u := U) (U := U.calling g mk a) (Vm.Alike.refl U.vm) qK, qD⟩, va_recv hKc hPc (ci := 7) (q0 := 0) rfl rfl, fun U hU9 hW => ⟨rfl, by rw [hU9], by rw [hU9]; exact hPc, va_K.moved hW.alike hKc, hDc.weaken (fun _ _ _ _ => trivial)⟩⟩ rfl rfl hl.1 rfl (lv_room (Nat.le_of_ble_eq_true rfl)) dX7_isRule_147 ⟨by decide +kernel, by decide +kernel⟩) hS (fun q _ h => hFc q h) hFc (fun r147 u t H1 locs ht hvm hw hB hz1 hk1 hS => ?_)
            obtain ⟨hP1, hK1, hD1⟩ := hB
            rw [ht] at hP1
            have hK1 := va_K.moved hvm.symm hK1
            obtain ⟨hP, hD⟩ := va_join (wr := []) (w1 := [(d0, .inr (7, [.int 0, .int 0, .ref (bb 0), .ref (bb 1), .ref (bb 2), .ref (bb 3), .ref (bb 4), .ref (bb 5), .ref (bb 6), .ref (bb 7), .ref (bb 8), .int (-1), .int 0, .ref (bb 9), .ref (bb 10), .ref (bb 11), .ref (bb 12), .ref (bb 13), .int 0, .int 0]))]) hP hD [0] [] rfl rfl (by decide) (by decide) hk1 hFc hP1 hD1
            generalize H1 = H at hP hS ⊢
            have hP : va_P (dC, dI) vwCl [(d0, .inr (7, [.int 0, .int 0, .ref (bb 0), .ref (bb 1), .ref (bb 2), .ref (bb 3), .ref (bb 4), .ref (bb 5), .ref (bb 6), .ref (bb 7), .ref (bb 8), .int (-1), .int 0, .ref (bb 9), .ref (bb 10), .ref (bb 11), .ref (bb 12), .ref (bb 13), .int 0, .int 0]))] H := hP
            have hD : va_D A [(d0, .inr (7, [.int 0, .int 0, .ref (bb 0), .ref (bb 1), .ref (bb 2), .ref (bb 3), .ref (bb 4), .ref (bb 5), .ref (bb 6), .ref (bb 7), .ref (bb 8), .int (-1), .int 0, .ref (bb 9), .ref (bb 10), .ref (bb 11), .ref (bb 12), .ref (bb 13), .int 0, .int 0]))] := hD
            obtain rfl := hw
            refine lv_if_eq (tgt := 170) hx hb dX7_isRule_150 (by decide) (fun _ => ?_) (fun c9 => absurd (by decide) c9)
            refine lv_iconst (v := 0) hx hb dX7_isRule_170 (by decide) ?_
            refine W.widen (k := 0) (n := 0) (by decide +kernel) (by decide +kernel) ?_
            exact W.zret (v := 0) hx hb hr rfl (fun t ht hW => ⟨⟨0, (), rfl, by (first | rfl | assumption | trivial | omega | (simp []; done) | (simp; omega)), by rw [ht]; exact hP.sub [] rfl, va_K.moved hW.alike (hK.sub [] rfl), hD.sub [] (by decide) rfl⟩, hS.F ht⟩) hS.2.2 dX7_isRule_171
          · have ts_1_4 : ¬ (qk).toInt = 4 := toI_neq s_1_4 rfl (by decide)
            refine lv_tableOut (tgt := 172) hx hb dX7_isRule_1 (by have := lv_neT s_1_0 (show Int32.toInt 0 = 0 by decide); have := lv_neT s_1_1 (show Int32.toInt 1 = 1 by decide); have := lv_neT s_1_2 (show Int32.toInt 2 = 2 by decide); have := lv_neT s_1_3 (show Int32.toInt 3 = 3 by decide); have := lv_neT s_1_4 (show Int32.toInt 4 = 4 by decide); omega) (by decide) ?_
            refine lv_iconst (v := 0) hx hb dX7_isRule_172 (by decide) ?_
            refine W.widen (k := 0) (n := 0) (by decide +kernel) (by decide +kernel) ?_
            exact W.zret (v := 0) hx hb hr rfl (fun t ht hW => ⟨⟨0, (), rfl, by (first | rfl | assumption | trivial | omega | (simp []; done) | (simp; omega)), by rw [ht]; exact hP.sub [] rfl, va_K.moved hW.alike (hK.sub [] rfl), hD.sub [] (by decide) rfl⟩, hS.F ht⟩) hS.2.2 dX7_isRule_173
theorem dX11_rule_0 : decode cX11_rule 0 = .ok (.aload_n 0, 1) := by decide +kernel
theorem dX11_rule_1 : decode cX11_rule 1 = .ok (.invokevirtual 345, 3) := by decide +kernel
theorem dX11_rule_4 : decode cX11_rule 4 = .ok (.iload_n 1, 1) := by decide +kernel
theorem dX11_rule_5 : decode cX11_rule 5 = .ok (.iload_n 2, 1) := by decide +kernel
theorem dX11_rule_6 : decode cX11_rule 6 = .ok (.iload_n 3, 1) := by decide +kernel
theorem dX11_rule_7 : decode cX11_rule 7 = .ok (.iload 4, 2) := by decide +kernel
theorem dX11_rule_9 : decode cX11_rule 9 = .ok (.invokevirtual 355, 3) := by decide +kernel
theorem dX11_rule_12 : decode cX11_rule 12 = .ok (.ifCond .ne 11, 3) := by decide +kernel
theorem dX11_rule_15 : decode cX11_rule 15 = .ok (.new 77, 3) := by decide +kernel
theorem dX11_rule_18 : decode cX11_rule 18 = .ok (.dup, 1) := by decide +kernel
theorem dX11_rule_19 : decode cX11_rule 19 = .ok (.invokespecial 79, 3) := by decide +kernel
theorem dX11_rule_22 : decode cX11_rule 22 = .ok (.athrow, 1) := by decide +kernel
def wsPX11_rule : List Cond := .code yX11_rule cX11_rule 5 (some .int) :: ([.classLink RX11 77 "java/lang/IllegalArgumentException", .initialized "java/lang/IllegalArgumentException"] ++ (wsV RX11 345 RX11 yX11_theValues wsPX11_theValues) ++ (wsV RX11 355 RX7 yX7_isRule wsPX7_isRule) ++ ((vx_at0 RX11 79 "java/lang/IllegalArgumentException" ["java/lang/RuntimeException", "java/lang/Exception"]).filter goodWord))
theorem gwsPX11_rule_0 : GoodIn wsPX11_rule (wsV RX11 345 RX11 yX11_theValues wsPX11_theValues) := goodIn_sub (fun _ h => List.mem_cons_of_mem _ (List.mem_append_left _ (List.mem_append_left _ (List.mem_append_right _ h)))) (by decide +kernel)
theorem gwsPX11_rule_1 : GoodIn wsPX11_rule (wsV RX11 355 RX7 yX7_isRule wsPX7_isRule) := goodIn_sub (fun _ h => List.mem_cons_of_mem _ (List.mem_append_left _ (List.mem_append_right _ h))) (by decide +kernel)
set_option maxHeartbeats 4000000 in
set_option maxRecDepth 100000 in
/-- rule(..): thrown -/
theorem p_X11_rule (l : Launch) (hst : l.stackTraces = false) (dC : Nat → ClassId) (dI : Nat → Nat → Nat) (h0 : Nat) (a : Nat → Nat) (qk : Int32) (qa : Int32) (qb : Int32) (qc : Int32) (sz : Nat) : vx_Met l yX11_rule wsPX11_rule ({ frames := 6, cells := 16, slots := 1414, locals := 81 }) (va_Pc [.ref h0, .int qk, .int qa, .int qb, .int qc] (fun U => U.heap.size = sz ∧ va_P (dC, dI) vwCl [(h0, .inr (11, [.ref (a 0), .ref (a 1), .ref (a 3), .ref (a 14), .int 0, .null, .null, .null, .null, .null, .null]))] U.heap ∧ va_K (dC, dI) vwCl [] U ∧ va_D (fun _ => True) [(h0, .inr (11, [.ref (a 0), .ref (a 1), .ref (a 3), .ref (a 14), .int 0, .null, .null, .null, .null, .null, .null]))] ∧ vx_Zq Bundle.tN "UNASSIGNED_STACK" Bundle.steD (va_A [(h0, .inr (11, [.ref (a 0), .ref (a 1), .ref (a 3), .ref (a 14), .int 0, .null, .null, .null, .null, .null, .null]))] sz) U U.heap ∧ vx_Zq Bundle.tN "SUPPRESSED_SENTINEL" Bundle.listD (va_A [(h0, .inr (11, [.ref (a 0), .ref (a 1), .ref (a 3), .ref (a 14), .int 0, .null, .null, .null, .null, .null, .null]))] sz) U U.heap ∧ (∀ w ∈ ngX11_79, va_Nw w U) ∧ va_Nw (.methodLinkNest RX11 343 yX7_init RX11) U)) (va_Qi (fun (r : Int32) (u : Unit) => False) (fun (u : Unit) t => va_P (dC, dI) vwCl [] t.heap ∧ va_K (dC, dI) vwCl [] t ∧ va_D (va_A [(h0, .inr (11, [.ref (a 0), .ref (a 1), .ref (a 3), .ref (a 14), .int 0, .null, .null, .null, .null, .null, .null]))] sz) []) (va_A [(h0, .inr (11, [.ref (a 0), .ref (a 1), .ref (a 3), .ref (a 14), .int 0, .null, .null, .null, .null, .null, .null]))] sz)) (vx_X (fun n : String => (n = "java/lang/IllegalArgumentException" ∧ (True))) (fun E n t => E = n) (va_A [(h0, .inr (11, [.ref (a 0), .ref (a 1), .ref (a 3), .ref (a 14), .int 0, .null, .null, .null, .null, .null, .null]))] sz)) 16 1414 (va_A [(h0, .inr (11, [.ref (a 0), .ref (a 1), .ref (a 3), .ref (a 14), .int 0, .null, .null, .null, .null, .null, .null]))] sz) := by
  refine vx_ofW (cc := cX11_rule) (maxL := 5) (ret := (some .int)) (by decide) rfl ?_
  intro p e s m args below meth c s₁ B hml htab hv
  obtain ⟨rfl, hsz, hP, hK, hD0, hU, hN, hngX11_79, hnX11_343⟩ := hv
  have hx := B.exec
  have hb := B.bytes
  have hr := B.returns
  have hts := atoms_spec (ws := wsPX11_rule) B.pre
  have hown : s.vm.findClass RX11 = some m.cls := findClass_of_methodNamed B.named
  have hlocks := B.notSynchronized
  subst hsz
  have hD := hD0.self (sz := s.heap.size)
  generalize hAe : va_A [(h0, .inr (11, [.ref (a 0), .ref (a 1), .ref (a 3), .ref (a 14), .int 0, .null, .null, .null, .null, .null, .null]))] s.heap.size = A at hD hU hN ⊢
  have hA : ∀ q : Nat, s.heap.size ≤ q → A q := fun q h => by rw [← hAe]; exact Or.inr h
  have hS : va_S A s.heap s.heap [] := va_S.rf
  have hP : va_P (dC, dI) vwCl [(h0, .inr (11, [.ref (a 0), .ref (a 1), .ref (a 3), .ref (a 14), .int 0, .null, .null, .null, .null, .null, .null]))] s.heap := hP
  have hl := lv_entry ([.ref h0, .int qk, .int qa, .int qb, .int qc]) (n := 5) (Nat.le_of_ble_eq_true rfl)
  rw [lg_entry_eq]
  generalize (lg_sl ([.ref h0, .int qk, .int qa, .int qb, .int qc]) ++ List.replicate (5 - (lg_sl ([.ref h0, .int qk, .int qa, .int qb, .int qc])).length) Slot.unset).toArray = ls at hl ⊢
  have hl : lv_has ls 5 [(0, .ref h0), (1, .int qk), (2, .int qa), (3, .int qb), (4, .int qc)] := hl
  refine lv_aload_n hx hb dX11_rule_0 rfl (lv_at hl 0 rfl) ?_
  have hPc := hP.sub (ws' := [(h0, .inr (11, [.ref (a 0), .ref (a 1), .ref (a 3), .ref (a 14), .int 0, .null, .null, .null, .null, .null, .null]))]) [0] rfl
  have hDc := hD.sub (ws' := [(h0, .inr (11, [.ref (a 0), .ref (a 1), .ref (a 3), .ref (a 14), .int 0, .null, .null, .null, .null, .null, .null]))]) [0] (by decide) rfl
  have hKc := hK.sub (tys' := []) [] rfl
  have hFc := va_free (wc := [(h0, .inr (11, [.ref (a 0), .ref (a 1), .ref (a 3), .ref (a 14), .int 0, .null, .null, .null, .null, .null, .null]))]) hD hS hA [0] rfl
  refine va_callr (va_runV (As := []) (rest := []) ⟨hx, hb, hml, hown, hts⟩ (p_X11_theValues l dC dI h0 a s.heap.size) (cwV 0 hts gwsPX11_rule_0 rfl rfl rfl (by decide +kernel) ⟨by decide +kernel, by decide +kernel⟩) ⟨fun a U g mk q => by obtain ⟨q0, q1, qP, qK, qD, qhnX11_343⟩ := q; exact ⟨q0, q1, qP, va_K.moved (u := U) (U := U.calling g mk a) (Vm.Alike.refl U.vm) qK, qD, va_Nw.same (u := U) (U := U.calling g mk a) rfl rfl qhnX11_343⟩, va_recv hKc hPc (ci := 11) (q0 := 0) rfl rfl, fun U hU9 hW => ⟨rfl, by rw [hU9], by rw [hU9]; exact hPc, va_K.moved hW.alike hKc, hDc.weaken (fun _ _ _ _ => trivial), va_Nw.warmM hW hnX11_343⟩⟩ rfl rfl hl.1 rfl (lv_room (Nat.le_of_ble_eq_true rfl)) dX11_rule_1 ⟨by decide +kernel, by decide +kernel⟩) hS (fun q _ h => hFc q h) hFc (fun u a1 t H1 locs ht hvm hw hB hz1 hk1 hS => ?_)
  obtain ⟨aa1, kk1⟩ := u
  obtain ⟨hP1, hK1, hD1⟩ := hB
  rw [ht] at hP1
  have hK1 := va_K.moved hvm.symm hK1
  obtain ⟨hP, hD⟩ := va_join (wr := []) (w1 := [(h0, .inr (11, [.ref (a 0), .ref (a 1), .ref (a 3), .ref (a 14), .int 0, .null, .null, .null, .ref a1, .null, .null])), (a1, .inr (7, [.int 0, .int 0, .ref (aa1 0), .ref (aa1 1), .ref (aa1 2), .ref (aa1 3), .ref (aa1 4), .ref (aa1 5), .ref (aa1 6), .ref (aa1 7), .ref (aa1 8), .int (-1), .int 0, .ref (aa1 9), .ref (aa1 10), .ref (aa1 11), .ref (aa1 12), .ref (aa1 13), .int 0, .int 0])), ((aa1 0), .inl ((kk1 0), 16, .inl (fun _ => 0))), ((aa1 1), .inl ((kk1 1), 10, .inl (fun _ => 0))), ((aa1 2), .inl ((kk1 2), 12, .inl (fun _ => 0))), ((aa1 3), .inl ((kk1 3), 12, .inl (fun _ => 0))), ((aa1 4), .inl ((kk1 4), 12, .inl (fun _ => 0))), ((aa1 5), .inl ((kk1 5), 12, .inl (fun _ => 0))), ((aa1 6), .inl ((kk1 6), 192, .inl (fun _ => 0))), ((aa1 7), .inl ((kk1 7), 12, .inl (fun _ => 0))), ((aa1 8), .inl ((kk1 8), 10, .inl (fun _ => 0))), ((aa1 9), .inl ((kk1 9), 33, .inr (.inl (fun _ => 0)))), ((aa1 10), .inl ((kk1 10), 33, .inr (.inl (fun _ => 0)))), ((aa1 11), .inl ((kk1 11), 1024, .inl (fun _ => 0))), ((aa1 12), .inl ((kk1 12), 10, .inl (fun _ => 0))), ((aa1 13), .inl ((kk1 13), 0, .inr (.inl (fun _ => 0))))]) hP hD [0] [] rfl rfl (by decide) (by decide) hk1 hFc hP1 hD1
  have hK := hK.app hK1
  generalize H1 = H at hP hS ⊢
  have hP : va_P (dC, dI) vwCl [(h0, .inr (11, [.ref (a 0), .ref (a 1), .ref (a 3), .ref (a 14), .int 0, .null, .null, .null, .ref a1, .null, .null])), (a1, .inr (7, [.int 0, .int 0, .ref (aa1 0), .ref (aa1 1), .ref (aa1 2), .ref (aa1 3), .ref (aa1 4), .ref (aa1 5), .ref (aa1 6), .ref (aa1 7), .ref (aa1 8), .int (-1), .int 0, .ref (aa1 9), .ref (aa1 10), .ref (aa1 11), .ref (aa1 12), .ref (aa1 13), .int 0, .int 0])), ((aa1 0), .inl ((kk1 0), 16, .inl (fun _ => 0))), ((aa1 1), .inl ((kk1 1), 10, .inl (fun _ => 0))), ((aa1 2), .inl ((kk1 2), 12, .inl (fun _ => 0))), ((aa1 3), .inl ((kk1 3), 12, .inl (fun _ => 0))), ((aa1 4), .inl ((kk1 4), 12, .inl (fun _ => 0))), ((aa1 5), .inl ((kk1 5), 12, .inl (fun _ => 0))), ((aa1 6), .inl ((kk1 6), 192, .inl (fun _ => 0))), ((aa1 7), .inl ((kk1 7), 12, .inl (fun _ => 0))), ((aa1 8), .inl ((kk1 8), 10, .inl (fun _ => 0))), ((aa1 9), .inl ((kk1 9), 33, .inr (.inl (fun _ => 0)))), ((aa1 10), .inl ((kk1 10), 33, .inr (.inl (fun _ => 0)))), ((aa1 11), .inl ((kk1 11), 1024, .inl (fun _ => 0))), ((aa1 12), .inl ((kk1 12), 10, .inl (fun _ => 0))), ((aa1 13), .inl ((kk1 13), 0, .inr (.inl (fun _ => 0))))] H := hP
  have hD : va_D A [(h0, .inr (11, [.ref (a 0), .ref (a 1), .ref (a 3), .ref (a 14), .int 0, .null, .null, .null, .ref a1, .null, .null])), (a1, .inr (7, [.int 0, .int 0, .ref (aa1 0), .ref (aa1 1), .ref (aa1 2), .ref (aa1 3), .ref (aa1 4), .ref (aa1 5), .ref (aa1 6), .ref (aa1 7), .ref (aa1 8), .int (-1), .int 0, .ref (aa1 9), .ref (aa1 10), .ref (aa1 11), .ref (aa1 12), .ref (aa1 13), .int 0, .int 0])), ((aa1 0), .inl ((kk1 0), 16, .inl (fun _ => 0))), ((aa1 1), .inl ((kk1 1), 10, .inl (fun _ => 0))), ((aa1 2), .inl ((kk1 2), 12, .inl (fun _ => 0))), ((aa1 3), .inl ((kk1 3), 12, .inl (fun _ => 0))), ((aa1 4), .inl ((kk1 4), 12, .inl (fun _ => 0))), ((aa1 5), .inl ((kk1 5), 12, .inl (fun _ => 0))), ((aa1 6), .inl ((kk1 6), 192, .inl (fun _ => 0))), ((aa1 7), .inl ((kk1 7), 12, .inl (fun _ => 0))), ((aa1 8), .inl ((kk1 8), 10, .inl (fun _ => 0))), ((aa1 9), .inl ((kk1 9), 33, .inr (.inl (fun _ => 0)))), ((aa1 10), .inl ((kk1 10), 33, .inr (.inl (fun _ => 0)))), ((aa1 11), .inl ((kk1 11), 1024, .inl (fun _ => 0))), ((aa1 12), .inl ((kk1 12), 10, .inl (fun _ => 0))), ((aa1 13), .inl ((kk1 13), 0, .inr (.inl (fun _ => 0))))] := hD
  have hK : va_K (dC, dI) vwCl [((kk1 0), .int), ((kk1 1), .int), ((kk1 2), .int), ((kk1 3), .int), ((kk1 4), .int), ((kk1 5), .int), ((kk1 6), .int), ((kk1 7), .int), ((kk1 8), .int), ((kk1 9), .long), ((kk1 10), .long), ((kk1 11), .int), ((kk1 12), .int), ((kk1 13), .long)] s := hK
  refine W.widen (k := 15) (n := 1408) (by decide +kernel) (by decide +kernel) ?_
  refine lv_iload_n hx hb dX11_rule_4 rfl (lv_at hl 1 rfl) ?_
  refine lv_iload_n hx hb dX11_rule_5 rfl (lv_at hl 2 rfl) ?_
  refine lv_iload_n hx hb dX11_rule_6 rfl (lv_at hl 3 rfl) ?_
  refine lv_iload hx hb dX11_rule_7 (lv_at hl 4 rfl) ?_
  have hPc := hP.sub (ws' := [(a1, .inr (7, [.int 0, .int 0, .ref (aa1 0), .ref (aa1 1), .ref (aa1 2), .ref (aa1 3), .ref (aa1 4), .ref (aa1 5), .ref (aa1 6), .ref (aa1 7), .ref (aa1 8), .int (-1), .int 0, .ref (aa1 9), .ref (aa1 10), .ref (aa1 11), .ref (aa1 12), .ref (aa1 13), .int 0, .int 0]))]) [1] rfl
  have hDc := hD.sub (ws' := [(a1, .inr (7, [.int 0, .int 0, .ref (aa1 0), .ref (aa1 1), .ref (aa1 2), .ref (aa1 3), .ref (aa1 4), .ref (aa1 5), .ref (aa1 6), .ref (aa1 7), .ref (aa1 8), .int (-1), .int 0, .ref (aa1 9), .ref (aa1 10), .ref (aa1 11), .ref (aa1 12), .ref (aa1 13), .int 0, .int 0]))]) [1] (by decide) rfl
  have hKc := hK.sub (tys' := []) [] rfl
  have hFc := va_free (wc := [(a1, .inr (7, [.int 0, .int 0, .ref (aa1 0), .ref (aa1 1), .ref (aa1 2), .ref (aa1 3), .ref (aa1 4), .ref (aa1 5), .ref (aa1 6), .ref (aa1 7), .ref (aa1 8), .int (-1), .int 0, .ref (aa1 9), .ref (aa1 10), .ref (aa1 11), .ref (aa1 12), .ref (aa1 13), .int 0, .int 0]))]) hD hS hA [1] rfl
  refine va_calli (va_runV (As := [.int qk, .int qa, .int qb, .int qc]) (rest := []) ⟨hx, hb, hml, hown, hts⟩ (p_X7_isRule l dC dI a1 aa1 qk qa qb qc H.size) (cwV 4 hts gwsPX11_rule_1 rfl rfl rfl (by decide +kernel) ⟨by decide +kernel, by decide +kernel⟩) ⟨fun a U g mk q => by obtain ⟨q0, q1, qP, qK, qD⟩ := q; exact ⟨q0, q1, qP, va_K.moved (u := U) (U := U.calling g mk a) (Vm.Alike.refl U.vm) qK, qD⟩, va_recv hKc hPc (ci := 7) (q0 := 0) rfl rfl, fun U hU9 hW => ⟨rfl, by rw [hU9], by rw [hU9]; exact hPc, va_K.moved hW.alike hKc, hDc.weaken (fun _ _ _ _ => trivial)⟩⟩ rfl rfl hl.1 rfl (lv_room (Nat.le_of_ble_eq_true rfl)) dX11_rule_9 ⟨by decide +kernel, by decide +kernel⟩) hS (fun q _ h => hFc q h) hFc (fun r9 u t H1 locs ht hvm hw hB hz1 hk1 hS => ?_)
  obtain ⟨hP1, hK1, hD1⟩ := hB
  rw [ht] at hP1
  have hK1 := va_K.moved hvm.symm hK1
  obtain ⟨hP, hD⟩ := va_join (wr := [(h0, .inr (11, [.ref (a 0), .ref (a 1), .ref (a 3), .ref (a 14), .int 0, .null, .null, .null, .ref a1, .null, .null])), ((aa1 0), .inl ((kk1 0), 16, .inl (fun _ => 0))), ((aa1 1), .inl ((kk1 1), 10, .inl (fun _ => 0))), ((aa1 2), .inl ((kk1 2), 12, .inl (fun _ => 0))), ((aa1 3), .inl ((kk1 3), 12, .inl (fun _ => 0))), ((aa1 4), .inl ((kk1 4), 12, .inl (fun _ => 0))), ((aa1 5), .inl ((kk1 5), 12, .inl (fun _ => 0))), ((aa1 6), .inl ((kk1 6), 192, .inl (fun _ => 0))), ((aa1 7), .inl ((kk1 7), 12, .inl (fun _ => 0))), ((aa1 8), .inl ((kk1 8), 10, .inl (fun _ => 0))), ((aa1 9), .inl ((kk1 9), 33, .inr (.inl (fun _ => 0)))), ((aa1 10), .inl ((kk1 10), 33, .inr (.inl (fun _ => 0)))), ((aa1 11), .inl ((kk1 11), 1024, .inl (fun _ => 0))), ((aa1 12), .inl ((kk1 12), 10, .inl (fun _ => 0))), ((aa1 13), .inl ((kk1 13), 0, .inr (.inl (fun _ => 0))))]) (w1 := []) hP hD [1] [0, 2, 3, 4, 5, 6, 7, 8, 9, 10, 11, 12, 13, 14, 15] rfl rfl (by decide) (by decide) hk1 hFc hP1 hD1
  generalize H1 = H at hP hS ⊢
  have hP : va_P (dC, dI) vwCl [(h0, .inr (11, [.ref (a 0), .ref (a 1), .ref (a 3), .ref (a 14), .int 0, .null, .null, .null, .ref a1, .null, .null])), ((aa1 0), .inl ((kk1 0), 16, .inl (fun _ => 0))), ((aa1 1), .inl ((kk1 1), 10, .inl (fun _ => 0))), ((aa1 2), .inl ((kk1 2), 12, .inl (fun _ => 0))), ((aa1 3), .inl ((kk1 3), 12, .inl (fun _ => 0))), ((aa1 4), .inl ((kk1 4), 12, .inl (fun _ => 0))), ((aa1 5), .inl ((kk1 5), 12, .inl (fun _ => 0))), ((aa1 6), .inl ((kk1 6), 192, .inl (fun _ => 0))), ((aa1 7), .inl ((kk1 7), 12, .inl (fun _ => 0))), ((aa1 8), .inl ((kk1 8), 10, .inl (fun _ => 0))), ((aa1 9), .inl ((kk1 9), 33, .inr (.inl (fun _ => 0)))), ((aa1 10), .inl ((kk1 10), 33, .inr (.inl (fun _ => 0)))), ((aa1 11), .inl ((kk1 11), 1024, .inl (fun _ => 0))), ((aa1 12), .inl ((kk1 12), 10, .inl (fun _ => 0))), ((aa1 13), .inl ((kk1 13), 0, .inr (.inl (fun _ => 0))))] H := hP
  have hD : va_D A [(h0, .inr (11, [.ref (a 0), .ref (a 1), .ref (a 3), .ref (a 14), .int 0, .null, .null, .null, .ref a1, .null, .null])), ((aa1 0), .inl ((kk1 0), 16, .inl (fun _ => 0))), ((aa1 1), .inl ((kk1 1), 10, .inl (fun _ => 0))), ((aa1 2), .inl ((kk1 2), 12, .inl (fun _ => 0))), ((aa1 3), .inl ((kk1 3), 12, .inl (fun _ => 0))), ((aa1 4), .inl ((kk1 4), 12, .inl (fun _ => 0))), ((aa1 5), .inl ((kk1 5), 12, .inl (fun _ => 0))), ((aa1 6), .inl ((kk1 6), 192, .inl (fun _ => 0))), ((aa1 7), .inl ((kk1 7), 12, .inl (fun _ => 0))), ((aa1 8), .inl ((kk1 8), 10, .inl (fun _ => 0))), ((aa1 9), .inl ((kk1 9), 33, .inr (.inl (fun _ => 0)))), ((aa1 10), .inl ((kk1 10), 33, .inr (.inl (fun _ => 0)))), ((aa1 11), .inl ((kk1 11), 1024, .inl (fun _ => 0))), ((aa1 12), .inl ((kk1 12), 10, .inl (fun _ => 0))), ((aa1 13), .inl ((kk1 13), 0, .inr (.inl (fun _ => 0))))] := hD
  obtain rfl := hw
  refine lv_if_ne (tgt := 23) hx hb dX11_rule_12 (by decide) (fun c9 => absurd c9 (by decide)) (fun _ => ?_)
  exact vx_throw0 (own := RX11) (cls := "java/lang/IllegalArgumentException") (names := ["java/lang/RuntimeException", "java/lang/Exception"]) (ik := 77) (ic := 79) (A := A) hx hb hst hown (by decide +kernel) (by decide +kernel) (hts (.classLink RX11 77 "java/lang/IllegalArgumentException") (by decide +kernel)) (hts (.initialized "java/lang/IllegalArgumentException") (by decide +kernel)) (vx_hat (B := ngX11_79) (fun w h => hts w (List.mem_cons_of_mem _ (List.mem_append_right _ h))) (fun _ h => h) (fun w h => va_Nw.use (ngX11_79_ot w h) (hngX11_79 w h))) (by decide +kernel) hU hN hS (by rw [hml]; exact hl.1) dX11_rule_15 dX11_rule_18 dX11_rule_19 dX11_rule_22 (fun x hx9 => (htab x hx9).elim) (by decide +kernel) (Nat.le_of_ble_eq_true rfl) (by decide +kernel) (by decide +kernel) hlocks (fun t hvm hz hk => ⟨"java/lang/IllegalArgumentException", ⟨rfl, by trivial⟩, rfl, ⟨Nat.le_trans hS.1 hz, fun q h1 h2 => (hk q (Nat.lt_of_lt_of_le h1 hS.1)).trans (hS.2.1 q h1 h2)⟩⟩) hS.2.2 (by decide +kernel) (by decide +kernel)
theorem dX11_pair_0 : decode cX11_pair 0 = .ok (.iload_n 1, 1) := by decide +kernel
theorem dX11_pair_1 : decode cX11_pair 1 = .ok (.ifCond .lt 20, 3) := by decide +kernel
theorem dX11_pair_4 : decode cX11_pair 4 = .ok (.iload_n 1, 1) := by decide +kernel
theorem dX11_pair_5 : decode cX11_pair 5 = .ok (.bipush 16, 2) := by decide +kernel
theorem dX11_pair_7 : decode cX11_pair 7 = .ok (.if_icmp .ge 14, 3) := by decide +kernel
theorem dX11_pair_10 : decode cX11_pair 10 = .ok (.iload_n 2, 1) := by decide +kernel
theorem dX11_pair_11 : decode cX11_pair 11 = .ok (.ifCond .lt 10, 3) := by decide +kernel
theorem dX11_pair_14 : decode cX11_pair 14 = .ok (.iload_n 2, 1) := by decide +kernel
theorem dX11_pair_15 : decode cX11_pair 15 = .ok (.ldc_w 344, 3) := by decide +kernel
theorem dX11_pair_18 : decode cX11_pair 18 = .ok (.if_icmp .le 5, 3) := by decide +kernel
theorem dX11_pair_21 : decode cX11_pair 21 = .ok (.iconst 0, 1) := by decide +kernel
theorem dX11_pair_22 : decode cX11_pair 22 = .ok (.ireturn, 1) := by decide +kernel
theorem dX11_pair_23 : decode cX11_pair 23 = .ok (.aload_n 0, 1) := by decide +kernel
theorem dX11_pair_24 : decode cX11_pair 24 = .ok (.invokevirtual 345, 3) := by decide +kernel
theorem dX11_pair_27 : decode cX11_pair 27 = .ok (.getfield 366, 3) := by decide +kernel
theorem dX11_pair_30 : decode cX11_pair 30 = .ok (.iload_n 1, 1) := by decide +kernel
theorem dX11_pair_31 : decode cX11_pair 31 = .ok (.iload_n 2, 1) := by decide +kernel
theorem dX11_pair_32 : decode cX11_pair 32 = .ok (.iastore, 1) := by decide +kernel
theorem dX11_pair_33 : decode cX11_pair 33 = .ok (.iconst 1, 1) := by decide +kernel
theorem dX11_pair_34 : decode cX11_pair 34 = .ok (.ireturn, 1) := by decide +kernel
def wsPX11_pair : List Cond := .code yX11_pair cX11_pair 3 (some .boolean) :: ([.constant RX11 344 65535, .fieldLink RX11 366 "OptimaWorks$ValueDesk" "pairs" "[I"] ++ wsX70 ++ (wsV RX11 345 RX11 yX11_theValues wsPX11_theValues))
theorem iwsPX11_pair_in7 : ∀ w ∈ wsX70, w ∈ wsPX11_pair := fun _ h => List.mem_cons_of_mem _ (List.mem_append_left _ (List.mem_append_right _ h))
theorem gwsPX11_pair_0 : GoodIn wsPX11_pair (wsV RX11 345 RX11 yX11_theValues wsPX11_theValues) := goodIn_sub (fun _ h => List.mem_cons_of_mem _ (List.mem_append_right _ h)) (by decide +kernel)
set_option maxHeartbeats 4000000 in
set_option maxRecDepth 100000 in
/-- pair(v, bits) -/
theorem p_X11_pair (l : Launch) (dC : Nat → ClassId) (dI : Nat → Nat → Nat) (h0 : Nat) (a : Nat → Nat) (qv : Int32) (qb : Int32) (sz : Nat) : Met l yX11_pair wsPX11_pair ({ frames := 3, cells := 15, slots := 1408, locals := 52 }) (va_Pc [.ref h0, .int qv, .int qb] (fun U => U.heap.size = sz ∧ va_P (dC, dI) vwCl [(h0, .inr (11, [.ref (a 0), .ref (a 1), .ref (a 3), .ref (a 14), .int 0, .null, .null, .null, .null, .null, .null]))] U.heap ∧ va_K (dC, dI) vwCl [] U ∧ va_D (fun _ => True) [(h0, .inr (11, [.ref (a 0), .ref (a 1), .ref (a 3), .ref (a 14), .int 0, .null, .null, .null, .null, .null, .null]))] ∧ va_Nw (.methodLinkNest RX11 343 yX7_init RX11) U)) (va_Qi (fun (r : Int32) (u : Unit) => (r = 0 ∧ ((qv).toInt < 0 ∨ 15 < (qv).toInt ∨ (qb).toInt < 0 ∨ 65535 < (qb).toInt)) ∨ (r = 1 ∧ (0 ≤ (qv).toInt ∧ (qv).toInt ≤ 15 ∧ 0 ≤ (qb).toInt ∧ (qb).toInt ≤ 65535))) (fun (u : Unit) t => va_P (dC, dI) vwCl [] t.heap ∧ va_K (dC, dI) vwCl [] t ∧ va_D (va_A [(h0, .inr (11, [.ref (a 0), .ref (a 1), .ref (a 3), .ref (a 14), .int 0, .null, .null, .null, .null, .null, .null]))] sz) []) (va_A [(h0, .inr (11, [.ref (a 0), .ref (a 1), .ref (a 3), .ref (a 14), .int 0, .null, .null, .null, .null, .null, .null]))] sz)) 15 1408 (va_A [(h0, .inr (11, [.ref (a 0), .ref (a 1), .ref (a 3), .ref (a 14), .int 0, .null, .null, .null, .null, .null, .null]))] sz) := by
  refine Met.ofW (cc := cX11_pair) (maxL := 3) (ret := (some .boolean)) (by decide) rfl ?_
  intro p e s m args below meth c s₁ B hml hv
  obtain ⟨rfl, hsz, hP, hK, hD0, hnX11_343⟩ := hv
  have hx := B.exec
  have hb := B.bytes
  have hr := B.returns
  have hts := atoms_spec (ws := wsPX11_pair) B.pre
  have hown : s.vm.findClass RX11 = some m.cls := findClass_of_methodNamed B.named
  have hlocks := B.notSynchronized
  subst hsz
  have hD := hD0.self (sz := s.heap.size)
  generalize hAe : va_A [(h0, .inr (11, [.ref (a 0), .ref (a 1), .ref (a 3), .ref (a 14), .int 0, .null, .null, .null, .null, .null, .null]))] s.heap.size = A at hD ⊢
  have hA : ∀ q : Nat, s.heap.size ≤ q → A q := fun q h => by rw [← hAe]; exact Or.inr h
  have hS : va_S A s.heap s.heap [] := va_S.rf
  have hP : va_P (dC, dI) vwCl [(h0, .inr (11, [.ref (a 0), .ref (a 1), .ref (a 3), .ref (a 14), .int 0, .null, .null, .null, .null, .null, .null]))] s.heap := hP
  have hl := lv_entry ([.ref h0, .int qv, .int qb]) (n := 3) (Nat.le_of_ble_eq_true rfl)
  rw [lg_entry_eq]
  generalize (lg_sl ([.ref h0, .int qv, .int qb]) ++ List.replicate (3 - (lg_sl ([.ref h0, .int qv, .int qb])).length) Slot.unset).toArray = ls at hl ⊢
  have hl : lv_has ls 3 [(0, .ref h0), (1, .int qv), (2, .int qb)] := hl
  refine lv_iload_n hx hb dX11_pair_0 rfl (lv_at hl 1 rfl) ?_
  refine lv_if_lt (tgt := 21) hx hb dX11_pair_1 (by decide) (fun c_1 => ?_) (fun c_1 => ?_)
  · have t_1 : (qv).toInt < 0 := toI_lt c_1 rfl (by decide)
    refine lv_iconst (v := 0) hx hb dX11_pair_21 (by decide) ?_
    refine W.widen (k := 15) (n := 1408) (by decide +kernel) (by decide +kernel) ?_
    exact W.zret (v := 0) hx hb hr rfl (fun t ht hW => ⟨⟨0, (), rfl, by first | (left; (refine ⟨?_, ?_⟩ <;> (first | rfl | assumption | trivial | omega | (simp [c_1]; done) | (simp; omega)))) | (right; (refine ⟨?_, ?_⟩ <;> (first | rfl | assumption | trivial | omega | (simp [c_1]; done) | (simp; omega)))), by rw [ht]; exact hP.sub [] rfl, va_K.moved hW.alike (hK.sub [] rfl), hD.sub [] (by decide) rfl⟩, hS.F ht⟩) hS.2.2 dX11_pair_22
  · have t_1 : ¬ (qv).toInt < 0 := toI_nlt c_1 rfl (by decide)
    refine lv_iload_n hx hb dX11_pair_4 rfl (lv_at hl 1 rfl) ?_
    refine lv_bipush (v := 16) hx hb dX11_pair_5 (by decide) ?_
    refine lv_icmp_ge (tgt := 21) hx hb dX11_pair_7 (by decide) (fun c_7 => ?_) (fun c_7 => ?_)
    · have t_7 : (qv).toInt ≥ 16 := toI_ge c_7 rfl (by decide)
      refine lv_iconst (v := 0) hx hb dX11_pair_21 (by decide) ?_
      refine W.widen (k := 15) (n := 1408) (by decide +kernel) (by decide +kernel) ?_
      exact W.zret (v := 0) hx hb hr rfl (fun t ht hW => ⟨⟨0, (), rfl, by first | (left; (refine ⟨?_, ?_⟩ <;> (first | rfl | assumption | trivial | omega | (simp [c_1, c_7]; done) | (simp; omega)))) | (right; (refine ⟨?_, ?_⟩ <;> (first | rfl | assumption | trivial | omega | (simp [c_1, c_7]; done) | (simp; omega)))), by rw [ht]; exact hP.sub [] rfl, va_K.moved hW.alike (hK.sub [] rfl), hD.sub [] (by decide) rfl⟩, hS.F ht⟩) hS.2.2 dX11_pair_22
    · have t_7 : ¬ (qv).toInt ≥ 16 := toI_nge c_7 rfl (by decide)
      refine lv_iload_n hx hb dX11_pair_10 rfl (lv_at hl 2 rfl) ?_
      refine lv_if_lt (tgt := 21) hx hb dX11_pair_11 (by decide) (fun c_11 => ?_) (fun c_11 => ?_)
      · have t_11 : (qb).toInt < 0 := toI_lt c_11 rfl (by decide)
        refine lv_iconst (v := 0) hx hb dX11_pair_21 (by decide) ?_
        refine W.widen (k := 15) (n := 1408) (by decide +kernel) (by decide +kernel) ?_
        exact W.zret (v := 0) hx hb hr rfl (fun t ht hW => ⟨⟨0, (), rfl, by first | (left; (refine ⟨?_, ?_⟩ <;> (first | rfl | assumption | trivial | omega | (simp [c_1, c_7, c_11]; done) | (simp; omega)))) | (right; (refine ⟨?_, ?_⟩ <;> (first | rfl | assumption | trivial | omega | (simp [c_1, c_7, c_11]; done) | (simp; omega)))), by rw [ht]; exact hP.sub [] rfl, va_K.moved hW.alike (hK.sub [] rfl), hD.sub [] (by decide) rfl⟩, hS.F ht⟩) hS.2.2 dX11_pair_22
      · have t_11 : ¬ (qb).toInt < 0 := toI_nlt c_11 rfl (by decide)
        refine lv_iload_n hx hb dX11_pair_14 rfl (lv_at hl 2 rfl) ?_
        refine lv_ldcw (v := 65535) hx hb hown (hts (.constant RX11 344 65535) (by decide +kernel)) dX11_pair_15 ?_
        refine lv_icmp_le (tgt := 23) hx hb dX11_pair_18 (by decide) (fun c_18 => ?_) (fun c_18 => ?_)
        · have t_18 : (qb).toInt ≤ 65535 := toI_le c_18 rfl (by decide)
          refine lv_aload_n hx hb dX11_pair_23 rfl (lv_at hl 0 rfl) ?_
          have hPc := hP.sub (ws' := [(h0, .inr (11, [.ref (a 0), .ref (a 1), .ref (a 3), .ref (a 14), .int 0, .null, .null, .null, .null, .null, .null]))]) [0] rfl
          have hDc := hD.sub (ws' := [(h0, .inr (11, [.ref (a 0), .ref (a 1), .ref (a 3), .ref (a 14), .int 0, .null, .null, .null, .null, .null, .null]))]) [0] (by decide) rfl
          have hKc := hK.sub (tys' := []) [] rfl
          have hFc := va_free (wc := [(h0, .inr (11, [.ref (a 0), .ref (a 1), .ref (a 3), .ref (a 14), .int 0, .null, .null, .null, .null, .null, .null]))]) hD hS hA [0] rfl
          refine va_callr (va_runV (As := []) (rest := []) ⟨hx, hb, hml, hown, hts⟩ (p_X11_theValues l dC dI h0 a s.heap.size) (cwV 0 hts gwsPX11_pair_0 rfl rfl rfl (by decide +kernel) ⟨by decide +kernel, by decide +kernel⟩) ⟨fun a U g mk q => by obtain ⟨q0, q1, qP, qK, qD, qhnX11_343⟩ := q; exact ⟨q0, q1, qP, va_K.moved (u := U) (U := U.calling g mk a) (Vm.Alike.refl U.vm) qK, qD, va_Nw.same (u := U) (U := U.calling g mk a) rfl rfl qhnX11_343⟩, va_recv hKc hPc (ci := 11) (q0 := 0) rfl rfl, fun U hU9 hW => ⟨rfl, by rw [hU9], by rw [hU9]; exact hPc, va_K.moved hW.alike hKc, hDc.weaken (fun _ _ _ _ => trivial), va_Nw.warmM hW hnX11_343⟩⟩ rfl rfl hl.1 rfl (lv_room (Nat.le_of_ble_eq_true rfl)) dX11_pair_24 ⟨by decide +kernel, by decide +kernel⟩) hS (fun q _ h => hFc q h) hFc (fun u a24 t H1 locs ht hvm hw hB hz1 hk1 hS => ?_)
          obtain ⟨aa24, kk24⟩ := u
          obtain ⟨hP1, hK1, hD1⟩ := hB
          rw [ht] at hP1
          have hK1 := va_K.moved hvm.symm hK1
          obtain ⟨hP, hD⟩ := va_join (wr := []) (w1 := [(h0, .inr (11, [.ref (a 0), .ref (a 1), .ref (a 3), .ref (a 14), .int 0, .null, .null, .null, .ref a24, .null, .null])), (a24, .inr (7, [.int 0, .int 0, .ref (aa24 0), .ref (aa24 1), .ref (aa24 2), .ref (aa24 3), .ref (aa24 4), .ref (aa24 5), .ref (aa24 6), .ref (aa24 7), .ref (aa24 8), .int (-1), .int 0, .ref (aa24 9), .ref (aa24 10), .ref (aa24 11), .ref (aa24 12), .ref (aa24 13), .int 0, .int 0])), ((aa24 0), .inl ((kk24 0), 16, .inl (fun _ => 0))), ((aa24 1), .inl ((kk24 1), 10, .inl (fun _ => 0))), ((aa24 2), .inl ((kk24 2), 12, .inl (fun _ => 0))), ((aa24 3), .inl ((kk24 3), 12, .inl (fun _ => 0))), ((aa24 4), .inl ((kk24 4), 12, .inl (fun _ => 0))), ((aa24 5), .inl ((kk24 5), 12, .inl (fun _ => 0))), ((aa24 6), .inl ((kk24 6), 192, .inl (fun _ => 0))), ((aa24 7), .inl ((kk24 7), 12, .inl (fun _ => 0))), ((aa24 8), .inl ((kk24 8), 10, .inl (fun _ => 0))), ((aa24 9), .inl ((kk24 9), 33, .inr (.inl (fun _ => 0)))), ((aa24 10), .inl ((kk24 10), 33, .inr (.inl (fun _ => 0)))), ((aa24 11), .inl ((kk24 11), 1024, .inl (fun _ => 0))), ((aa24 12), .inl ((kk24 12), 10, .inl (fun _ => 0))), ((aa24 13), .inl ((kk24 13), 0, .inr (.inl (fun _ => 0))))]) hP hD [0] [] rfl rfl (by decide) (by decide) hk1 hFc hP1 hD1
          have hK := hK.app hK1
          generalize H1 = H at hP hS ⊢
          have hP : va_P (dC, dI) vwCl [(h0, .inr (11, [.ref (a 0), .ref (a 1), .ref (a 3), .ref (a 14), .int 0, .null, .null, .null, .ref a24, .null, .null])), (a24, .inr (7, [.int 0, .int 0, .ref (aa24 0), .ref (aa24 1), .ref (aa24 2), .ref (aa24 3), .ref (aa24 4), .ref (aa24 5), .ref (aa24 6), .ref (aa24 7), .ref (aa24 8), .int (-1), .int 0, .ref (aa24 9), .ref (aa24 10), .ref (aa24 11), .ref (aa24 12), .ref (aa24 13), .int 0, .int 0])), ((aa24 0), .inl ((kk24 0), 16, .inl (fun _ => 0))), ((aa24 1), .inl ((kk24 1), 10, .inl (fun _ => 0))), ((aa24 2), .inl ((kk24 2), 12, .inl (fun _ => 0))), ((aa24 3), .inl ((kk24 3), 12, .inl (fun _ => 0))), ((aa24 4), .inl ((kk24 4), 12, .inl (fun _ => 0))), ((aa24 5), .inl ((kk24 5), 12, .inl (fun _ => 0))), ((aa24 6), .inl ((kk24 6), 192, .inl (fun _ => 0))), ((aa24 7), .inl ((kk24 7), 12, .inl (fun _ => 0))), ((aa24 8), .inl ((kk24 8), 10, .inl (fun _ => 0))), ((aa24 9), .inl ((kk24 9), 33, .inr (.inl (fun _ => 0)))), ((aa24 10), .inl ((kk24 10), 33, .inr (.inl (fun _ => 0)))), ((aa24 11), .inl ((kk24 11), 1024, .inl (fun _ => 0))), ((aa24 12), .inl ((kk24 12), 10, .inl (fun _ => 0))), ((aa24 13), .inl ((kk24 13), 0, .inr (.inl (fun _ => 0))))] H := hP
          have hD : va_D A [(h0, .inr (11, [.ref (a 0), .ref (a 1), .ref (a 3), .ref (a 14), .int 0, .null, .null, .null, .ref a24, .null, .null])), (a24, .inr (7, [.int 0, .int 0, .ref (aa24 0), .ref (aa24 1), .ref (aa24 2), .ref (aa24 3), .ref (aa24 4), .ref (aa24 5), .ref (aa24 6), .ref (aa24 7), .ref (aa24 8), .int (-1), .int 0, .ref (aa24 9), .ref (aa24 10), .ref (aa24 11), .ref (aa24 12), .ref (aa24 13), .int 0, .int 0])), ((aa24 0), .inl ((kk24 0), 16, .inl (fun _ => 0))), ((aa24 1), .inl ((kk24 1), 10, .inl (fun _ => 0))), ((aa24 2), .inl ((kk24 2), 12, .inl (fun _ => 0))), ((aa24 3), .inl ((kk24 3), 12, .inl (fun _ => 0))), ((aa24 4), .inl ((kk24 4), 12, .inl (fun _ => 0))), ((aa24 5), .inl ((kk24 5), 12, .inl (fun _ => 0))), ((aa24 6), .inl ((kk24 6), 192, .inl (fun _ => 0))), ((aa24 7), .inl ((kk24 7), 12, .inl (fun _ => 0))), ((aa24 8), .inl ((kk24 8), 10, .inl (fun _ => 0))), ((aa24 9), .inl ((kk24 9), 33, .inr (.inl (fun _ => 0)))), ((aa24 10), .inl ((kk24 10), 33, .inr (.inl (fun _ => 0)))), ((aa24 11), .inl ((kk24 11), 1024, .inl (fun _ => 0))), ((aa24 12), .inl ((kk24 12), 10, .inl (fun _ => 0))), ((aa24 13), .inl ((kk24 13), 0, .inr (.inl (fun _ => 0))))] := hD
          have hK : va_K (dC, dI) vwCl [((kk24 0), .int), ((kk24 1), .int), ((kk24 2), .int), ((kk24 3), .int), ((kk24 4), .int), ((kk24 5), .int), ((kk24 6), .int), ((kk24 7), .int), ((kk24 8), .int), ((kk24 9), .long), ((kk24 10), .long), ((kk24 11), .int), ((kk24 12), .int), ((kk24 13), .long)] s := hK
          refine W.widen (k := 15) (n := 1408) (by decide +kernel) (by decide +kernel) ?_
          refine va_get (D := (dC, dI)) (ci := 7) (v := .ref (aa24 0)) (C := RX7) (T := TX7) (N := 20) hx hb hts iwsPX11_pair_in7 hown hK hP 1 rfl rfl 2 (by decide) (hts (.fieldLink RX11 366 "OptimaWorks$ValueDesk" "pairs" "[I") (by decide +kernel)) (fun _ h9 => h9) rfl dX11_pair_27 ?_
          refine lv_iload_n hx hb dX11_pair_30 rfl (lv_at hl 1 rfl) ?_
          refine lv_iload_n hx hb dX11_pair_31 rfl (lv_at hl 2 rfl) ?_
          refine va_iast hx hb hK hP hD hS 2 0 rfl rfl (vp_in_iff.mpr (by omega)) dX11_pair_32 (fun H locs hP hD hS => ?_)
          have hP : va_P (dC, dI) vwCl [(h0, .inr (11, [.ref (a 0), .ref (a 1), .ref (a 3), .ref (a 14), .int 0, .null, .null, .null, .ref a24, .null, .null])), (a24, .inr (7, [.int 0, .int 0, .ref (aa24 0), .ref (aa24 1), .ref (aa24 2), .ref (aa24 3), .ref (aa24 4), .ref (aa24 5), .ref (aa24 6), .ref (aa24 7), .ref (aa24 8), .int (-1), .int 0, .ref (aa24 9), .ref (aa24 10), .ref (aa24 11), .ref (aa24 12), .ref (aa24 13), .int 0, .int 0])), ((aa24 0), .inl ((kk24 0), 16, .inl (upd (fun _ => 0) (qv).toNatClampNeg qb))), ((aa24 1), .inl ((kk24 1), 10, .inl (fun _ => 0))), ((aa24 2), .inl ((kk24 2), 12, .inl (fun _ => 0))), ((aa24 3), .inl ((kk24 3), 12, .inl (fun _ => 0))), ((aa24 4), .inl ((kk24 4), 12, .inl (fun _ => 0))), ((aa24 5), .inl ((kk24 5), 12, .inl (fun _ => 0))), ((aa24 6), .inl ((kk24 6), 192, .inl (fun _ => 0))), ((aa24 7), .inl ((kk24 7), 12, .inl (fun _ => 0))), ((aa24 8), .inl ((kk24 8), 10, .inl (fun _ => 0))), ((aa24 9), .inl ((kk24 9), 33, .inr (.inl (fun _ => 0)))), ((aa24 10), .inl ((kk24 10), 33, .inr (.inl (fun _ => 0)))), ((aa24 11), .inl ((kk24 11), 1024, .inl (fun _ => 0))), ((aa24 12), .inl ((kk24 12), 10, .inl (fun _ => 0))), ((aa24 13), .inl ((kk24 13), 0, .inr (.inl (fun _ => 0))))] H := hP
          have hD : va_D A [(h0, .inr (11, [.ref (a 0), .ref (a 1), .ref (a 3), .ref (a 14), .int 0, .null, .null, .null, .ref a24, .null, .null])), (a24, .inr (7, [.int 0, .int 0, .ref (aa24 0), .ref (aa24 1), .ref (aa24 2), .ref (aa24 3), .ref (aa24 4), .ref (aa24 5), .ref (aa24 6), .ref (aa24 7), .ref (aa24 8), .int (-1), .int 0, .ref (aa24 9), .ref (aa24 10), .ref (aa24 11), .ref (aa24 12), .ref (aa24 13), .int 0, .int 0])), ((aa24 0), .inl ((kk24 0), 16, .inl (upd (fun _ => 0) (qv).toNatClampNeg qb))), ((aa24 1), .inl ((kk24 1), 10, .inl (fun _ => 0))), ((aa24 2), .inl ((kk24 2), 12, .inl (fun _ => 0))), ((aa24 3), .inl ((kk24 3), 12, .inl (fun _ => 0))), ((aa24 4), .inl ((kk24 4), 12, .inl (fun _ => 0))), ((aa24 5), .inl ((kk24 5), 12, .inl (fun _ => 0))), ((aa24 6), .inl ((kk24 6), 192, .inl (fun _ => 0))), ((aa24 7), .inl ((kk24 7), 12, .inl (fun _ => 0))), ((aa24 8), .inl ((kk24 8), 10, .inl (fun _ => 0))), ((aa24 9), .inl ((kk24 9), 33, .inr (.inl (fun _ => 0)))), ((aa24 10), .inl ((kk24 10), 33, .inr (.inl (fun _ => 0)))), ((aa24 11), .inl ((kk24 11), 1024, .inl (fun _ => 0))), ((aa24 12), .inl ((kk24 12), 10, .inl (fun _ => 0))), ((aa24 13), .inl ((kk24 13), 0, .inr (.inl (fun _ => 0))))] := hD
          refine lv_iconst (v := 1) hx hb dX11_pair_33 (by decide) ?_
          refine W.widen (k := 15) (n := 1408) (by decide +kernel) (by decide +kernel) ?_
          exact W.zret (v := 1) hx hb hr rfl (fun t ht hW => ⟨⟨1, (), rfl, by first | (left; (refine ⟨?_, ?_⟩ <;> (first | rfl | assumption | trivial | omega | (simp [c_1, c_7, c_11, c_18]; done) | (simp; omega)))) | (right; (refine ⟨?_, ?_⟩ <;> (first | rfl | assumption | trivial | omega | (simp [c_1, c_7, c_11, c_18]; done) | (simp; omega)))), by rw [ht]; exact hP.sub [] rfl, va_K.moved hW.alike (hK.sub [] rfl), hD.sub [] (by decide) rfl⟩, hS.F ht⟩) hS.2.2 dX11_pair_34
        · have t_18 : ¬ (qb).toInt ≤ 65535 := toI_nle c_18 rfl (by decide)
          refine lv_iconst (v := 0) hx hb dX11_pair_21 (by decide) ?_
          refine W.widen (k := 15) (n := 1408) (by decide +kernel) (by decide +kernel) ?_
          exact W.zret (v := 0) hx hb hr rfl (fun t ht hW => ⟨⟨0, (), rfl, by first | (left; (refine ⟨?_, ?_⟩ <;> (first | rfl | assumption | trivial | omega | (simp [c_1, c_7, c_11, c_18]; done) | (simp; omega)))) | (right; (refine ⟨?_, ?_⟩ <;> (first | rfl | assumption | trivial | omega | (simp [c_1, c_7, c_11, c_18]; done) | (simp; omega)))), by rw [ht]; exact hP.sub [] rfl, va_K.moved hW.alike (hK.sub [] rfl), hD.sub [] (by decide) rfl⟩, hS.F ht⟩) hS.2.2 dX11_pair_22
theorem dX7_listedValue_0 : decode cX7_listedValue 0 = .ok (.aload_n 0, 1) := by decide +kernel
theorem dX7_listedValue_1 : decode cX7_listedValue 1 = .ok (.iload_n 2, 1) := by decide +kernel
theorem dX7_listedValue_2 : decode cX7_listedValue 2 = .ok (.invokevirtual 76, 3) := by decide +kernel
theorem dX7_listedValue_5 : decode cX7_listedValue 5 = .ok (.ifCond .eq 15, 3) := by decide +kernel
theorem dX7_listedValue_20 : decode cX7_listedValue 20 = .ok (.iconst (-1), 1) := by decide +kernel
theorem dX7_listedValue_21 : decode cX7_listedValue 21 = .ok (.ireturn, 1) := by decide +kernel
def wsPX7_listedValue : List Cond := .code yX7_listedValue cX7_listedValue 3 (some .int) :: ([] ++ (wsV RX7 76 RX7 yX7_isHolder wsPX7_isHolder))
theorem gwsPX7_listedValue_0 : GoodIn wsPX7_listedValue (wsV RX7 76 RX7 yX7_isHolder wsPX7_isHolder) := goodIn_sub (fun _ h => List.mem_cons_of_mem _ (List.mem_append_right _ h)) (by decide +kernel)
set_option maxHeartbeats 4000000 in
set_option maxRecDepth 100000 in
/-- listedValue(k, h) -/
theorem p_X7_listedValue (l : Launch) (dC : Nat → ClassId) (dI : Nat → Nat → Nat) (d0 : Nat) (bb : Nat → Nat) (qk : Int32) (qh : Int32) (sz : Nat) : Met l yX7_listedValue wsPX7_listedValue ({ frames := 1, cells := 0, slots := 0, locals := 21 }) (va_Pc [.ref d0, .int qk, .int qh] (fun U => U.heap.size = sz ∧ va_P (dC, dI) vwCl [(d0, .inr (7, [.int 0, .int 0, .ref (bb 0), .ref (bb 1), .ref (bb 2), .ref (bb 3), .ref (bb 4), .ref (bb 5), .ref (bb 6), .ref (bb 7), .ref (bb 8), .int (-1), .int 0, .ref (bb 9), .ref (bb 10), .ref (bb 11), .ref (bb 12), .ref (bb 13), .int 0, .int 0]))] U.heap ∧ va_K (dC, dI) vwCl [] U ∧ va_D (fun _ => True) [(d0, .inr (7, [.int 0, .int 0, .ref (bb 0), .ref (bb 1), .ref (bb 2), .ref (bb 3), .ref (bb 4), .ref (bb 5), .ref (bb 6), .ref (bb 7), .ref (bb 8), .int (-1), .int 0, .ref (bb 9), .ref (bb 10), .ref (bb 11), .ref (bb 12), .ref (bb 13), .int 0, .int 0]))])) (va_Qi (fun (r : Int32) (u : Unit) => r = (-1)) (fun (u : Unit) t => va_P (dC, dI) vwCl [] t.heap ∧ va_K (dC, dI) vwCl [] t ∧ va_D (va_A [(d0, .inr (7, [.int 0, .int 0, .ref (bb 0), .ref (bb 1), .ref (bb 2), .ref (bb 3), .ref (bb 4), .ref (bb 5), .ref (bb 6), .ref (bb 7), .ref (bb 8), .int (-1), .int 0, .ref (bb 9), .ref (bb 10), .ref (bb 11), .ref (bb 12), .ref (bb 13), .int 0, .int 0]))] sz) []) (va_A [(d0, .inr (7, [.int 0, .int 0, .ref (bb 0), .ref (bb 1), .ref (bb 2), .ref (bb 3), .ref (bb 4), .ref (bb 5), .ref (bb 6), .ref (bb 7), .ref (bb 8), .int (-1), .int 0, .ref (bb 9), .ref (bb 10), .ref (bb 11), .ref (bb 12), .ref (bb 13), .int 0, .int 0]))] sz)) 0 0 (va_A [(d0, .inr (7, [.int 0, .int 0, .ref (bb 0), .ref (bb 1), .ref (bb 2), .ref (bb 3), .ref (bb 4), .ref (bb 5), .ref (bb 6), .ref (bb 7), .ref (bb 8), .int (-1), .int 0, .ref (bb 9), .ref (bb 10), .ref (bb 11), .ref (bb 12), .ref (bb 13), .int 0, .int 0]))] sz) := by
  refine Met.ofW (cc := cX7_listedValue) (maxL := 3) (ret := (some .int)) (by decide) rfl ?_
  intro p e s m args below meth c s₁ B hml hv
  obtain ⟨rfl, hsz, hP, hK, hD0⟩ := hv
  have hx := B.exec
  have hb := B.bytes
  have hr := B.returns
  have hts := atoms_spec (ws := wsPX7_listedValue) B.pre
  have hown : s.vm.findClass RX7 = some m.cls := findClass_of_methodNamed B.named
  have hlocks := B.notSynchronized
  subst hsz
  have hD := hD0.self (sz := s.heap.size)
  generalize hAe : va_A [(d0, .inr (7, [.int 0, .int 0, .ref (bb 0), .ref (bb 1), .ref (bb 2), .ref (bb 3), .ref (bb 4), .ref (bb 5), .ref (bb 6), .ref (bb 7), .ref (bb 8), .int (-1), .int 0, .ref (bb 9), .ref (bb 10), .ref (bb 11), .ref (bb 12), .ref (bb 13), .int 0, .int 0]))] s.heap.size = A at hD ⊢
  have hA : ∀ q : Nat, s.heap.size ≤ q → A q := fun q h => by rw [← hAe]; exact Or.inr h
  have hS : va_S A s.heap s.heap [] := va_S.rf
  have hP : va_P (dC, dI) vwCl [(d0, .inr (7, [.int 0, .int 0, .ref (bb 0), .ref (bb 1), .ref (bb 2), .ref (bb 3), .ref (bb 4), .ref (bb 5), .ref (bb 6), .ref (bb 7), .ref (bb 8), .int (-1), .int 0, .ref (bb 9), .ref (bb 10), .ref (bb 11), .ref (bb 12), .ref (bb 13), .int 0, .int 0]))] s.heap := hP
  have hl := lv_entry ([.ref d0, .int qk, .int qh]) (n := 3) (Nat.le_of_ble_eq_true rfl)
  rw [lg_entry_eq]
  generalize (lg_sl ([.ref d0, .int qk, .int qh]) ++ List.replicate (3 - (lg_sl ([.ref d0, .int qk, .int qh])).length) Slot.unset).toArray = ls at hl ⊢
  have hl : lv_has ls 3 [(0, .ref d0), (1, .int qk), (2, .int qh)] := hl
  refine lv_aload_n hx hb dX7_listedValue_0 rfl (lv_at hl 0 rfl) ?_
  refine lv_iload_n hx hb dX7_listedValue_1 rfl (lv_at hl 2 rfl) ?_
  have hPc := hP.sub (ws' := [(d0, .inr (7, [.int 0, .int 0, .ref (bb 0), .ref (bb 1), .ref (bb 2), .ref (bb 3), .ref (bb 4), .ref (bb 5), .ref (bb 6), .ref (bb 7), .ref (bb 8), .int (-1), .int 0, .ref (bb 9), .ref (bb 10), .ref (bb 11), .ref (bb 12), .ref (bb 13), .int 0, .int 0]))]) [0] rfl
  have hDc := hD.sub (ws' := [(d0, .inr (7, [.int 0, .int 0, .ref (bb 0), .ref (bb 1), .ref (bb 2), .ref (bb 3), .ref (bb 4), .ref (bb 5), .ref (bb 6), .ref (bb 7), .ref (bb 8), .int (-1), .int 0, .ref (bb 9), .ref (bb 10), .ref (bb 11), .ref (bb 12), .ref (bb 13), .int 0, .int 0]))]) [0] (by decide) rfl
  have hKc := hK.sub (tys' := []) [] rfl
  have hFc := va_free (wc := [(d0, .inr (7, [.int 0, .int 0, .ref (bb 0), .ref (bb 1), .ref (bb 2), .ref (bb 3), .ref (bb 4), .ref (bb 5), .ref (bb 6), .ref (bb 7), .ref (bb 8), .int (-1), .int 0, .ref (bb 9), .ref (bb 10), .ref (bb 11), .ref (bb 12), .ref (bb 13), .int 0, .int 0]))]) hD hS hA [0] rfl
  refine va_calli (va_runV (As := [.int qh]) (rest := []) ⟨hx, hb, hml, hown, hts⟩ (p_X7_isHolder l dC dI d0 bb qh s.heap.size) (cwV 1 hts gwsPX7_listedValue_0 rfl rfl rfl (by decide +kernel) ⟨by decide +kernel, by decide +kernel⟩) ⟨fun a U g mk q => by obtain ⟨q0, q1, qP, qK, qD⟩ := q; exact ⟨q0, q1, qP, va_K.moved (u := U) (U := U.calling g mk a) (Vm.Alike.refl U.vm) qK, qD⟩, va_recv hKc hPc (ci := 7) (q0 := 0) rfl rfl, fun U hU9 hW => ⟨rfl, by rw [hU9], by rw [hU9]; exact hPc, va_K.moved hW.alike hKc, hDc.weaken (fun _ _ _ _ => trivial)⟩⟩ rfl rfl hl.1 rfl (lv_room (Nat.le_of_ble_eq_true rfl)) dX7_listedValue_2 ⟨by decide +kernel, by decide +kernel⟩) hS (fun q _ h => hFc q h) hFc (fun r2 u t H1 locs ht hvm hw hB hz1 hk1 hS => ?_)
  obtain ⟨hP1, hK1, hD1⟩ := hB
  rw [ht] at hP1
  have hK1 := va_K.moved hvm.symm hK1
  obtain ⟨hP, hD⟩ := va_join (wr := []) (w1 := [(d0, .inr (7, [.int 0, .int 0, .ref (bb 0), .ref (bb 1), .ref (bb 2), .ref (bb 3), .ref (bb 4), .ref (bb 5), .ref (bb 6), .ref (bb 7), .ref (bb 8), .int (-1), .int 0, .ref (bb 9), .ref (bb 10), .ref (bb 11), .ref (bb 12), .ref (bb 13), .int 0, .int 0]))]) hP hD [0] [] rfl rfl (by decide) (by decide) hk1 hFc hP1 hD1
  generalize H1 = H at hP hS ⊢
  have hP : va_P (dC, dI) vwCl [(d0, .inr (7, [.int 0, .int 0, .ref (bb 0), .ref (bb 1), .ref (bb 2), .ref (bb 3), .ref (bb 4), .ref (bb 5), .ref (bb 6), .ref (bb 7), .ref (bb 8), .int (-1), .int 0, .ref (bb 9), .ref (bb 10), .ref (bb 11), .ref (bb 12), .ref (bb 13), .int 0, .int 0]))] H := hP
  have hD : va_D A [(d0, .inr (7, [.int 0, .int 0, .ref (bb 0), .ref (bb 1), .ref (bb 2), .ref (bb 3), .ref (bb 4), .ref (bb 5), .ref (bb 6), .ref (bb 7), .ref (bb 8), .int (-1), .int 0, .ref (bb 9), .ref (bb 10), .ref (bb 11), .ref (bb 12), .ref (bb 13), .int 0, .int 0]))] := hD
  obtain rfl := hw
  refine lv_if_eq (tgt := 20) hx hb dX7_listedValue_5 (by decide) (fun _ => ?_) (fun c9 => absurd (by decide) c9)
  refine lv_iconst (v := (-1)) hx hb dX7_listedValue_20 (by decide) ?_
  refine W.widen (k := 0) (n := 0) (by decide +kernel) (by decide +kernel) ?_
  exact W.iret (v := (-1)) hx hb hr (fun t ht hW => ⟨⟨(-1), (), rfl, by (first | rfl | assumption | trivial | omega | (simp []; done) | (simp; omega)), by rw [ht]; exact hP.sub [] rfl, va_K.moved hW.alike (hK.sub [] rfl), hD.sub [] (by decide) rfl⟩, hS.F ht⟩) hS.2.2 dX7_listedValue_21
theorem dX11_listed_0 : decode cX11_listed 0 = .ok (.aload_n 0, 1) := by decide +kernel
theorem dX11_listed_1 : decode cX11_listed 1 = .ok (.invokevirtual 345, 3) := by decide +kernel
theorem dX11_listed_4 : decode cX11_listed 4 = .ok (.iload_n 1, 1) := by decide +kernel
theorem dX11_listed_5 : decode cX11_listed 5 = .ok (.iload_n 2, 1) := by decide +kernel
theorem dX11_listed_6 : decode cX11_listed 6 = .ok (.invokevirtual 379, 3) := by decide +kernel
theorem dX11_listed_9 : decode cX11_listed 9 = .ok (.ireturn, 1) := by decide +kernel
def wsPX11_listed : List Cond := .code yX11_listed cX11_listed 3 (some .int) :: ([] ++ (wsV RX11 345 RX11 yX11_theValues wsPX11_theValues) ++ (wsV RX11 379 RX7 yX7_listedValue wsPX7_listedValue))
theorem gwsPX11_listed_0 : GoodIn wsPX11_listed (wsV RX11 345 RX11 yX11_theValues wsPX11_theValues) := goodIn_sub (fun _ h => List.mem_cons_of_mem _ (List.mem_append_left _ (List.mem_append_right _ h))) (by decide +kernel)
theorem gwsPX11_listed_1 : GoodIn wsPX11_listed (wsV RX11 379 RX7 yX7_listedValue wsPX7_listedValue) := goodIn_sub (fun _ h => List.mem_cons_of_mem _ (List.mem_append_right _ h)) (by decide +kernel)
set_option maxHeartbeats 4000000 in
set_option maxRecDepth 100000 in
/-- listed(k, h) -/
theorem p_X11_listed (l : Launch) (dC : Nat → ClassId) (dI : Nat → Nat → Nat) (h0 : Nat) (a : Nat → Nat) (qk : Int32) (qh : Int32) (sz : Nat) : Met l yX11_listed wsPX11_listed ({ frames := 3, cells := 15, slots := 1408, locals := 52 }) (va_Pc [.ref h0, .int qk, .int qh] (fun U => U.heap.size = sz ∧ va_P (dC, dI) vwCl [(h0, .inr (11, [.ref (a 0), .ref (a 1), .ref (a 3), .ref (a 14), .int 0, .null, .null, .null, .null, .null, .null]))] U.heap ∧ va_K (dC, dI) vwCl [] U ∧ va_D (fun _ => True) [(h0, .inr (11, [.ref (a 0), .ref (a 1), .ref (a 3), .ref (a 14), .int 0, .null, .null, .null, .null, .null, .null]))] ∧ va_Nw (.methodLinkNest RX11 343 yX7_init RX11) U)) (va_Qi (fun (r : Int32) (u : Unit) => r = (-1)) (fun (u : Unit) t => va_P (dC, dI) vwCl [] t.heap ∧ va_K (dC, dI) vwCl [] t ∧ va_D (va_A [(h0, .inr (11, [.ref (a 0), .ref (a 1), .ref (a 3), .ref (a 14), .int 0, .null, .null, .null, .null, .null, .null]))] sz) []) (va_A [(h0, .inr (11, [.ref (a 0), .ref (a 1), .ref (a 3), .ref (a 14), .int 0, .null, .null, .null, .null, .null, .null]))] sz)) 15 1408 (va_A [(h0, .inr (11, [.ref (a 0), .ref (a 1), .ref (a 3), .ref (a 14), .int 0, .null, .null, .null, .null, .null, .null]))] sz) := by
  refine Met.ofW (cc := cX11_listed) (maxL := 3) (ret := (some .int)) (by decide) rfl ?_
  intro p e s m args below meth c s₁ B hml hv
  obtain ⟨rfl, hsz, hP, hK, hD0, hnX11_343⟩ := hv
  have hx := B.exec
  have hb := B.bytes
  have hr := B.returns
  have hts := atoms_spec (ws := wsPX11_listed) B.pre
  have hown : s.vm.findClass RX11 = some m.cls := findClass_of_methodNamed B.named
  have hlocks := B.notSynchronized
  subst hsz
  have hD := hD0.self (sz := s.heap.size)
  generalize hAe : va_A [(h0, .inr (11, [.ref (a 0), .ref (a 1), .ref (a 3), .ref (a 14), .int 0, .null, .null, .null, .null, .null, .null]))] s.heap.size = A at hD ⊢
  have hA : ∀ q : Nat, s.heap.size ≤ q → A q := fun q h => by rw [← hAe]; exact Or.inr h
  have hS : va_S A s.heap s.heap [] := va_S.rf
  have hP : va_P (dC, dI) vwCl [(h0, .inr (11, [.ref (a 0), .ref (a 1), .ref (a 3), .ref (a 14), .int 0, .null, .null, .null, .null, .null, .null]))] s.heap := hP
  have hl := lv_entry ([.ref h0, .int qk, .int qh]) (n := 3) (Nat.le_of_ble_eq_true rfl)
  rw [lg_entry_eq]
  generalize (lg_sl ([.ref h0, .int qk, .int qh]) ++ List.replicate (3 - (lg_sl ([.ref h0, .int qk, .int qh])).length) Slot.unset).toArray = ls at hl ⊢
  have hl : lv_has ls 3 [(0, .ref h0), (1, .int qk), (2, .int qh)] := hl
  refine lv_aload_n hx hb dX11_listed_0 rfl (lv_at hl 0 rfl) ?_
  have hPc := hP.sub (ws' := [(h0, .inr (11, [.ref (a 0), .ref (a 1), .ref (a 3), .ref (a 14), .int 0, .null, .null, .null, .null, .null, .null]))]) [0] rfl
  have hDc := hD.sub (ws' := [(h0, .inr (11, [.ref (a 0), .ref (a 1), .ref (a 3), .ref (a 14), .int 0, .null, .null, .null, .null, .null, .null]))]) [0] (by decide) rfl
  have hKc := hK.sub (tys' := []) [] rfl
  have hFc := va_free (wc := [(h0, .inr (11, [.ref (a 0), .ref (a 1), .ref (a 3), .ref (a 14), .int 0, .null, .null, .null, .null, .null, .null]))]) hD hS hA [0] rfl
  refine va_callr (va_runV (As := []) (rest := []) ⟨hx, hb, hml, hown, hts⟩ (p_X11_theValues l dC dI h0 a s.heap.size) (cwV 0 hts gwsPX11_listed_0 rfl rfl rfl (by decide +kernel) ⟨by decide +kernel, by decide +kernel⟩) ⟨fun a U g mk q => by obtain ⟨q0, q1, qP, qK, qD, qhnX11_343⟩ := q; exact ⟨q0, q1, qP, va_K.moved (u := U) (U := U.calling g mk a) (Vm.Alike.refl U.vm) qK, qD, va_Nw.same (u := U) (U := U.calling g mk a) rfl rfl qhnX11_343⟩, va_recv hKc hPc (ci := 11) (q0 := 0) rfl rfl, fun U hU9 hW => ⟨rfl, by rw [hU9], by rw [hU9]; exact hPc, va_K.moved hW.alike hKc, hDc.weaken (fun _ _ _ _ => trivial), va_Nw.warmM hW hnX11_343⟩⟩ rfl rfl hl.1 rfl (lv_room (Nat.le_of_ble_eq_true rfl)) dX11_listed_1 ⟨by decide +kernel, by decide +kernel⟩) hS (fun q _ h => hFc q h) hFc (fun u a1 t H1 locs ht hvm hw hB hz1 hk1 hS => ?_)
  obtain ⟨aa1, kk1⟩ := u
  obtain ⟨hP1, hK1, hD1⟩ := hB
  rw [ht] at hP1
  have hK1 := va_K.moved hvm.symm hK1
  obtain ⟨hP, hD⟩ := va_join (wr := []) (w1 := [(h0, .inr (11, [.ref (a 0), .ref (a 1), .ref (a 3), .ref (a 14), .int 0, .null, .null, .null, .ref a1, .null, .null])), (a1, .inr (7, [.int 0, .int 0, .ref (aa1 0), .ref (aa1 1), .ref (aa1 2), .ref (aa1 3), .ref (aa1 4), .ref (aa1 5), .ref (aa1 6), .ref (aa1 7), .ref (aa1 8), .int (-1), .int 0, .ref (aa1 9), .ref (aa1 10), .ref (aa1 11), .ref (aa1 12), .ref (aa1 13), .int 0, .int 0])), ((aa1 0), .inl ((kk1 0), 16, .inl (fun _ => 0))), ((aa1 1), .inl ((kk1 1), 10, .inl (fun _ => 0))), ((aa1 2), .inl ((kk1 2), 12, .inl (fun _ => 0))), ((aa1 3), .inl ((kk1 3), 12, .inl (fun _ => 0))), ((aa1 4), .inl ((kk1 4), 12, .inl (fun _ => 0))), ((aa1 5), .inl ((kk1 5), 12, .inl (fun _ => 0))), ((aa1 6), .inl ((kk1 6), 192, .inl (fun _ => 0))), ((aa1 7), .inl ((kk1 7), 12, .inl (fun _ => 0))), ((aa1 8), .inl ((kk1 8), 10, .inl (fun _ => 0))), ((aa1 9), .inl ((kk1 9), 33, .inr (.inl (fun _ => 0)))), ((aa1 10), .inl ((kk1 10), 33, .inr (.inl (fun _ => 0)))), ((aa1 11), .inl ((kk1 11), 1024, .inl (fun _ => 0))), ((aa1 12), .inl ((kk1 12), 10, .inl (fun _ => 0))), ((aa1 13), .inl ((kk1 13), 0, .inr (.inl (fun _ => 0))))]) hP hD [0] [] rfl rfl (by decide) (by decide) hk1 hFc hP1 hD1
  have hK := hK.app hK1
  generalize H1 = H at hP hS ⊢
  have hP : va_P (dC, dI) vwCl [(h0, .inr (11, [.ref (a 0), .ref (a 1), .ref (a 3), .ref (a 14), .int 0, .null, .null, .null, .ref a1, .null, .null])), (a1, .inr (7, [.int 0, .int 0, .ref (aa1 0), .ref (aa1 1), .ref (aa1 2), .ref (aa1 3), .ref (aa1 4), .ref (aa1 5), .ref (aa1 6), .ref (aa1 7), .ref (aa1 8), .int (-1), .int 0, .ref (aa1 9), .ref (aa1 10), .ref (aa1 11), .ref (aa1 12), .ref (aa1 13), .int 0, .int 0])), ((aa1 0), .inl ((kk1 0), 16, .inl (fun _ => 0))), ((aa1 1), .inl ((kk1 1), 10, .inl (fun _ => 0))), ((aa1 2), .inl ((kk1 2), 12, .inl (fun _ => 0))), ((aa1 3), .inl ((kk1 3), 12, .inl (fun _ => 0))), ((aa1 4), .inl ((kk1 4), 12, .inl (fun _ => 0))), ((aa1 5), .inl ((kk1 5), 12, .inl (fun _ => 0))), ((aa1 6), .inl ((kk1 6), 192, .inl (fun _ => 0))), ((aa1 7), .inl ((kk1 7), 12, .inl (fun _ => 0))), ((aa1 8), .inl ((kk1 8), 10, .inl (fun _ => 0))), ((aa1 9), .inl ((kk1 9), 33, .inr (.inl (fun _ => 0)))), ((aa1 10), .inl ((kk1 10), 33, .inr (.inl (fun _ => 0)))), ((aa1 11), .inl ((kk1 11), 1024, .inl (fun _ => 0))), ((aa1 12), .inl ((kk1 12), 10, .inl (fun _ => 0))), ((aa1 13), .inl ((kk1 13), 0, .inr (.inl (fun _ => 0))))] H := hP
  have hD : va_D A [(h0, .inr (11, [.ref (a 0), .ref (a 1), .ref (a 3), .ref (a 14), .int 0, .null, .null, .null, .ref a1, .null, .null])), (a1, .inr (7, [.int 0, .int 0, .ref (aa1 0), .ref (aa1 1), .ref (aa1 2), .ref (aa1 3), .ref (aa1 4), .ref (aa1 5), .ref (aa1 6), .ref (aa1 7), .ref (aa1 8), .int (-1), .int 0, .ref (aa1 9), .ref (aa1 10), .ref (aa1 11), .ref (aa1 12), .ref (aa1 13), .int 0, .int 0])), ((aa1 0), .inl ((kk1 0), 16, .inl (fun _ => 0))), ((aa1 1), .inl ((kk1 1), 10, .inl (fun _ => 0))), ((aa1 2), .inl ((kk1 2), 12, .inl (fun _ => 0))), ((aa1 3), .inl ((kk1 3), 12, .inl (fun _ => 0))), ((aa1 4), .inl ((kk1 4), 12, .inl (fun _ => 0))), ((aa1 5), .inl ((kk1 5), 12, .inl (fun _ => 0))), ((aa1 6), .inl ((kk1 6), 192, .inl (fun _ => 0))), ((aa1 7), .inl ((kk1 7), 12, .inl (fun _ => 0))), ((aa1 8), .inl ((kk1 8), 10, .inl (fun _ => 0))), ((aa1 9), .inl ((kk1 9), 33, .inr (.inl (fun _ => 0)))), ((aa1 10), .inl ((kk1 10), 33, .inr (.inl (fun _ => 0)))), ((aa1 11), .inl ((kk1 11), 1024, .inl (fun _ => 0))), ((aa1 12), .inl ((kk1 12), 10, .inl (fun _ => 0))), ((aa1 13), .inl ((kk1 13), 0, .inr (.inl (fun _ => 0))))] := hD
  have hK : va_K (dC, dI) vwCl [((kk1 0), .int), ((kk1 1), .int), ((kk1 2), .int), ((kk1 3), .int), ((kk1 4), .int), ((kk1 5), .int), ((kk1 6), .int), ((kk1 7), .int), ((kk1 8), .int), ((kk1 9), .long), ((kk1 10), .long), ((kk1 11), .int), ((kk1 12), .int), ((kk1 13), .long)] s := hK
  refine W.widen (k := 15) (n := 1408) (by decide +kernel) (by decide +kernel) ?_
  refine lv_iload_n hx hb dX11_listed_4 rfl (lv_at hl 1 rfl) ?_
  refine lv_iload_n hx hb dX11_listed_5 rfl (lv_at hl 2 rfl) ?_
  have hPc := hP.sub (ws' := [(a1, .inr (7, [.int 0, .int 0, .ref (aa1 0), .ref (aa1 1), .ref (aa1 2), .ref (aa1 3), .ref (aa1 4), .ref (aa1 5), .ref (aa1 6), .ref (aa1 7), .ref (aa1 8), .int (-1), .int 0, .ref (aa1 9), .ref (aa1 10), .ref (aa1 11), .ref (aa1 12), .ref (aa1 13), .int 0, .int 0]))]) [1] rfl
  have hDc := hD.sub (ws' := [(a1, .inr (7, [.int 0, .int 0, .ref (aa1 0), .ref (aa1 1), .ref (aa1 2), .ref (aa1 3), .ref (aa1 4), .ref (aa1 5), .ref (aa1 6), .ref (aa1 7), .ref (aa1 8), .int (-1), .int 0, .ref (aa1 9), .ref (aa1 10), .ref (aa1 11), .ref (aa1 12), .ref (aa1 13), .int 0, .int 0]))]) [1] (by decide) rfl
  have hKc := hK.sub (tys' := []) [] rfl
  have hFc := va_free (wc := [(a1, .inr (7, [.int 0, .int 0, .ref (aa1 0), .ref (aa1 1), .ref (aa1 2), .ref (aa1 3), .ref (aa1 4), .ref (aa1 5), .ref (aa1 6), .ref (aa1 7), .ref (aa1 8), .int (-1), .int 0, .ref (aa1 9), .ref (aa1 10), .ref (aa1 11), .ref (aa1 12), .ref (aa1 13), .int 0, .int 0]))]) hD hS hA [1] rfl
  refine va_calli (va_runV (As := [.int qk, .int qh]) (rest := []) ⟨hx, hb, hml, hown, hts⟩ (p_X7_listedValue l dC dI a1 aa1 qk qh H.size) (cwV 2 hts gwsPX11_listed_1 rfl rfl rfl (by decide +kernel) ⟨by decide +kernel, by decide +kernel⟩) ⟨fun a U g mk q => by obtain ⟨q0, q1, qP, qK, qD⟩ := q; exact ⟨q0, q1, qP, va_K.moved (u := U) (U := U.calling g mk a) (Vm.Alike.refl U.vm) qK, qD⟩, va_recv hKc hPc (ci := 7) (q0 := 0) rfl rfl, fun U hU9 hW => ⟨rfl, by rw [hU9], by rw [hU9]; exact hPc, va_K.moved hW.alike hKc, hDc.weaken (fun _ _ _ _ => trivial)⟩⟩ rfl rfl hl.1 rfl (lv_room (Nat.le_of_ble_eq_true rfl)) dX11_listed_6 ⟨by decide +kernel, by decide +kernel⟩) hS (fun q _ h => hFc q h) hFc (fun r6 u t H1 locs ht hvm hw hB hz1 hk1 hS => ?_)
  obtain ⟨hP1, hK1, hD1⟩ := hB
  rw [ht] at hP1
  have hK1 := va_K.moved hvm.symm hK1
  obtain ⟨hP, hD⟩ := va_join (wr := [(h0, .inr (11, [.ref (a 0), .ref (a 1), .ref (a 3), .ref (a 14), .int 0, .null, .null, .null, .ref a1, .null, .null])), ((aa1 0), .inl ((kk1 0), 16, .inl (fun _ => 0))), ((aa1 1), .inl ((kk1 1), 10, .inl (fun _ => 0))), ((aa1 2), .inl ((kk1 2), 12, .inl (fun _ => 0))), ((aa1 3), .inl ((kk1 3), 12, .inl (fun _ => 0))), ((aa1 4), .inl ((kk1 4), 12, .inl (fun _ => 0))), ((aa1 5), .inl ((kk1 5), 12, .inl (fun _ => 0))), ((aa1 6), .inl ((kk1 6), 192, .inl (fun _ => 0))), ((aa1 7), .inl ((kk1 7), 12, .inl (fun _ => 0))), ((aa1 8), .inl ((kk1 8), 10, .inl (fun _ => 0))), ((aa1 9), .inl ((kk1 9), 33, .inr (.inl (fun _ => 0)))), ((aa1 10), .inl ((kk1 10), 33, .inr (.inl (fun _ => 0)))), ((aa1 11), .inl ((kk1 11), 1024, .inl (fun _ => 0))), ((aa1 12), .inl ((kk1 12), 10, .inl (fun _ => 0))), ((aa1 13), .inl ((kk1 13), 0, .inr (.inl (fun _ => 0))))]) (w1 := []) hP hD [1] [0, 2, 3, 4, 5, 6, 7, 8, 9, 10, 11, 12, 13, 14, 15] rfl rfl (by decide) (by decide) hk1 hFc hP1 hD1
  generalize H1 = H at hP hS ⊢
  have hP : va_P (dC, dI) vwCl [(h0, .inr (11, [.ref (a 0), .ref (a 1), .ref (a 3), .ref (a 14), .int 0, .null, .null, .null, .ref a1, .null, .null])), ((aa1 0), .inl ((kk1 0), 16, .inl (fun _ => 0))), ((aa1 1), .inl ((kk1 1), 10, .inl (fun _ => 0))), ((aa1 2), .inl ((kk1 2), 12, .inl (fun _ => 0))), ((aa1 3), .inl ((kk1 3), 12, .inl (fun _ => 0))), ((aa1 4), .inl ((kk1 4), 12, .inl (fun _ => 0))), ((aa1 5), .inl ((kk1 5), 12, .inl (fun _ => 0))), ((aa1 6), .inl ((kk1 6), 192, .inl (fun _ => 0))), ((aa1 7), .inl ((kk1 7), 12, .inl (fun _ => 0))), ((aa1 8), .inl ((kk1 8), 10, .inl (fun _ => 0))), ((aa1 9), .inl ((kk1 9), 33, .inr (.inl (fun _ => 0)))), ((aa1 10), .inl ((kk1 10), 33, .inr (.inl (fun _ => 0)))), ((aa1 11), .inl ((kk1 11), 1024, .inl (fun _ => 0))), ((aa1 12), .inl ((kk1 12), 10, .inl (fun _ => 0))), ((aa1 13), .inl ((kk1 13), 0, .inr (.inl (fun _ => 0))))] H := hP
  have hD : va_D A [(h0, .inr (11, [.ref (a 0), .ref (a 1), .ref (a 3), .ref (a 14), .int 0, .null, .null, .null, .ref a1, .null, .null])), ((aa1 0), .inl ((kk1 0), 16, .inl (fun _ => 0))), ((aa1 1), .inl ((kk1 1), 10, .inl (fun _ => 0))), ((aa1 2), .inl ((kk1 2), 12, .inl (fun _ => 0))), ((aa1 3), .inl ((kk1 3), 12, .inl (fun _ => 0))), ((aa1 4), .inl ((kk1 4), 12, .inl (fun _ => 0))), ((aa1 5), .inl ((kk1 5), 12, .inl (fun _ => 0))), ((aa1 6), .inl ((kk1 6), 192, .inl (fun _ => 0))), ((aa1 7), .inl ((kk1 7), 12, .inl (fun _ => 0))), ((aa1 8), .inl ((kk1 8), 10, .inl (fun _ => 0))), ((aa1 9), .inl ((kk1 9), 33, .inr (.inl (fun _ => 0)))), ((aa1 10), .inl ((kk1 10), 33, .inr (.inl (fun _ => 0)))), ((aa1 11), .inl ((kk1 11), 1024, .inl (fun _ => 0))), ((aa1 12), .inl ((kk1 12), 10, .inl (fun _ => 0))), ((aa1 13), .inl ((kk1 13), 0, .inr (.inl (fun _ => 0))))] := hD
  obtain rfl := hw
  refine W.widen (k := 15) (n := 1408) (by decide +kernel) (by decide +kernel) ?_
  exact W.iret (v := (-1)) hx hb hr (fun t ht hW => ⟨⟨(-1), (), rfl, by (first | rfl | assumption | trivial | omega | (simp []; done) | (simp; omega)), by rw [ht]; exact hP.sub [] rfl, va_K.moved hW.alike (hK.sub [] rfl), hD.sub [] (by decide) rfl⟩, hS.F ht⟩) hS.2.2 dX11_listed_9
theorem dX7_forget_0 : decode cX7_forget 0 = .ok (.aload_n 0, 1) := by decide +kernel
theorem dX7_forget_1 : decode cX7_forget 1 = .ok (.iconst 0, 1) := by decide +kernel
theorem dX7_forget_2 : decode cX7_forget 2 = .ok (.putfield 59, 3) := by decide +kernel
theorem dX7_forget_5 : decode cX7_forget 5 = .ok (.aload_n 0, 1) := by decide +kernel
theorem dX7_forget_6 : decode cX7_forget 6 = .ok (.iconst 0, 1) := by decide +kernel
theorem dX7_forget_7 : decode cX7_forget 7 = .ok (.putfield 62, 3) := by decide +kernel
theorem dX7_forget_10 : decode cX7_forget 10 = .ok (.aload_n 0, 1) := by decide +kernel
theorem dX7_forget_11 : decode cX7_forget 11 = .ok (.invokevirtual 65, 3) := by decide +kernel
theorem dX7_forget_14 : decode cX7_forget 14 = .ok (.return_, 1) := by decide +kernel
def wsPX7_forget : List Cond := .code yX7_forget cX7_forget 1 none :: ([.fieldLink RX7 59 "OptimaWorks$ValueDesk" "holders" "I", .fieldLink RX7 62 "OptimaWorks$ValueDesk" "rules" "I"] ++ wsX70 ++ (wsV RX7 65 RX7 yX7_change wsPX7_change))
theorem iwsPX7_forget_in7 : ∀ w ∈ wsX70, w ∈ wsPX7_forget := fun _ h => List.mem_cons_of_mem _ (List.mem_append_left _ (List.mem_append_right _ h))
theorem gwsPX7_forget_0 : GoodIn wsPX7_forget (wsV RX7 65 RX7 yX7_change wsPX7_change) := goodIn_sub (fun _ h => List.mem_cons_of_mem _ (List.mem_append_right _ h)) (by decide +kernel)
set_option maxHeartbeats 4000000 in
set_option maxRecDepth 100000 in
/-- forget() -/
theorem p_X7_forget (l : Launch) (dC : Nat → ClassId) (dI : Nat → Nat → Nat) (d0 : Nat) (bb : Nat → Nat) (sz : Nat) : Met l yX7_forget wsPX7_forget ({ frames := 1, cells := 0, slots := 0, locals := 20 }) (va_Pc [.ref d0] (fun U => U.heap.size = sz ∧ va_P (dC, dI) vwCl [(d0, .inr (7, [.int 0, .int 0, .ref (bb 0), .ref (bb 1), .ref (bb 2), .ref (bb 3), .ref (bb 4), .ref (bb 5), .ref (bb 6), .ref (bb 7), .ref (bb 8), .int (-1), .int 0, .ref (bb 9), .ref (bb 10), .ref (bb 11), .ref (bb 12), .ref (bb 13), .int 0, .int 0]))] U.heap ∧ va_K (dC, dI) vwCl [] U ∧ va_D (fun _ => True) [(d0, .inr (7, [.int 0, .int 0, .ref (bb 0), .ref (bb 1), .ref (bb 2), .ref (bb 3), .ref (bb 4), .ref (bb 5), .ref (bb 6), .ref (bb 7), .ref (bb 8), .int (-1), .int 0, .ref (bb 9), .ref (bb 10), .ref (bb 11), .ref (bb 12), .ref (bb 13), .int 0, .int 0]))])) (va_Qv (fun (u : Unit) => True) (fun (u : Unit) t => va_P (dC, dI) vwCl [] t.heap ∧ va_K (dC, dI) vwCl [] t ∧ va_D (va_A [(d0, .inr (7, [.int 0, .int 0, .ref (bb 0), .ref (bb 1), .ref (bb 2), .ref (bb 3), .ref (bb 4), .ref (bb 5), .ref (bb 6), .ref (bb 7), .ref (bb 8), .int (-1), .int 0, .ref (bb 9), .ref (bb 10), .ref (bb 11), .ref (bb 12), .ref (bb 13), .int 0, .int 0]))] sz) []) (va_A [(d0, .inr (7, [.int 0, .int 0, .ref (bb 0), .ref (bb 1), .ref (bb 2), .ref (bb 3), .ref (bb 4), .ref (bb 5), .ref (bb 6), .ref (bb 7), .ref (bb 8), .int (-1), .int 0, .ref (bb 9), .ref (bb 10), .ref (bb 11), .ref (bb 12), .ref (bb 13), .int 0, .int 0]))] sz)) 0 0 (va_A [(d0, .inr (7, [.int 0, .int 0, .ref (bb 0), .ref (bb 1), .ref (bb 2), .ref (bb 3), .ref (bb 4), .ref (bb 5), .ref (bb 6), .ref (bb 7), .ref (bb 8), .int (-1), .int 0, .ref (bb 9), .ref (bb 10), .ref (bb 11), .ref (bb 12), .ref (bb 13), .int 0, .int 0]))] sz) := by
  refine Met.ofW (cc := cX7_forget) (maxL := 1) (ret := none) (by decide) rfl ?_
  intro p e s m args below meth c s₁ B hml hv
  obtain ⟨rfl, hsz, hP, hK, hD0⟩ := hv
  have hx := B.exec
  have hb := B.bytes
  have hr := B.returns
  have hts := atoms_spec (ws := wsPX7_forget) B.pre
  have hown : s.vm.findClass RX7 = some m.cls := findClass_of_methodNamed B.named
  have hlocks := B.notSynchronized
  subst hsz
  have hD := hD0.self (sz := s.heap.size)
  generalize hAe : va_A [(d0, .inr (7, [.int 0, .int 0, .ref (bb 0), .ref (bb 1), .ref (bb 2), .ref (bb 3), .ref (bb 4), .ref (bb 5), .ref (bb 6), .ref (bb 7), .ref (bb 8), .int (-1), .int 0, .ref (bb 9), .ref (bb 10), .ref (bb 11), .ref (bb 12), .ref (bb 13), .int 0, .int 0]))] s.heap.size = A at hD ⊢
  have hA : ∀ q : Nat, s.heap.size ≤ q → A q := fun q h => by rw [← hAe]; exact Or.inr h
  have hS : va_S A s.heap s.heap [] := va_S.rf
  have hP : va_P (dC, dI) vwCl [(d0, .inr (7, [.int 0, .int 0, .ref (bb 0), .ref (bb 1), .ref (bb 2), .ref (bb 3), .ref (bb 4), .ref (bb 5), .ref (bb 6), .ref (bb 7), .ref (bb 8), .int (-1), .int 0, .ref (bb 9), .ref (bb 10), .ref (bb 11), .ref (bb 12), .ref (bb 13), .int 0, .int 0]))] s.heap := hP
  have hl := lv_entry ([.ref d0]) (n := 1) (Nat.le_of_ble_eq_true rfl)
  rw [lg_entry_eq]
  generalize (lg_sl ([.ref d0]) ++ List.replicate (1 - (lg_sl ([.ref d0])).length) Slot.unset).toArray = ls at hl ⊢
  have hl : lv_has ls 1 [(0, .ref d0)] := hl
  refine lv_aload_n hx hb dX7_forget_0 rfl (lv_at hl 0 rfl) ?_
  refine lv_iconst (v := 0) hx hb dX7_forget_1 (by decide) ?_
  refine va_put (D := (dC, dI)) (ci := 7) (v := .int 0) (ty := .int) (C := RX7) (T := TX7) (N := 20) hx hb hts iwsPX7_forget_in7 tyX7 tyX7_ok nmX7 hown hK hP hD hS 0 rfl rfl 0 (by decide) (hts (.fieldLink RX7 59 "OptimaWorks$ValueDesk" "holders" "I") (by decide +kernel)) (fun _ h9 => h9) rfl (by decide +kernel) rfl rfl (Nat.le_of_ble_eq_true rfl) dX7_forget_2 (fun H locs hP hD hS => ?_)
  have hP : va_P (dC, dI) vwCl [(d0, .inr (7, [.int 0, .int 0, .ref (bb 0), .ref (bb 1), .ref (bb 2), .ref (bb 3), .ref (bb 4), .ref (bb 5), .ref (bb 6), .ref (bb 7), .ref (bb 8), .int (-1), .int 0, .ref (bb 9), .ref (bb 10), .ref (bb 11), .ref (bb 12), .ref (bb 13), .int 0, .int 0]))] H := hP
  have hD : va_D A [(d0, .inr (7, [.int 0, .int 0, .ref (bb 0), .ref (bb 1), .ref (bb 2), .ref (bb 3), .ref (bb 4), .ref (bb 5), .ref (bb 6), .ref (bb 7), .ref (bb 8), .int (-1), .int 0, .ref (bb 9), .ref (bb 10), .ref (bb 11), .ref (bb 12), .ref (bb 13), .int 0, .int 0]))] := hD
  refine lv_aload_n hx hb dX7_forget_5 rfl (lv_at hl 0 rfl) ?_
  refine lv_iconst (v := 0) hx hb dX7_forget_6 (by decide) ?_
  refine va_put (D := (dC, dI)) (ci := 7) (v := .int 0) (ty := .int) (C := RX7) (T := TX7) (N := 20) hx hb hts iwsPX7_forget_in7 tyX7 tyX7_ok nmX7 hown hK hP hD hS 0 rfl rfl 1 (by decide) (hts (.fieldLink RX7 62 "OptimaWorks$ValueDesk" "rules" "I") (by decide +kernel)) (fun _ h9 => h9) rfl (by decide +kernel) rfl rfl (Nat.le_of_ble_eq_true rfl) dX7_forget_7 (fun H locs hP hD hS => ?_)
  have hP : va_P (dC, dI) vwCl [(d0, .inr (7, [.int 0, .int 0, .ref (bb 0), .ref (bb 1), .ref (bb 2), .ref (bb 3), .ref (bb 4), .ref (bb 5), .ref (bb 6), .ref (bb 7), .ref (bb 8), .int (-1), .int 0, .ref (bb 9), .ref (bb 10), .ref (bb 11), .ref (bb 12), .ref (bb 13), .int 0, .int 0]))] H := hP
  have hD : va_D A [(d0, .inr (7, [.int 0, .int 0, .ref (bb 0), .ref (bb 1), .ref (bb 2), .ref (bb 3), .ref (bb 4), .ref (bb 5), .ref (bb 6), .ref (bb 7), .ref (bb 8), .int (-1), .int 0, .ref (bb 9), .ref (bb 10), .ref (bb 11), .ref (bb 12), .ref (bb 13), .int 0, .int 0]))] := hD
  refine lv_aload_n hx hb dX7_forget_10 rfl (lv_at hl 0 rfl) ?_
  have hPc := hP.sub (ws' := [(d0, .inr (7, [.int 0, .int 0, .ref (bb 0), .ref (bb 1), .ref (bb 2), .ref (bb 3), .ref (bb 4), .ref (bb 5), .ref (bb 6), .ref (bb 7), .ref (bb 8), .int (-1), .int 0, .ref (bb 9), .ref (bb 10), .ref (bb 11), .ref (bb 12), .ref (bb 13), .int 0, .int 0]))]) [0] rfl
  have hDc := hD.sub (ws' := [(d0, .inr (7, [.int 0, .int 0, .ref (bb 0), .ref (bb 1), .ref (bb 2), .ref (bb 3), .ref (bb 4), .ref (bb 5), .ref (bb 6), .ref (bb 7), .ref (bb 8), .int (-1), .int 0, .ref (bb 9), .ref (bb 10), .ref (bb 11), .ref (bb 12), .ref (bb 13), .int 0, .int 0]))]) [0] (by decide) rfl
  have hKc := hK.sub (tys' := []) [] rfl
  have hFc := va_free (wc := [(d0, .inr (7, [.int 0, .int 0, .ref (bb 0), .ref (bb 1), .ref (bb 2), .ref (bb 3), .ref (bb 4), .ref (bb 5), .ref (bb 6), .ref (bb 7), .ref (bb 8), .int (-1), .int 0, .ref (bb 9), .ref (bb 10), .ref (bb 11), .ref (bb 12), .ref (bb 13), .int 0, .int 0]))]) hD hS hA [0] rfl
  refine va_callv (va_runV (As := []) (rest := []) ⟨hx, hb, hml, hown, hts⟩ (p_X7_change l dC dI d0 (.int 0) (.int 0) (.ref (bb 0)) (.ref (bb 1)) (.ref (bb 2)) (.ref (bb 3)) (.ref (bb 4)) (.ref (bb 5)) (.ref (bb 6)) (.ref (bb 7)) (.ref (bb 8)) (.int 0) (.ref (bb 9)) (.ref (bb 10)) (.ref (bb 11)) (.ref (bb 12)) (.ref (bb 13)) (.int 0) (.int (-1)) (.int 0) H.size) (cwV 0 hts gwsPX7_forget_0 rfl rfl rfl (by decide +kernel) ⟨by decide +kernel, by decide +kernel⟩) ⟨fun a U g mk q => by obtain ⟨q0, q1, qP, qK, qD⟩ := q; exact ⟨q0, q1, qP, va_K.moved (u := U) (U := U.calling g mk a) (Vm.Alike.refl U.vm) qK, qD⟩, va_recv hKc hPc (ci := 7) (q0 := 0) rfl rfl, fun U hU9 hW => ⟨rfl, by rw [hU9], by rw [hU9]; exact hPc, va_K.moved hW.alike hKc, hDc.weaken (fun _ _ _ _ => trivial)⟩⟩ rfl rfl hl.1 rfl (lv_room (Nat.le_of_ble_eq_true rfl)) dX7_forget_11 ⟨by decide +kernel, by decide +kernel⟩) hS (fun q _ h => hFc q h) hFc (fun u t H1 locs ht hvm hw hB hz1 hk1 hS => ?_)
  obtain ⟨hP1, hK1, hD1⟩ := hB
  rw [ht] at hP1
  have hK1 := va_K.moved hvm.symm hK1
  obtain ⟨hP, hD⟩ := va_join (wr := []) (w1 := [(d0, .inr (7, [.int 0, .int 0, .ref (bb 0), .ref (bb 1), .ref (bb 2), .ref (bb 3), .ref (bb 4), .ref (bb 5), .ref (bb 6), .ref (bb 7), .ref (bb 8), .int (-1), .int 0, .ref (bb 9), .ref (bb 10), .ref (bb 11), .ref (bb 12), .ref (bb 13), .int 0, .int 0]))]) hP hD [0] [] rfl rfl (by decide) (by decide) hk1 hFc hP1 hD1
  generalize H1 = H at hP hS ⊢
  have hP : va_P (dC, dI) vwCl [(d0, .inr (7, [.int 0, .int 0, .ref (bb 0), .ref (bb 1), .ref (bb 2), .ref (bb 3), .ref (bb 4), .ref (bb 5), .ref (bb 6), .ref (bb 7), .ref (bb 8), .int (-1), .int 0, .ref (bb 9), .ref (bb 10), .ref (bb 11), .ref (bb 12), .ref (bb 13), .int 0, .int 0]))] H := hP
  have hD : va_D A [(d0, .inr (7, [.int 0, .int 0, .ref (bb 0), .ref (bb 1), .ref (bb 2), .ref (bb 3), .ref (bb 4), .ref (bb 5), .ref (bb 6), .ref (bb 7), .ref (bb 8), .int (-1), .int 0, .ref (bb 9), .ref (bb 10), .ref (bb 11), .ref (bb 12), .ref (bb 13), .int 0, .int 0]))] := hD
  refine W.widen (k := 0) (n := 0) (by decide +kernel) (by decide +kernel) ?_
  exact W.vret hx hb hr (fun t ht hW => ⟨⟨(), rfl, trivial, by rw [ht]; exact hP.sub [] rfl, va_K.moved hW.alike (hK.sub [] rfl), hD.sub [] (by decide) rfl⟩, hS.F ht⟩) hS.2.2 dX7_forget_14
theorem dX11_clear_0 : decode cX11_clear 0 = .ok (.aload_n 0, 1) := by decide +kernel
theorem dX11_clear_1 : decode cX11_clear 1 = .ok (.invokevirtual 345, 3) := by decide +kernel
theorem dX11_clear_4 : decode cX11_clear 4 = .ok (.invokevirtual 385, 3) := by decide +kernel
theorem dX11_clear_7 : decode cX11_clear 7 = .ok (.return_, 1) := by decide +kernel
def wsPX11_clear : List Cond := .code yX11_clear cX11_clear 1 none :: ([] ++ (wsV RX11 345 RX11 yX11_theValues wsPX11_theValues) ++ (wsV RX11 385 RX7 yX7_forget wsPX7_forget))
theorem gwsPX11_clear_0 : GoodIn wsPX11_clear (wsV RX11 345 RX11 yX11_theValues wsPX11_theValues) := goodIn_sub (fun _ h => List.mem_cons_of_mem _ (List.mem_append_left _ (List.mem_append_right _ h))) (by decide +kernel)
theorem gwsPX11_clear_1 : GoodIn wsPX11_clear (wsV RX11 385 RX7 yX7_forget wsPX7_forget) := goodIn_sub (fun _ h => List.mem_cons_of_mem _ (List.mem_append_right _ h)) (by decide +kernel)
set_option maxHeartbeats 4000000 in
set_option maxRecDepth 100000 in
/-- clear() -/
theorem p_X11_clear (l : Launch) (dC : Nat → ClassId) (dI : Nat → Nat → Nat) (h0 : Nat) (a : Nat → Nat) (sz : Nat) : Met l yX11_clear wsPX11_clear ({ frames := 3, cells := 15, slots := 1408, locals := 52 }) (va_Pc [.ref h0] (fun U => U.heap.size = sz ∧ va_P (dC, dI) vwCl [(h0, .inr (11, [.ref (a 0), .ref (a 1), .ref (a 3), .ref (a 14), .int 0, .null, .null, .null, .null, .null, .null]))] U.heap ∧ va_K (dC, dI) vwCl [] U ∧ va_D (fun _ => True) [(h0, .inr (11, [.ref (a 0), .ref (a 1), .ref (a 3), .ref (a 14), .int 0, .null, .null, .null, .null, .null, .null]))] ∧ va_Nw (.methodLinkNest RX11 343 yX7_init RX11) U)) (va_Qv (fun (u : Unit) => True) (fun (u : Unit) t => va_P (dC, dI) vwCl [] t.heap ∧ va_K (dC, dI) vwCl [] t ∧ va_D (va_A [(h0, .inr (11, [.ref (a 0), .ref (a 1), .ref (a 3), .ref (a 14), .int 0, .null, .null, .null, .null, .null, .null]))] sz) []) (va_A [(h0, .inr (11, [.ref (a 0), .ref (a 1), .ref (a 3), .ref (a 14), .int 0, .null, .null, .null, .null, .null, .null]))] sz)) 15 1408 (va_A [(h0, .inr (11, [.ref (a 0), .ref (a 1), .ref (a 3), .ref (a 14), .int 0, .null, .null, .null, .null, .null, .null]))] sz) := by
  refine Met.ofW (cc := cX11_clear) (maxL := 1) (ret := none) (by decide) rfl ?_
  intro p e s m args below meth c s₁ B hml hv
  obtain ⟨rfl, hsz, hP, hK, hD0, hnX11_343⟩ := hv
  have hx := B.exec
  have hb := B.bytes
  have hr := B.returns
  have hts := atoms_spec (ws := wsPX11_clear) B.pre
  have hown : s.vm.findClass RX11 = some m.cls := findClass_of_methodNamed B.named
  have hlocks := B.notSynchronized
  subst hsz
  have hD := hD0.self (sz := s.heap.size)
  generalize hAe : va_A [(h0, .inr (11, [.ref (a 0), .ref (a 1), .ref (a 3), .ref (a 14), .int 0, .null, .null, .null, .null, .null, .null]))] s.heap.size = A at hD ⊢
  have hA : ∀ q : Nat, s.heap.size ≤ q → A q := fun q h => by rw [← hAe]; exact Or.inr h
  have hS : va_S A s.heap s.heap [] := va_S.rf
  have hP : va_P (dC, dI) vwCl [(h0, .inr (11, [.ref (a 0), .ref (a 1), .ref (a 3), .ref (a 14), .int 0, .null, .null, .null, .null, .null, .null]))] s.heap := hP
  have hl := lv_entry ([.ref h0]) (n := 1) (Nat.le_of_ble_eq_true rfl)
  rw [lg_entry_eq]
  generalize (lg_sl ([.ref h0]) ++ List.replicate (1 - (lg_sl ([.ref h0])).length) Slot.unset).toArray = ls at hl ⊢
  have hl : lv_has ls 1 [(0, .ref h0)] := hl
  refine lv_aload_n hx hb dX11_clear_0 rfl (lv_at hl 0 rfl) ?_
  have hPc := hP.sub (ws' := [(h0, .inr (11, [.ref (a 0), .ref (a 1), .ref (a 3), .ref (a 14), .int 0, .null, .null, .null, .null, .null, .null]))]) [0] rfl
  have hDc := hD.sub (ws' := [(h0, .inr (11, [.ref (a 0), .ref (a 1), .ref (a 3), .ref (a 14), .int 0, .null, .null, .null, .null, .null, .null]))]) [0] (by decide) rfl
  have hKc := hK.sub (tys' := []) [] rfl
  have hFc := va_free (wc := [(h0, .inr (11, [.ref (a 0), .ref (a 1), .ref (a 3), .ref (a 14), .int 0, .null, .null, .null, .null, .null, .null]))]) hD hS hA [0] rfl
  refine va_callr (va_runV (As := []) (rest := []) ⟨hx, hb, hml, hown, hts⟩ (p_X11_theValues l dC dI h0 a s.heap.size) (cwV 0 hts gwsPX11_clear_0 rfl rfl rfl (by decide +kernel) ⟨by decide +kernel, by decide +kernel⟩) ⟨fun a U g mk q => by obtain ⟨q0, q1, qP, qK, qD, qhnX11_343⟩ := q; exact ⟨q0, q1, qP, va_K.moved (u := U) (U := U.calling g mk a) (Vm.Alike.refl U.vm) qK, qD, va_Nw.same (u := U) (U := U.calling g mk a) rfl rfl qhnX11_343⟩, va_recv hKc hPc (ci := 11) (q0 := 0) rfl rfl, fun U hU9 hW => ⟨rfl, by rw [hU9], by rw [hU9]; exact hPc, va_K.moved hW.alike hKc, hDc.weaken (fun _ _ _ _ => trivial), va_Nw.warmM hW hnX11_343⟩⟩ rfl rfl hl.1 rfl (lv_room (Nat.le_of_ble_eq_true rfl)) dX11_clear_1 ⟨by decide +kernel, by decide +kernel⟩) hS (fun q _ h => hFc q h) hFc (fun u a1 t H1 locs ht hvm hw hB hz1 hk1 hS => ?_)
  obtain ⟨aa1, kk1⟩ := u
  obtain ⟨hP1, hK1, hD1⟩ := hB
  rw [ht] at hP1
  have hK1 := va_K.moved hvm.symm hK1
  obtain ⟨hP, hD⟩ := va_join (wr := []) (w1 := [(h0, .inr (11, [.ref (a 0), .ref (a 1), .ref (a 3), .ref (a 14), .int 0, .null, .null, .null, .ref a1, .null, .null])), (a1, .inr (7, [.int 0, .int 0, .ref (aa1 0), .ref (aa1 1), .ref (aa1 2), .ref (aa1 3), .ref (aa1 4), .ref (aa1 5), .ref (aa1 6), .ref (aa1 7), .ref (aa1 8), .int (-1), .int 0, .ref (aa1 9), .ref (aa1 10), .ref (aa1 11), .ref (aa1 12), .ref (aa1 13), .int 0, .int 0])), ((aa1 0), .inl ((kk1 0), 16, .inl (fun _ => 0))), ((aa1 1), .inl ((kk1 1), 10, .inl (fun _ => 0))), ((aa1 2), .inl ((kk1 2), 12, .inl (fun _ => 0))), ((aa1 3), .inl ((kk1 3), 12, .inl (fun _ => 0))), ((aa1 4), .inl ((kk1 4), 12, .inl (fun _ => 0))), ((aa1 5), .inl ((kk1 5), 12, .inl (fun _ => 0))), ((aa1 6), .inl ((kk1 6), 192, .inl (fun _ => 0))), ((aa1 7), .inl ((kk1 7), 12, .inl (fun _ => 0))), ((aa1 8), .inl ((kk1 8), 10, .inl (fun _ => 0))), ((aa1 9), .inl ((kk1 9), 33, .inr (.inl (fun _ => 0)))), ((aa1 10), .inl ((kk1 10), 33, .inr (.inl (fun _ => 0)))), ((aa1 11), .inl ((kk1 11), 1024, .inl (fun _ => 0))), ((aa1 12), .inl ((kk1 12), 10, .inl (fun _ => 0))), ((aa1 13), .inl ((kk1 13), 0, .inr (.inl (fun _ => 0))))]) hP hD [0] [] rfl rfl (by decide) (by decide) hk1 hFc hP1 hD1
  have hK := hK.app hK1
  generalize H1 = H at hP hS ⊢
  have hP : va_P (dC, dI) vwCl [(h0, .inr (11, [.ref (a 0), .ref (a 1), .ref (a 3), .ref (a 14), .int 0, .null, .null, .null, .ref a1, .null, .null])), (a1, .inr (7, [.int 0, .int 0, .ref (aa1 0), .ref (aa1 1), .ref (aa1 2), .ref (aa1 3), .ref (aa1 4), .ref (aa1 5), .ref (aa1 6), .ref (aa1 7), .ref (aa1 8), .int (-1), .int 0, .ref (aa1 9), .ref (aa1 10), .ref (aa1 11), .ref (aa1 12), .ref (aa1 13), .int 0, .int 0])), ((aa1 0), .inl ((kk1 0), 16, .inl (fun _ => 0))), ((aa1 1), .inl ((kk1 1), 10, .inl (fun _ => 0))), ((aa1 2), .inl ((kk1 2), 12, .inl (fun _ => 0))), ((aa1 3), .inl ((kk1 3), 12, .inl (fun _ => 0))), ((aa1 4), .inl ((kk1 4), 12, .inl (fun _ => 0))), ((aa1 5), .inl ((kk1 5), 12, .inl (fun _ => 0))), ((aa1 6), .inl ((kk1 6), 192, .inl (fun _ => 0))), ((aa1 7), .inl ((kk1 7), 12, .inl (fun _ => 0))), ((aa1 8), .inl ((kk1 8), 10, .inl (fun _ => 0))), ((aa1 9), .inl ((kk1 9), 33, .inr (.inl (fun _ => 0)))), ((aa1 10), .inl ((kk1 10), 33, .inr (.inl (fun _ => 0)))), ((aa1 11), .inl ((kk1 11), 1024, .inl (fun _ => 0))), ((aa1 12), .inl ((kk1 12), 10, .inl (fun _ => 0))), ((aa1 13), .inl ((kk1 13), 0, .inr (.inl (fun _ => 0))))] H := hP
  have hD : va_D A [(h0, .inr (11, [.ref (a 0), .ref (a 1), .ref (a 3), .ref (a 14), .int 0, .null, .null, .null, .ref a1, .null, .null])), (a1, .inr (7, [.int 0, .int 0, .ref (aa1 0), .ref (aa1 1), .ref (aa1 2), .ref (aa1 3), .ref (aa1 4), .ref (aa1 5), .ref (aa1 6), .ref (aa1 7), .ref (aa1 8), .int (-1), .int 0, .ref (aa1 9), .ref (aa1 10), .ref (aa1 11), .ref (aa1 12), .ref (aa1 13), .int 0, .int 0])), ((aa1 0), .inl ((kk1 0), 16, .inl (fun _ => 0))), ((aa1 1), .inl ((kk1 1), 10, .inl (fun _ => 0))), ((aa1 2), .inl ((kk1 2), 12, .inl (fun _ => 0))), ((aa1 3), .inl ((kk1 3), 12, .inl (fun _ => 0))), ((aa1 4), .inl ((kk1 4), 12, .inl (fun _ => 0))), ((aa1 5), .inl ((kk1 5), 12, .inl (fun _ => 0))), ((aa1 6), .inl ((kk1 6), 192, .inl (fun _ => 0))), ((aa1 7), .inl ((kk1 7), 12, .inl (fun _ => 0))), ((aa1 8), .inl ((kk1 8), 10, .inl (fun _ => 0))), ((aa1 9), .inl ((kk1 9), 33, .inr (.inl (fun _ => 0)))), ((aa1 10), .inl ((kk1 10), 33, .inr (.inl (fun _ => 0)))), ((aa1 11), .inl ((kk1 11), 1024, .inl (fun _ => 0))), ((aa1 12), .inl ((kk1 12), 10, .inl (fun _ => 0))), ((aa1 13), .inl ((kk1 13), 0, .inr (.inl (fun _ => 0))))] := hD
  have hK : va_K (dC, dI) vwCl [((kk1 0), .int), ((kk1 1), .int), ((kk1 2), .int), ((kk1 3), .int), ((kk1 4), .int), ((kk1 5), .int), ((kk1 6), .int), ((kk1 7), .int), ((kk1 8), .int), ((kk1 9), .long), ((kk1 10), .long), ((kk1 11), .int), ((kk1 12), .int), ((kk1 13), .long)] s := hK
  refine W.widen (k := 15) (n := 1408) (by decide +kernel) (by decide +kernel) ?_
  have hPc := hP.sub (ws' := [(a1, .inr (7, [.int 0, .int 0, .ref (aa1 0), .ref (aa1 1), .ref (aa1 2), .ref (aa1 3), .ref (aa1 4), .ref (aa1 5), .ref (aa1 6), .ref (aa1 7), .ref (aa1 8), .int (-1), .int 0, .ref (aa1 9), .ref (aa1 10), .ref (aa1 11), .ref (aa1 12), .ref (aa1 13), .int 0, .int 0]))]) [1] rfl
  have hDc := hD.sub (ws' := [(a1, .inr (7, [.int 0, .int 0, .ref (aa1 0), .ref (aa1 1), .ref (aa1 2), .ref (aa1 3), .ref (aa1 4), .ref (aa1 5), .ref (aa1 6), .ref (aa1 7), .ref (aa1 8), .int (-1), .int 0, .ref (aa1 9), .ref (aa1 10), .ref (aa1 11), .ref (aa1 12), .ref (aa1 13), .int 0, .int 0]))]) [1] (by decide) rfl
  have hKc := hK.sub (tys' := []) [] rfl
  have hFc := va_free (wc := [(a1, .inr (7, [.int 0, .int 0, .ref (aa1 0), .ref (aa1 1), .ref (aa1 2), .ref (aa1 3), .ref (aa1 4), .ref (aa1 5), .ref (aa1 6), .ref (aa1 7), .ref (aa1 8), .int (-1), .int 0, .ref (aa1 9), .ref (aa1 10), .ref (aa1 11), .ref (aa1 12), .ref (aa1 13), .int 0, .int 0]))]) hD hS hA [1] rfl
  refine va_callv (va_runV (As := []) (rest := []) ⟨hx, hb, hml, hown, hts⟩ (p_X7_forget l dC dI a1 aa1 H.size) (cwV 0 hts gwsPX11_clear_1 rfl rfl rfl (by decide +kernel) ⟨by decide +kernel, by decide +kernel⟩) ⟨fun a U g mk q => by obtain ⟨q0, q1, qP, qK, qD⟩ := q; exact ⟨q0, q1, qP, va_K.moved (u := U) (U := U.calling g mk a) (Vm.Alike.refl U.vm) qK, qD⟩, va_recv hKc hPc (ci := 7) (q0 := 0) rfl rfl, fun U hU9 hW => ⟨rfl, by rw [hU9], by rw [hU9]; exact hPc, va_K.moved hW.alike hKc, hDc.weaken (fun _ _ _ _ => trivial)⟩⟩ rfl rfl hl.1 rfl (lv_room (Nat.le_of_ble_eq_true rfl)) dX11_clear_4 ⟨by decide +kernel, by decide +kernel⟩) hS (fun q _ h => hFc q h) hFc (fun u t H1 locs ht hvm hw hB hz1 hk1 hS => ?_)
  obtain ⟨hP1, hK1, hD1⟩ := hB
  rw [ht] at hP1
  have hK1 := va_K.moved hvm.symm hK1
  obtain ⟨hP, hD⟩ := va_join (wr := [(h0, .inr (11, [.ref (a 0), .ref (a 1), .ref (a 3), .ref (a 14), .int 0, .null, .null, .null, .ref a1, .null, .null])), ((aa1 0), .inl ((kk1 0), 16, .inl (fun _ => 0))), ((aa1 1), .inl ((kk1 1), 10, .inl (fun _ => 0))), ((aa1 2), .inl ((kk1 2), 12, .inl (fun _ => 0))), ((aa1 3), .inl ((kk1 3), 12, .inl (fun _ => 0))), ((aa1 4), .inl ((kk1 4), 12, .inl (fun _ => 0))), ((aa1 5), .inl ((kk1 5), 12, .inl (fun _ => 0))), ((aa1 6), .inl ((kk1 6), 192, .inl (fun _ => 0))), ((aa1 7), .inl ((kk1 7), 12, .inl (fun _ => 0))), ((aa1 8), .inl ((kk1 8), 10, .inl (fun _ => 0))), ((aa1 9), .inl ((kk1 9), 33, .inr (.inl (fun _ => 0)))), ((aa1 10), .inl ((kk1 10), 33, .inr (.inl (fun _ => 0)))), ((aa1 11), .inl ((kk1 11), 1024, .inl (fun _ => 0))), ((aa1 12), .inl ((kk1 12), 10, .inl (fun _ => 0))), ((aa1 13), .inl ((kk1 13), 0, .inr (.inl (fun _ => 0))))]) (w1 := []) hP hD [1] [0, 2, 3, 4, 5, 6, 7, 8, 9, 10, 11, 12, 13, 14, 15] rfl rfl (by decide) (by decide) hk1 hFc hP1 hD1
  generalize H1 = H at hP hS ⊢
  have hP : va_P (dC, dI) vwCl [(h0, .inr (11, [.ref (a 0), .ref (a 1), .ref (a 3), .ref (a 14), .int 0, .null, .null, .null, .ref a1, .null, .null])), ((aa1 0), .inl ((kk1 0), 16, .inl (fun _ => 0))), ((aa1 1), .inl ((kk1 1), 10, .inl (fun _ => 0))), ((aa1 2), .inl ((kk1 2), 12, .inl (fun _ => 0))), ((aa1 3), .inl ((kk1 3), 12, .inl (fun _ => 0))), ((aa1 4), .inl ((kk1 4), 12, .inl (fun _ => 0))), ((aa1 5), .inl ((kk1 5), 12, .inl (fun _ => 0))), ((aa1 6), .inl ((kk1 6), 192, .inl (fun _ => 0))), ((aa1 7), .inl ((kk1 7), 12, .inl (fun _ => 0))), ((aa1 8), .inl ((kk1 8), 10, .inl (fun _ => 0))), ((aa1 9), .inl ((kk1 9), 33, .inr (.inl (fun _ => 0)))), ((aa1 10), .inl ((kk1 10), 33, .inr (.inl (fun _ => 0)))), ((aa1 11), .inl ((kk1 11), 1024, .inl (fun _ => 0))), ((aa1 12), .inl ((kk1 12), 10, .inl (fun _ => 0))), ((aa1 13), .inl ((kk1 13), 0, .inr (.inl (fun _ => 0))))] H := hP
  have hD : va_D A [(h0, .inr (11, [.ref (a 0), .ref (a 1), .ref (a 3), .ref (a 14), .int 0, .null, .null, .null, .ref a1, .null, .null])), ((aa1 0), .inl ((kk1 0), 16, .inl (fun _ => 0))), ((aa1 1), .inl ((kk1 1), 10, .inl (fun _ => 0))), ((aa1 2), .inl ((kk1 2), 12, .inl (fun _ => 0))), ((aa1 3), .inl ((kk1 3), 12, .inl (fun _ => 0))), ((aa1 4), .inl ((kk1 4), 12, .inl (fun _ => 0))), ((aa1 5), .inl ((kk1 5), 12, .inl (fun _ => 0))), ((aa1 6), .inl ((kk1 6), 192, .inl (fun _ => 0))), ((aa1 7), .inl ((kk1 7), 12, .inl (fun _ => 0))), ((aa1 8), .inl ((kk1 8), 10, .inl (fun _ => 0))), ((aa1 9), .inl ((kk1 9), 33, .inr (.inl (fun _ => 0)))), ((aa1 10), .inl ((kk1 10), 33, .inr (.inl (fun _ => 0)))), ((aa1 11), .inl ((kk1 11), 1024, .inl (fun _ => 0))), ((aa1 12), .inl ((kk1 12), 10, .inl (fun _ => 0))), ((aa1 13), .inl ((kk1 13), 0, .inr (.inl (fun _ => 0))))] := hD
  refine W.widen (k := 15) (n := 1408) (by decide +kernel) (by decide +kernel) ?_
  exact W.vret hx hb hr (fun t ht hW => ⟨⟨(), rfl, trivial, by rw [ht]; exact hP.sub [] rfl, va_K.moved hW.alike (hK.sub [] rfl), hD.sub [] (by decide) rfl⟩, hS.F ht⟩) hS.2.2 dX11_clear_7

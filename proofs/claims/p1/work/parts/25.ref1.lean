theorem dX12_end_0 : decode cX12_end 0 = .ok (.aload_n 0, 1) := by decide +kernel
theorem dX12_end_1 : decode cX12_end 1 = .ok (.iconst 0, 1) := by decide +kernel
theorem dX12_end_2 : decode cX12_end 2 = .ok (.putfield 348, 3) := by decide +kernel
theorem dX12_end_5 : decode cX12_end 5 = .ok (.iload_n 1, 1) := by decide +kernel
theorem dX12_end_6 : decode cX12_end 6 = .ok (.ifCond .lt 21, 3) := by decide +kernel
theorem dX12_end_9 : decode cX12_end 9 = .ok (.iload_n 1, 1) := by decide +kernel
theorem dX12_end_10 : decode cX12_end 10 = .ok (.bipush 20, 2) := by decide +kernel
theorem dX12_end_12 : decode cX12_end 12 = .ok (.if_icmp .gt 15, 3) := by decide +kernel
theorem dX12_end_15 : decode cX12_end 15 = .ok (.aload_n 0, 1) := by decide +kernel
theorem dX12_end_16 : decode cX12_end 16 = .ok (.getfield 468, 3) := by decide +kernel
theorem dX12_end_19 : decode cX12_end 19 = .ok (.iload_n 1, 1) := by decide +kernel
theorem dX12_end_20 : decode cX12_end 20 = .ok (.iadd, 1) := by decide +kernel
theorem dX12_end_21 : decode cX12_end 21 = .ok (.sipush 4000, 3) := by decide +kernel
theorem dX12_end_24 : decode cX12_end 24 = .ok (.if_icmp .le 5, 3) := by decide +kernel
theorem dX12_end_27 : decode cX12_end 27 = .ok (.iconst (-1), 1) := by decide +kernel
theorem dX12_end_28 : decode cX12_end 28 = .ok (.ireturn, 1) := by decide +kernel
theorem dX12_end_29 : decode cX12_end 29 = .ok (.iconst 0, 1) := by decide +kernel
theorem dX12_end_30 : decode cX12_end 30 = .ok (.istore_n 2, 1) := by decide +kernel
theorem dX12_end_31 : decode cX12_end 31 = .ok (.iload_n 2, 1) := by decide +kernel
theorem dX12_end_32 : decode cX12_end 32 = .ok (.iload_n 1, 1) := by decide +kernel
theorem dX12_end_33 : decode cX12_end 33 = .ok (.if_icmp .ge 27, 3) := by decide +kernel
theorem dX12_end_36 : decode cX12_end 36 = .ok (.aload_n 0, 1) := by decide +kernel
theorem dX12_end_37 : decode cX12_end 37 = .ok (.getfield 39, 3) := by decide +kernel
theorem dX12_end_40 : decode cX12_end 40 = .ok (.aload_n 0, 1) := by decide +kernel
theorem dX12_end_41 : decode cX12_end 41 = .ok (.getfield 468, 3) := by decide +kernel
theorem dX12_end_44 : decode cX12_end 44 = .ok (.iload_n 2, 1) := by decide +kernel
theorem dX12_end_45 : decode cX12_end 45 = .ok (.iadd, 1) := by decide +kernel
theorem dX12_end_46 : decode cX12_end 46 = .ok (.aload_n 0, 1) := by decide +kernel
theorem dX12_end_47 : decode cX12_end 47 = .ok (.getfield 254, 3) := by decide +kernel
theorem dX12_end_50 : decode cX12_end 50 = .ok (.iload_n 2, 1) := by decide +kernel
theorem dX12_end_51 : decode cX12_end 51 = .ok (.iaload, 1) := by decide +kernel
theorem dX12_end_52 : decode cX12_end 52 = .ok (.i2b, 1) := by decide +kernel
theorem dX12_end_53 : decode cX12_end 53 = .ok (.bastore, 1) := by decide +kernel
theorem dX12_end_54 : decode cX12_end 54 = .ok (.iinc 2 1, 3) := by decide +kernel
theorem dX12_end_57 : decode cX12_end 57 = .ok (.goto (-26), 3) := by decide +kernel
theorem dX12_end_60 : decode cX12_end 60 = .ok (.iconst 0, 1) := by decide +kernel
theorem dX12_end_61 : decode cX12_end 61 = .ok (.istore_n 2, 1) := by decide +kernel
theorem dX12_end_62 : decode cX12_end 62 = .ok (.iload_n 2, 1) := by decide +kernel
theorem dX12_end_63 : decode cX12_end 63 = .ok (.bipush 20, 2) := by decide +kernel
theorem dX12_end_65 : decode cX12_end 65 = .ok (.if_icmp .ge 16, 3) := by decide +kernel
theorem dX12_end_68 : decode cX12_end 68 = .ok (.aload_n 0, 1) := by decide +kernel
theorem dX12_end_69 : decode cX12_end 69 = .ok (.getfield 254, 3) := by decide +kernel
theorem dX12_end_72 : decode cX12_end 72 = .ok (.iload_n 2, 1) := by decide +kernel
theorem dX12_end_73 : decode cX12_end 73 = .ok (.iconst 0, 1) := by decide +kernel
theorem dX12_end_74 : decode cX12_end 74 = .ok (.iastore, 1) := by decide +kernel
theorem dX12_end_75 : decode cX12_end 75 = .ok (.iinc 2 1, 3) := by decide +kernel
theorem dX12_end_78 : decode cX12_end 78 = .ok (.goto (-16), 3) := by decide +kernel
theorem dX12_end_81 : decode cX12_end 81 = .ok (.aload_n 0, 1) := by decide +kernel
theorem dX12_end_82 : decode cX12_end 82 = .ok (.dup, 1) := by decide +kernel
theorem dX12_end_83 : decode cX12_end 83 = .ok (.getfield 468, 3) := by decide +kernel
theorem dX12_end_86 : decode cX12_end 86 = .ok (.iload_n 1, 1) := by decide +kernel
theorem dX12_end_87 : decode cX12_end 87 = .ok (.iadd, 1) := by decide +kernel
theorem dX12_end_88 : decode cX12_end 88 = .ok (.putfield 468, 3) := by decide +kernel
theorem dX12_end_91 : decode cX12_end 91 = .ok (.aload_n 0, 1) := by decide +kernel
theorem dX12_end_92 : decode cX12_end 92 = .ok (.getfield 468, 3) := by decide +kernel
theorem dX12_end_95 : decode cX12_end 95 = .ok (.ireturn, 1) := by decide +kernel
def wsPX12_end : List Cond := .code yX12_end cX12_end 3 (some .int) :: ([.fieldLink RX12 348 "OptimaWorksModel" "thrown" "I", .fieldLink RX12 468 "OptimaWorksModel" "taped" "I", .fieldLink RX12 254 "OptimaWorksModel" "ready" "[I", .fieldLink RX12 39 "OptimaWorksModel" "tape" "[B"] ++ wsX120)
theorem iwsPX12_end_in12 : ∀ w ∈ wsX120, w ∈ wsPX12_end := fun _ h => List.mem_cons_of_mem _ (List.mem_append_right _ h)
set_option maxHeartbeats 4000000 in
set_option maxRecDepth 100000 in
/-- end(n) -/
theorem p_X12_end (l : Launch) (dC : Nat → ClassId) (dI : Nat → Nat → Nat) (h0 : Nat) (v : Nat → Value) (h_taped : v 16 = .int 0) (b_tape : Nat) (h_tape : v 15 = .ref b_tape) (k_tape : ClassId) (r_tape : Nat → Int32) (b_ready : Nat) (h_ready : v 127 = .ref b_ready) (k_ready : ClassId) (r_ready : Nat → Int32) (nn : Int32) (sz : Nat) : Met l yX12_end wsPX12_end ({ frames := 0, cells := 0, slots := 0, locals := 0 }) (va_Pc [.ref h0, .int nn] (fun U => U.heap.size = sz ∧ va_P (dC, dI) vwCl [(h0, .inr (12, fM v)), (b_tape, .inl (k_tape, 4000, .inl r_tape)), (b_ready, .inl (k_ready, 20, .inl r_ready))] U.heap ∧ va_K (dC, dI) vwCl [(k_tape, .byte), (k_ready, .int)] U ∧ va_D (fun _ => True) [(h0, .inr (12, fM v)), (b_tape, .inl (k_tape, 4000, .inl r_tape)), (b_ready, .inl (k_ready, 20, .inl r_ready))])) (va_Qi (fun (r : Int32) (u : Nat → Value) => (r = (-1) ∧ ((nn).toInt < 0 ∨ 20 < (nn).toInt) ∧ (u 0 = .int 0)) ∨ (((r).toInt = (nn).toInt) ∧ (0 ≤ (nn).toInt ∧ (nn).toInt ≤ 20) ∧ (u 0 = .int 0))) (fun (u : Nat → Value) t => va_P (dC, dI) vwCl [(h0, .inr (12, fM u))] t.heap ∧ va_K (dC, dI) vwCl [] t ∧ va_D (va_A [(h0, .inr (12, fM v)), (b_tape, .inl (k_tape, 4000, .inl r_tape)), (b_ready, .inl (k_ready, 20, .inl r_ready))] sz) [(h0, .inr (12, fM u))]) (va_A [(h0, .inr (12, fM v)), (b_tape, .inl (k_tape, 4000, .inl r_tape)), (b_ready, .inl (k_ready, 20, .inl r_ready))] sz)) 0 0 (va_A [(h0, .inr (12, fM v)), (b_tape, .inl (k_tape, 4000, .inl r_tape)), (b_ready, .inl (k_ready, 20, .inl r_ready))] sz) := by
  refine Met.ofW (cc := cX12_end) (maxL := 3) (ret := (some .int)) (by decide) rfl ?_
  intro p e s m args below meth c s₁ B hml hv
  obtain ⟨rfl, hsz, hP, hK, hD0⟩ := hv
  have hx := B.exec
  have hb := B.bytes
  have hr := B.returns
  have hts := atoms_spec (ws := wsPX12_end) B.pre
  have hown : s.vm.findClass RX12 = some m.cls := findClass_of_methodNamed B.named
  have hlocks := B.notSynchronized
  subst hsz
  have hD := hD0.self (sz := s.heap.size)
  generalize hAe : va_A [(h0, .inr (12, fM v)), (b_tape, .inl (k_tape, 4000, .inl r_tape)), (b_ready, .inl (k_ready, 20, .inl r_ready))] s.heap.size = A at hD ⊢
  have hA : ∀ q : Nat, s.heap.size ≤ q → A q := fun q h => by rw [← hAe]; exact Or.inr h
  have hS : va_S A s.heap s.heap [] := va_S.rf
  have hP : va_P (dC, dI) vwCl [(h0, .inr (12, fM v)), (b_tape, .inl (k_tape, 4000, .inl r_tape)), (b_ready, .inl (k_ready, 20, .inl r_ready))] s.heap := hP
  have hl := lv_entry ([.ref h0, .int nn]) (n := 3) (Nat.le_of_ble_eq_true rfl)
  rw [lg_entry_eq]
  generalize (lg_sl ([.ref h0, .int nn]) ++ List.replicate (3 - (lg_sl ([.ref h0, .int nn])).length) Slot.unset).toArray = ls at hl ⊢
  have hl : lv_has ls 3 [(0, .ref h0), (1, .int nn)] := hl
  refine lv_aload_n hx hb dX12_end_0 rfl (lv_at hl 0 rfl) ?_
  refine lv_iconst (v := 0) hx hb dX12_end_1 (by decide) ?_
  refine va_put (D := (dC, dI)) (ci := 12) (v := .int 0) (ty := .int) (C := RX12) (T := TX12) (N := 163) hx hb hts iwsPX12_end_in12 tyX12 tyX12_ok nmX12 hown hK hP hD hS 0 rfl rfl 0 (by decide) (hts (.fieldLink RX12 348 "OptimaWorksModel" "thrown" "I") (by decide +kernel)) (fun _ h9 => h9) rfl (by decide +kernel) rfl rfl (Nat.le_of_ble_eq_true rfl) dX12_end_2 (fun H locs hP hD hS => ?_)
  have hP : va_P (dC, dI) vwCl [(h0, .inr (12, fM (mUp v 0 (.int 0)))), (b_tape, .inl (k_tape, 4000, .inl r_tape)), (b_ready, .inl (k_ready, 20, .inl r_ready))] H := hP
  have hD : va_D A [(h0, .inr (12, fM (mUp v 0 (.int 0)))), (b_tape, .inl (k_tape, 4000, .inl r_tape)), (b_ready, .inl (k_ready, 20, .inl r_ready))] := hD
  refine lv_iload_n hx hb dX12_end_5 rfl (lv_at hl 1 rfl) ?_
  refine lv_if_lt (tgt := 27) hx hb dX12_end_6 (by decide) (fun c_6 => ?_) (fun c_6 => ?_)
  · have t_6 : (nn).toInt < 0 := toI_lt c_6 rfl (by decide)
    refine lv_iconst (v := (-1)) hx hb dX12_end_27 (by decide) ?_
    refine W.widen (k := 0) (n := 0) (by decide +kernel) (by decide +kernel) ?_
    exact W.iret (v := (-1)) hx hb hr (fun t ht hW => ⟨⟨(-1), (mUp v 0 (.int 0)), rfl, by first | (left; (refine ⟨?_, ?_, ?_⟩ <;> (first | rfl | assumption | trivial | omega | (simp [c_6]; done) | (simp; omega)))) | (right; (refine ⟨?_, ?_, ?_⟩ <;> (first | rfl | assumption | trivial | omega | (simp [c_6]; done) | (simp; omega)))), by rw [ht]; exact hP.sub [0] rfl, va_K.moved hW.alike (hK.sub [] rfl), hD.sub [0] (by decide) rfl⟩, hS.F ht⟩) hS.2.2 dX12_end_28
  · have t_6 : ¬ (nn).toInt < 0 := toI_nlt c_6 rfl (by decide)
    refine lv_iload_n hx hb dX12_end_9 rfl (lv_at hl 1 rfl) ?_
    refine lv_bipush (v := 20) hx hb dX12_end_10 (by decide) ?_
    refine lv_icmp_gt (tgt := 27) hx hb dX12_end_12 (by decide) (fun c_12 => ?_) (fun c_12 => ?_)
    · have t_12 : (nn).toInt > 20 := toI_gt c_12 rfl (by decide)
      refine lv_iconst (v := (-1)) hx hb dX12_end_27 (by decide) ?_
      refine W.widen (k := 0) (n := 0) (by decide +kernel) (by decide +kernel) ?_
      exact W.iret (v := (-1)) hx hb hr (fun t ht hW => ⟨⟨(-1), (mUp v 0 (.int 0)), rfl, by first | (left; (refine ⟨?_, ?_, ?_⟩ <;> (first | rfl | assumption | trivial | omega | (simp [c_6, c_12]; done) | (simp; omega)))) | (right; (refine ⟨?_, ?_, ?_⟩ <;> (first | rfl | assumption | trivial | omega | (simp [c_6, c_12]; done) | (simp; omega)))), by rw [ht]; exact hP.sub [0] rfl, va_K.moved hW.alike (hK.sub [] rfl), hD.sub [0] (by decide) rfl⟩, hS.F ht⟩) hS.2.2 dX12_end_28
    · have t_12 : ¬ (nn).toInt > 20 := toI_ngt c_12 rfl (by decide)
      refine lv_aload_n hx hb dX12_end_15 rfl (lv_at hl 0 rfl) ?_
      refine va_get (D := (dC, dI)) (ci := 12) (v := .int 0) (C := RX12) (T := TX12) (N := 163) hx hb hts iwsPX12_end_in12 hown hK hP 0 rfl rfl 16 (by decide) (hts (.fieldLink RX12 468 "OptimaWorksModel" "taped" "I") (by decide +kernel)) (fun _ h9 => h9) (congrArg some h_taped) dX12_end_16 ?_
      refine lv_iload_n hx hb dX12_end_19 rfl (lv_at hl 1 rfl) ?_
      refine lv_iadd hx hb dX12_end_20 ?_
      refine lv_topi (fun y1 hy1 => ?_)
      obtain rfl : nn = y1 := (hy1.trans (Int32.zero_add nn)).symm
      refine lv_sipush (v := 4000) hx hb dX12_end_21 (by decide) ?_
      refine lv_icmp_le (tgt := 29) hx hb dX12_end_24 (by decide) (fun c_24 => ?_) (fun c9 => False.elim (by have t9 : ¬ (nn).toInt ≤ 4000 := toI_nle c9 rfl (by decide); omega))
      have t_24 : (nn).toInt ≤ 4000 := toI_le c_24 rfl (by decide)
      refine lv_iconst (v := 0) hx hb dX12_end_29 (by decide) ?_
      refine lv_istore_n (lv' := [(2, .int 0), (0, .ref h0), (1, .int nn)]) hx hb dX12_end_30 rfl hl (by decide) rfl (fun ls hl => ?_)
      have hl := lv_sub hl [0, 1, 2] (l' := [(2, .int (nI 0)), (0, .ref h0), (1, .int nn)]) rfl
      refine (fun (loop : ∀ (n9 : Nat) (i : Nat) (g : Nat → Int32) (H : Heap) (locs : List Loc) (ls : Array Slot), ((i : Int) ≤ (nn).toInt) →  (20 < i + n9) → va_P (dC, dI) vwCl [(h0, .inr (12, fM (mUp v 0 (.int 0)))), (b_tape, .inl (k_tape, 4000, .inl g)), (b_ready, .inl (k_ready, 20, .inl r_ready))] H → va_D A [(h0, .inr (12, fM (mUp v 0 (.int 0)))), (b_tape, .inl (k_tape, 4000, .inl g)), (b_ready, .inl (k_ready, 20, .inl r_ready))] → va_S A s.heap H locs → lv_has ls 3 [(2, .int (nI i)), (0, .ref h0), (1, .int nn)] → W p l e _ s m _ below meth c H locs 0 0 _ (F0 m 31 ls [])) => loop (21) 0 r_tape _ _ _ (by omega) (by omega) hP hD hS hl) ?_
      intro n9
      induction n9 with
      | zero => intro i g H locs ls hi hf9; exact False.elim (by omega)
      | succ n9 ih31 =>
        intro i g H locs ls hi hf31 hP hD hS hl
        refine lv_iload_n hx hb dX12_end_31 rfl (lv_at hl 0 rfl) ?_
        refine lv_iload_n hx hb dX12_end_32 rfl (lv_at hl 2 rfl) ?_
        refine lv_icmp_ge (tgt := 60) hx hb dX12_end_33 (by decide) (fun c_33 => ?_) (fun c_33 => ?_)
        · have t_33 : ((i : Nat) : Int) ≥ (nn).toInt := toI_ge c_33 (nI_toInt (by omega)) rfl
          refine lv_iconst (v := 0) hx hb dX12_end_60 (by decide) ?_
          refine lv_istore_n (lv' := [(2, .int 0), (0, .ref h0), (1, .int nn)]) hx hb dX12_end_61 rfl hl (by decide) rfl (fun ls hl => ?_)
          have hl := lv_sub hl [0, 1, 2] (l' := [(2, .int (nI 0)), (0, .ref h0), (1, .int nn)]) rfl
          refine (fun (loop : ∀ (n9 : Nat) (i2 : Nat) (g2 : Nat → Int32) (H : Heap) (locs : List Loc) (ls : Array Slot), (i2 ≤ 20) →  (20 < i2 + n9) → va_P (dC, dI) vwCl [(h0, .inr (12, fM (mUp v 0 (.int 0)))), (b_tape, .inl (k_tape, 4000, .inl g)), (b_ready, .inl (k_ready, 20, .inl g2))] H → va_D A [(h0, .inr (12, fM (mUp v 0 (.int 0)))), (b_tape, .inl (k_tape, 4000, .inl g)), (b_ready, .inl (k_ready, 20, .inl g2))] → va_S A s.heap H locs → lv_has ls 3 [(2, .int (nI i2)), (0, .ref h0), (1, .int nn)] → W p l e _ s m _ below meth c H locs 0 0 _ (F0 m 62 ls [])) => loop (21) 0 r_ready _ _ _ (by omega) (by omega) hP hD hS hl) ?_
          intro n9
          induction n9 with
          | zero => intro i2 g2 H locs ls hi2 hf9; exact False.elim (by omega)
          | succ n9 ih62_1 =>
            intro i2 g2 H locs ls hi2 hf62_1 hP hD hS hl
            refine lv_iload_n hx hb dX12_end_62 rfl (lv_at hl 0 rfl) ?_
            refine lv_bipush (v := 20) hx hb dX12_end_63 (by decide) ?_
            refine lv_icmp_ge (tgt := 81) hx hb dX12_end_65 (by decide) (fun c_65 => ?_) (fun c_65 => ?_)
            · have t_65 : ((i2 : Nat) : Int) ≥ 20 := toI_ge c_65 (nI_toInt (by omega)) (by decide)
              refine lv_aload_n hx hb dX12_end_81 rfl (lv_at hl 1 rfl) ?_
              refine lv_dup hx hb dX12_end_82 rfl ?_
              refine va_get (D := (dC, dI)) (ci := 12) (v := .int 0) (C := RX12) (T := TX12) (N := 163) hx hb hts iwsPX12_end_in12 hown hK hP 0 rfl rfl 16 (by decide) (hts (.fieldLink RX12 468 "OptimaWorksModel" "taped" "I") (by decide +kernel)) (fun _ h9 => h9) (congrArg some h_taped) dX12_end_83 ?_
              refine lv_iload_n hx hb dX12_end_86 rfl (lv_at hl 2 rfl) ?_
              refine lv_iadd hx hb dX12_end_87 ?_
              refine lv_topi (fun y2 hy2 => ?_)
              obtain rfl : nn = y2 := (hy2.trans (Int32.zero_add nn)).symm
              refine va_put (D := (dC, dI)) (ci := 12) (v := .int nn) (ty := .int) (C := RX12) (T := TX12) (N := 163) hx hb hts iwsPX12_end_in12 tyX12 tyX12_ok nmX12 hown hK hP hD hS 0 rfl rfl 16 (by decide) (hts (.fieldLink RX12 468 "OptimaWorksModel" "taped" "I") (by decide +kernel)) (fun _ h9 => h9) rfl (by decide +kernel) rfl rfl (Nat.le_of_ble_eq_true rfl) dX12_end_88 (fun H locs hP hD hS => ?_)
              have hP : va_P (dC, dI) vwCl [(h0, .inr (12, fM (mUp (mUp v 0 (.int 0)) 16 (.int nn)))), (b_tape, .inl (k_tape, 4000, .inl g)), (b_ready, .inl (k_ready, 20, .inl g2))] H := hP
              have hD : va_D A [(h0, .inr (12, fM (mUp (mUp v 0 (.int 0)) 16 (.int nn)))), (b_tape, .inl (k_tape, 4000, .inl g)), (b_ready, .inl (k_ready, 20, .inl g2))] := hD
              refine lv_aload_n hx hb dX12_end_91 rfl (lv_at hl 1 rfl) ?_
              refine va_get (D := (dC, dI)) (ci := 12) (v := .int nn) (C := RX12) (T := TX12) (N := 163) hx hb hts iwsPX12_end_in12 hown hK hP 0 rfl rfl 16 (by decide) (hts (.fieldLink RX12 468 "OptimaWorksModel" "taped" "I") (by decide +kernel)) (fun _ h9 => h9) rfl dX12_end_92 ?_
              refine W.widen (k := 0) (n := 0) (by decide +kernel) (by decide +kernel) ?_
              exact W.iret (v := nn) hx hb hr (fun t ht hW => ⟨⟨nn, (mUp (mUp v 0 (.int 0)) 16 (.int nn)), rfl, by first | (left; (refine ⟨?_, ?_, ?_⟩ <;> (first | rfl | assumption | trivial | omega | (simp [c_6, c_12, c_33, c_65]; done) | (simp; omega)))) | (right; (refine ⟨?_, ?_, ?_⟩ <;> (first | rfl | assumption | trivial | omega | (simp [c_6, c_12, c_33, c_65]; done) | (simp; omega)))), by rw [ht]; exact hP.sub [0] rfl, va_K.moved hW.alike (hK.sub [] rfl), hD.sub [0] (by decide) rfl⟩, hS.F ht⟩) hS.2.2 dX12_end_95
            · have t_65 : ¬ ((i2 : Nat) : Int) ≥ 20 := toI_nge c_65 (nI_toInt (by omega)) (by decide)
              refine lv_aload_n hx hb dX12_end_68 rfl (lv_at hl 1 rfl) ?_
              refine va_get (D := (dC, dI)) (ci := 12) (v := .ref b_ready) (C := RX12) (T := TX12) (N := 163) hx hb hts iwsPX12_end_in12 hown hK hP 0 rfl rfl 127 (by decide) (hts (.fieldLink RX12 254 "OptimaWorksModel" "ready" "[I") (by decide +kernel)) (fun _ h9 => h9) (congrArg some h_ready) dX12_end_69 ?_
              refine lv_iload_n hx hb dX12_end_72 rfl (lv_at hl 0 rfl) ?_
              refine lv_iconst (v := 0) hx hb dX12_end_73 (by decide) ?_
              refine va_iast hx hb hK hP hD hS 2 1 rfl rfl (vp_in_nI (show i2 < 20 by omega) (by omega)) dX12_end_74 (fun H locs hP hD hS => ?_)
              have hP : va_P (dC, dI) vwCl [(h0, .inr (12, fM (mUp v 0 (.int 0)))), (b_tape, .inl (k_tape, 4000, .inl g)), (b_ready, .inl (k_ready, 20, .inl (upd g2 ((nI i2)).toNatClampNeg 0)))] H := hP
              have hD : va_D A [(h0, .inr (12, fM (mUp v 0 (.int 0)))), (b_tape, .inl (k_tape, 4000, .inl g)), (b_ready, .inl (k_ready, 20, .inl (upd g2 ((nI i2)).toNatClampNeg 0)))] := hD
              refine lv_iinc (v := (nI (i2 + 1))) (lv' := [(2, .int (nI (i2 + 1))), (0, .ref h0), (1, .int nn)]) hx hb dX12_end_75 hl (k := 0) rfl (nI_add i2 1) (by decide) rfl (fun ls hl => ?_)
              refine lv_goto (tgt := 62) hx hb dX12_end_78 (by decide) ?_
              have hl := lv_sub hl [0, 1, 2] (l' := [(2, .int (nI (i2 + 1))), (0, .ref h0), (1, .int nn)]) rfl
              exact ih62_1 (i2 + 1) (upd g2 ((nI i2)).toNatClampNeg 0) _ _ _ (by omega) (by omega) hP hD hS hl
        · have t_33 : ¬ ((i : Nat) : Int) ≥ (nn).toInt := toI_nge c_33 (nI_toInt (by omega)) rfl
          refine lv_aload_n hx hb dX12_end_36 rfl (lv_at hl 1 rfl) ?_
          refine va_get (D := (dC, dI)) (ci := 12) (v := .ref b_tape) (C := RX12) (T := TX12) (N := 163) hx hb hts iwsPX12_end_in12 hown hK hP 0 rfl rfl 15 (by decide) (hts (.fieldLink RX12 39 "OptimaWorksModel" "tape" "[B") (by decide +kernel)) (fun _ h9 => h9) (congrArg some h_tape) dX12_end_37 ?_
          refine lv_aload_n hx hb dX12_end_40 rfl (lv_at hl 1 rfl) ?_
          refine va_get (D := (dC, dI)) (ci := 12) (v := .int 0) (C := RX12) (T := TX12) (N := 163) hx hb hts iwsPX12_end_in12 hown hK hP 0 rfl rfl 16 (by decide) (hts (.fieldLink RX12 468 "OptimaWorksModel" "taped" "I") (by decide +kernel)) (fun _ h9 => h9) (congrArg some h_taped) dX12_end_41 ?_
          refine lv_iload_n hx hb dX12_end_44 rfl (lv_at hl 0 rfl) ?_
          refine lv_iadd hx hb dX12_end_45 ?_
          refine lv_topi (fun y3 hy3 => ?_)
          obtain rfl : (nI (0 + i)) = y3 := (hy3.trans (nI_add 0 i)).symm
          refine lv_aload_n hx hb dX12_end_46 rfl (lv_at hl 1 rfl) ?_
          refine va_get (D := (dC, dI)) (ci := 12) (v := .ref b_ready) (C := RX12) (T := TX12) (N := 163) hx hb hts iwsPX12_end_in12 hown hK hP 0 rfl rfl 127 (by decide) (hts (.fieldLink RX12 254 "OptimaWorksModel" "ready" "[I") (by decide +kernel)) (fun _ h9 => h9) (congrArg some h_ready) dX12_end_47 ?_
          refine lv_iload_n hx hb dX12_end_50 rfl (lv_at hl 0 rfl) ?_
          refine va_iald hx hb hK hP 2 1 rfl rfl (vp_in_nI (show i < 20 by omega) (by omega)) dX12_end_51 ?_
          refine lv_i2b hx hb dX12_end_52 rfl ?_
          refine va_bast hx hb hK hP hD hS 1 0 rfl rfl (vp_in_nI (show (0 + i) < 4000 by omega) (by omega)) dX12_end_53 (fun H locs hP hD hS => ?_)
          have hP : va_P (dC, dI) vwCl [(h0, .inr (12, fM (mUp v 0 (.int 0)))), (b_tape, .inl (k_tape, 4000, .inl (upd g ((nI (0 + i))).toNatClampNeg (vp_nar FieldType.byte (((r_ready ((nI i)).toNatClampNeg)).toInt8.toInt32))))), (b_ready, .inl (k_ready, 20, .inl r_ready))] H := hP
          have hD : va_D A [(h0, .inr (12, fM (mUp v 0 (.int 0)))), (b_tape, .inl (k_tape, 4000, .inl (upd g ((nI (0 + i))).toNatClampNeg (vp_nar FieldType.byte (((r_ready ((nI i)).toNatClampNeg)).toInt8.toInt32))))), (b_ready, .inl (k_ready, 20, .inl r_ready))] := hD
          refine lv_iinc (v := (nI (i + 1))) (lv' := [(2, .int (nI (i + 1))), (0, .ref h0), (1, .int nn)]) hx hb dX12_end_54 hl (k := 0) rfl (nI_add i 1) (by decide) rfl (fun ls hl => ?_)
          refine lv_goto (tgt := 31) hx hb dX12_end_57 (by decide) ?_
          have hl := lv_sub hl [0, 1, 2] (l' := [(2, .int (nI (i + 1))), (0, .ref h0), (1, .int nn)]) rfl
          exact ih31 (i + 1) (upd g ((nI (0 + i))).toNatClampNeg (vp_nar FieldType.byte (((r_ready ((nI i)).toNatClampNeg)).toInt8.toInt32))) _ _ _ (by omega) (by omega) hP hD hS hl
theorem dX12_feed_0 : decode cX12_feed 0 = .ok (.aload_n 0, 1) := by decide +kernel
theorem dX12_feed_1 : decode cX12_feed 1 = .ok (.iconst 0, 1) := by decide +kernel
theorem dX12_feed_2 : decode cX12_feed 2 = .ok (.putfield 348, 3) := by decide +kernel
theorem dX12_feed_5 : decode cX12_feed 5 = .ok (.iconst 0, 1) := by decide +kernel
theorem dX12_feed_6 : decode cX12_feed 6 = .ok (.istore 6, 2) := by decide +kernel
theorem dX12_feed_8 : decode cX12_feed 8 = .ok (.iload 6, 2) := by decide +kernel
theorem dX12_feed_10 : decode cX12_feed 10 = .ok (.bipush 20, 2) := by decide +kernel
theorem dX12_feed_12 : decode cX12_feed 12 = .ok (.if_icmp .ge 81, 3) := by decide +kernel
theorem dX12_feed_15 : decode cX12_feed 15 = .ok (.iload 6, 2) := by decide +kernel
theorem dX12_feed_17 : decode cX12_feed 17 = .ok (.iconst 4, 1) := by decide +kernel
theorem dX12_feed_18 : decode cX12_feed 18 = .ok (.if_icmp .ge 7, 3) := by decide +kernel
theorem dX12_feed_21 : decode cX12_feed 21 = .ok (.iload_n 1, 1) := by decide +kernel
theorem dX12_feed_22 : decode cX12_feed 22 = .ok (.goto 39, 3) := by decide +kernel
theorem dX12_feed_25 : decode cX12_feed 25 = .ok (.iload 6, 2) := by decide +kernel
theorem dX12_feed_27 : decode cX12_feed 27 = .ok (.bipush 8, 2) := by decide +kernel
theorem dX12_feed_29 : decode cX12_feed 29 = .ok (.if_icmp .ge 7, 3) := by decide +kernel
theorem dX12_feed_32 : decode cX12_feed 32 = .ok (.iload_n 2, 1) := by decide +kernel
theorem dX12_feed_33 : decode cX12_feed 33 = .ok (.goto 28, 3) := by decide +kernel
theorem dX12_feed_36 : decode cX12_feed 36 = .ok (.iload 6, 2) := by decide +kernel
theorem dX12_feed_38 : decode cX12_feed 38 = .ok (.bipush 12, 2) := by decide +kernel
theorem dX12_feed_40 : decode cX12_feed 40 = .ok (.if_icmp .ge 7, 3) := by decide +kernel
theorem dX12_feed_43 : decode cX12_feed 43 = .ok (.iload_n 3, 1) := by decide +kernel
theorem dX12_feed_44 : decode cX12_feed 44 = .ok (.goto 17, 3) := by decide +kernel
theorem dX12_feed_47 : decode cX12_feed 47 = .ok (.iload 6, 2) := by decide +kernel
theorem dX12_feed_49 : decode cX12_feed 49 = .ok (.bipush 16, 2) := by decide +kernel
theorem dX12_feed_51 : decode cX12_feed 51 = .ok (.if_icmp .ge 8, 3) := by decide +kernel
theorem dX12_feed_54 : decode cX12_feed 54 = .ok (.iload 4, 2) := by decide +kernel
theorem dX12_feed_56 : decode cX12_feed 56 = .ok (.goto 5, 3) := by decide +kernel
theorem dX12_feed_59 : decode cX12_feed 59 = .ok (.iload 5, 2) := by decide +kernel
theorem dX12_feed_61 : decode cX12_feed 61 = .ok (.istore 7, 2) := by decide +kernel
theorem dX12_feed_63 : decode cX12_feed 63 = .ok (.aload_n 0, 1) := by decide +kernel
theorem dX12_feed_64 : decode cX12_feed 64 = .ok (.getfield 254, 3) := by decide +kernel
theorem dX12_feed_67 : decode cX12_feed 67 = .ok (.iload 6, 2) := by decide +kernel
theorem dX12_feed_69 : decode cX12_feed 69 = .ok (.iload 7, 2) := by decide +kernel
theorem dX12_feed_71 : decode cX12_feed 71 = .ok (.bipush 24, 2) := by decide +kernel
theorem dX12_feed_73 : decode cX12_feed 73 = .ok (.bipush 8, 2) := by decide +kernel
theorem dX12_feed_75 : decode cX12_feed 75 = .ok (.iload 6, 2) := by decide +kernel
theorem dX12_feed_77 : decode cX12_feed 77 = .ok (.iconst 4, 1) := by decide +kernel
theorem dX12_feed_78 : decode cX12_feed 78 = .ok (.irem, 1) := by decide +kernel
theorem dX12_feed_79 : decode cX12_feed 79 = .ok (.imul, 1) := by decide +kernel
theorem dX12_feed_80 : decode cX12_feed 80 = .ok (.isub, 1) := by decide +kernel
theorem dX12_feed_81 : decode cX12_feed 81 = .ok (.ishr, 1) := by decide +kernel
theorem dX12_feed_82 : decode cX12_feed 82 = .ok (.sipush 255, 3) := by decide +kernel
theorem dX12_feed_85 : decode cX12_feed 85 = .ok (.iand, 1) := by decide +kernel
theorem dX12_feed_86 : decode cX12_feed 86 = .ok (.iastore, 1) := by decide +kernel
theorem dX12_feed_87 : decode cX12_feed 87 = .ok (.iinc 6 1, 3) := by decide +kernel
theorem dX12_feed_90 : decode cX12_feed 90 = .ok (.goto (-82), 3) := by decide +kernel
theorem dX12_feed_93 : decode cX12_feed 93 = .ok (.return_, 1) := by decide +kernel
def wsPX12_feed : List Cond := .code yX12_feed cX12_feed 8 none :: ([.fieldLink RX12 348 "OptimaWorksModel" "thrown" "I", .fieldLink RX12 254 "OptimaWorksModel" "ready" "[I"] ++ wsX120)
theorem iwsPX12_feed_in12 : ∀ w ∈ wsX120, w ∈ wsPX12_feed := fun _ h => List.mem_cons_of_mem _ (List.mem_append_right _ h)
set_option maxHeartbeats 4000000 in
set_option maxRecDepth 100000 in
/-- feed(..) -/
theorem p_X12_feed (l : Launch) (dC : Nat → ClassId) (dI : Nat → Nat → Nat) (h0 : Nat) (v : Nat → Value) (b_ready : Nat) (h_ready : v 127 = .ref b_ready) (k_ready : ClassId) (r_ready : Nat → Int32) (p1 : Int32) (p2 : Int32) (p3 : Int32) (p4 : Int32) (p5 : Int32) (sz : Nat) : Met l yX12_feed wsPX12_feed ({ frames := 0, cells := 0, slots := 0, locals := 0 }) (va_Pc [.ref h0, .int p1, .int p2, .int p3, .int p4, .int p5] (fun U => U.heap.size = sz ∧ va_P (dC, dI) vwCl [(h0, .inr (12, fM v)), (b_ready, .inl (k_ready, 20, .inl r_ready))] U.heap ∧ va_K (dC, dI) vwCl [(k_ready, .int)] U ∧ va_D (fun _ => True) [(h0, .inr (12, fM v)), (b_ready, .inl (k_ready, 20, .inl r_ready))])) (va_Qv (fun (u : Nat → Value) => (u 0 = .int 0)) (fun (u : Nat → Value) t => va_P (dC, dI) vwCl [(h0, .inr (12, fM u))] t.heap ∧ va_K (dC, dI) vwCl [] t ∧ va_D (va_A [(h0, .inr (12, fM v)), (b_ready, .inl (k_ready, 20, .inl r_ready))] sz) [(h0, .inr (12, fM u))]) (va_A [(h0, .inr (12, fM v)), (b_ready, .inl (k_ready, 20, .inl r_ready))] sz)) 0 0 (va_A [(h0, .inr (12, fM v)), (b_ready, .inl (k_ready, 20, .inl r_ready))] sz) := by
  refine Met.ofW (cc := cX12_feed) (maxL := 8) (ret := none) (by decide) rfl ?_
  intro p e s m args below meth c s₁ B hml hv
  obtain ⟨rfl, hsz, hP, hK, hD0⟩ := hv
  have hx := B.exec
  have hb := B.bytes
  have hr := B.returns
  have hts := atoms_spec (ws := wsPX12_feed) B.pre
  have hown : s.vm.findClass RX12 = some m.cls := findClass_of_methodNamed B.named
  have hlocks := B.notSynchronized
  subst hsz
  have hD := hD0.self (sz := s.heap.size)
  generalize hAe : va_A [(h0, .inr (12, fM v)), (b_ready, .inl (k_ready, 20, .inl r_ready))] s.heap.size = A at hD ⊢
  have hA : ∀ q : Nat, s.heap.size ≤ q → A q := fun q h => by rw [← hAe]; exact Or.inr h
  have hS : va_S A s.heap s.heap [] := va_S.rf
  have hP : va_P (dC, dI) vwCl [(h0, .inr (12, fM v)), (b_ready, .inl (k_ready, 20, .inl r_ready))] s.heap := hP
  have hl := lv_entry ([.ref h0, .int p1, .int p2, .int p3, .int p4, .int p5]) (n := 8) (Nat.le_of_ble_eq_true rfl)
  rw [lg_entry_eq]
  generalize (lg_sl ([.ref h0, .int p1, .int p2, .int p3, .int p4, .int p5]) ++ List.replicate (8 - (lg_sl ([.ref h0, .int p1, .int p2, .int p3, .int p4, .int p5])).length) Slot.unset).toArray = ls at hl ⊢
  have hl : lv_has ls 8 [(0, .ref h0), (1, .int p1), (2, .int p2), (3, .int p3), (4, .int p4), (5, .int p5)] := hl
  refine lv_aload_n hx hb dX12_feed_0 rfl (lv_at hl 0 rfl) ?_
  refine lv_iconst (v := 0) hx hb dX12_feed_1 (by decide) ?_
  refine va_put (D := (dC, dI)) (ci := 12) (v := .int 0) (ty := .int) (C := RX12) (T := TX12) (N := 163) hx hb hts iwsPX12_feed_in12 tyX12 tyX12_ok nmX12 hown hK hP hD hS 0 rfl rfl 0 (by decide) (hts (.fieldLink RX12 348 "OptimaWorksModel" "thrown" "I") (by decide +kernel)) (fun _ h9 => h9) rfl (by decide +kernel) rfl rfl (Nat.le_of_ble_eq_true rfl) dX12_feed_2 (fun H locs hP hD hS => ?_)
  have hP : va_P (dC, dI) vwCl [(h0, .inr (12, fM (mUp v 0 (.int 0)))), (b_ready, .inl (k_ready, 20, .inl r_ready))] H := hP
  have hD : va_D A [(h0, .inr (12, fM (mUp v 0 (.int 0)))), (b_ready, .inl (k_ready, 20, .inl r_ready))] := hD
  refine lv_iconst (v := 0) hx hb dX12_feed_5 (by decide) ?_
  refine lv_istore (lv' := [(6, .int 0), (0, .ref h0), (1, .int p1), (2, .int p2), (3, .int p3), (4, .int p4), (5, .int p5)]) hx hb dX12_feed_6 hl (by decide) rfl (fun ls hl => ?_)
  have hl := lv_sub hl [0, 1, 2, 3, 4, 5, 6] (l' := [(6, .int (nI 0)), (0, .ref h0), (1, .int p1), (2, .int p2), (3, .int p3), (4, .int p4), (5, .int p5)]) rfl
  refine (fun (loop : ∀ (n9 : Nat) (i : Nat) (g : Nat → Int32) (H : Heap) (locs : List Loc) (ls : Array Slot), (i ≤ 20) →  (20 < i + n9) → va_P (dC, dI) vwCl [(h0, .inr (12, fM (mUp v 0 (.int 0)))), (b_ready, .inl (k_ready, 20, .inl g))] H → va_D A [(h0, .inr (12, fM (mUp v 0 (.int 0)))), (b_ready, .inl (k_ready, 20, .inl g))] → va_S A s.heap H locs → lv_has ls 8 [(6, .int (nI i)), (0, .ref h0), (1, .int p1), (2, .int p2), (3, .int p3), (4, .int p4), (5, .int p5)] → W p l e _ s m _ below meth c H locs 0 0 _ (F0 m 8 ls [])) => loop (21) 0 r_ready _ _ _ (by omega) (by omega) hP hD hS hl) ?_
  intro n9
  induction n9 with
  | zero => intro i g H locs ls hi hf9; exact False.elim (by omega)
  | succ n9 ih8 =>
    intro i g H locs ls hi hf8 hP hD hS hl
    refine lv_iload hx hb dX12_feed_8 (lv_at hl 0 rfl) ?_
    refine lv_bipush (v := 20) hx hb dX12_feed_10 (by decide) ?_
    refine lv_icmp_ge (tgt := 93) hx hb dX12_feed_12 (by decide) (fun c_12 => ?_) (fun c_12 => ?_)
    · have t_12 : ((i : Nat) : Int) ≥ 20 := toI_ge c_12 (nI_toInt (by omega)) (by decide)
      refine W.widen (k := 0) (n := 0) (by decide +kernel) (by decide +kernel) ?_
      exact W.vret hx hb hr (fun t ht hW => ⟨⟨(mUp v 0 (.int 0)), rfl, by (first | rfl | assumption | trivial | omega | (simp [c_12]; done) | (simp; omega)), by rw [ht]; exact hP.sub [0] rfl, va_K.moved hW.alike (hK.sub [] rfl), hD.sub [0] (by decide) rfl⟩, hS.F ht⟩) hS.2.2 dX12_feed_93
    · have t_12 : ¬ ((i : Nat) : Int) ≥ 20 := toI_nge c_12 (nI_toInt (by omega)) (by decide)
      refine lv_iload hx hb dX12_feed_15 (lv_at hl 0 rfl) ?_
      refine lv_iconst (v := 4) hx hb dX12_feed_17 (by decide) ?_
      refine lv_icmp_ge (tgt := 25) hx hb dX12_feed_18 (by decide) (fun c_18 => ?_) (fun c_18 => ?_)
      · have t_18 : ((i : Nat) : Int) ≥ 4 := toI_ge c_18 (nI_toInt (by omega)) (by decide)
        refine lv_iload hx hb dX12_feed_25 (lv_at hl 0 rfl) ?_
        refine lv_bipush (v := 8) hx hb dX12_feed_27 (by decide) ?_
        refine lv_icmp_ge (tgt := 36) hx hb dX12_feed_29 (by decide) (fun c_29 => ?_) (fun c_29 => ?_)
        · have t_29 : ((i : Nat) : Int) ≥ 8 := toI_ge c_29 (nI_toInt (by omega)) (by decide)
          refine lv_iload hx hb dX12_feed_36 (lv_at hl 0 rfl) ?_
          refine lv_bipush (v := 12) hx hb dX12_feed_38 (by decide) ?_
          refine lv_icmp_ge (tgt := 47) hx hb dX12_feed_40 (by decide) (fun c_40 => ?_) (fun c_40 => ?_)
          · have t_40 : ((i : Nat) : Int) ≥ 12 := toI_ge c_40 (nI_toInt (by omega)) (by decide)
            refine lv_iload hx hb dX12_feed_47 (lv_at hl 0 rfl) ?_
            refine lv_bipush (v := 16) hx hb dX12_feed_49 (by decide) ?_
            refine lv_icmp_ge (tgt := 59) hx hb dX12_feed_51 (by decide) (fun c_51 => ?_) (fun c_51 => ?_)
            · have t_51 : ((i : Nat) : Int) ≥ 16 := toI_ge c_51 (nI_toInt (by omega)) (by decide)
              refine lv_iload hx hb dX12_feed_59 (lv_at hl 6 rfl) ?_
              refine lv_istore (lv' := [(7, .int p5), (6, .int (nI i)), (0, .ref h0), (1, .int p1), (2, .int p2), (3, .int p3), (4, .int p4), (5, .int p5)]) hx hb dX12_feed_61 hl (by decide) rfl (fun ls hl => ?_)
              refine lv_aload_n hx hb dX12_feed_63 rfl (lv_at hl 2 rfl) ?_
              refine va_get (D := (dC, dI)) (ci := 12) (v := .ref b_ready) (C := RX12) (T := TX12) (N := 163) hx hb hts iwsPX12_feed_in12 hown hK hP 0 rfl rfl 127 (by decide) (hts (.fieldLink RX12 254 "OptimaWorksModel" "ready" "[I") (by decide +kernel)) (fun _ h9 => h9) (congrArg some h_ready) dX12_feed_64 ?_
              refine lv_iload hx hb dX12_feed_67 (lv_at hl 1 rfl) ?_
              refine lv_iload hx hb dX12_feed_69 (lv_at hl 0 rfl) ?_
              refine lv_bipush (v := 24) hx hb dX12_feed_71 (by decide) ?_
              refine lv_bipush (v := 8) hx hb dX12_feed_73 (by decide) ?_
              refine lv_iload hx hb dX12_feed_75 (lv_at hl 1 rfl) ?_
              refine lv_iconst (v := 4) hx hb dX12_feed_77 (by decide) ?_
              refine lv_irem hx hb dX12_feed_78 (by decide) ?_
              refine lv_topi (fun y1 hy1 => ?_)
              obtain rfl : (nI (i % 4)) = y1 := (hy1.trans (pk_rem (a := i) (d := 4) (by omega) (by omega) (by omega))).symm
              refine lv_imul hx hb dX12_feed_79 ?_
              refine lv_topi (fun y2 hy2 => ?_)
              obtain rfl : (nI (8 * (i % 4))) = y2 := (hy2.trans (pk_mul 8 (i % 4))).symm
              refine lv_isub hx hb dX12_feed_80 ?_
              refine lv_ishr hx hb dX12_feed_81 ?_
              refine lv_sipush (v := 255) hx hb dX12_feed_82 (by decide) ?_
              refine lv_iand hx hb dX12_feed_85 ?_
              refine va_iast hx hb hK hP hD hS 1 0 rfl rfl (vp_in_nI (show i < 20 by omega) (by omega)) dX12_feed_86 (fun H locs hP hD hS => ?_)
              have hP : va_P (dC, dI) vwCl [(h0, .inr (12, fM (mUp v 0 (.int 0)))), (b_ready, .inl (k_ready, 20, .inl (upd g ((nI i)).toNatClampNeg ((p5 >>> ((24 - (nI (8 * (i % 4)))) &&& 31)) &&& 255))))] H := hP
              have hD : va_D A [(h0, .inr (12, fM (mUp v 0 (.int 0)))), (b_ready, .inl (k_ready, 20, .inl (upd g ((nI i)).toNatClampNeg ((p5 >>> ((24 - (nI (8 * (i % 4)))) &&& 31)) &&& 255))))] := hD
              refine lv_iinc (v := (nI (i + 1))) (lv' := [(6, .int (nI (i + 1))), (7, .int p5), (0, .ref h0), (1, .int p1), (2, .int p2), (3, .int p3), (4, .int p4), (5, .int p5)]) hx hb dX12_feed_87 hl (k := 1) rfl (nI_add i 1) (by decide) rfl (fun ls hl => ?_)
              refine lv_goto (tgt := 8) hx hb dX12_feed_90 (by decide) ?_
              have hl := lv_sub hl [0, 2, 3, 4, 5, 6, 7] (l' := [(6, .int (nI (i + 1))), (0, .ref h0), (1, .int p1), (2, .int p2), (3, .int p3), (4, .int p4), (5, .int p5)]) rfl
              exact ih8 (i + 1) (upd g ((nI i)).toNatClampNeg ((p5 >>> ((24 - (nI (8 * (i % 4)))) &&& 31)) &&& 255)) _ _ _ (by omega) (by omega) hP hD hS hl
            · have t_51 : ¬ ((i : Nat) : Int) ≥ 16 := toI_nge c_51 (nI_toInt (by omega)) (by decide)
              refine lv_iload hx hb dX12_feed_54 (lv_at hl 5 rfl) ?_
              refine lv_goto (tgt := 61) hx hb dX12_feed_56 (by decide) ?_
              refine lv_istore (lv' := [(7, .int p4), (6, .int (nI i)), (0, .ref h0), (1, .int p1), (2, .int p2), (3, .int p3), (4, .int p4), (5, .int p5)]) hx hb dX12_feed_61 hl (by decide) rfl (fun ls hl => ?_)
              refine lv_aload_n hx hb dX12_feed_63 rfl (lv_at hl 2 rfl) ?_
              refine va_get (D := (dC, dI)) (ci := 12) (v := .ref b_ready) (C := RX12) (T := TX12) (N := 163) hx hb hts iwsPX12_feed_in12 hown hK hP 0 rfl rfl 127 (by decide) (hts (.fieldLink RX12 254 "OptimaWorksModel" "ready" "[I") (by decide +kernel)) (fun _ h9 => h9) (congrArg some h_ready) dX12_feed_64 ?_
              refine lv_iload hx hb dX12_feed_67 (lv_at hl 1 rfl) ?_
              refine lv_iload hx hb dX12_feed_69 (lv_at hl 0 rfl) ?_
              refine lv_bipush (v := 24) hx hb dX12_feed_71 (by decide) ?_
              refine lv_bipush (v := 8) hx hb dX12_feed_73 (by decide) ?_
              refine lv_iload hx hb dX12_feed_75 (lv_at hl 1 rfl) ?_
              refine lv_iconst (v := 4) hx hb dX12_feed_77 (by decide) ?_
              refine lv_irem hx hb dX12_feed_78 (by decide) ?_
              refine lv_topi (fun y3 hy3 => ?_)
              obtain rfl : (nI (i % 4)) = y3 := (hy3.trans (pk_rem (a := i) (d := 4) (by omega) (by omega) (by omega))).symm
              refine lv_imul hx hb dX12_feed_79 ?_
              refine lv_topi (fun y4 hy4 => ?_)
              obtain rfl : (nI (8 * (i % 4))) = y4 := (hy4.trans (pk_mul 8 (i % 4))).symm
              refine lv_isub hx hb dX12_feed_80 ?_
              refine lv_ishr hx hb dX12_feed_81 ?_
              refine lv_sipush (v := 255) hx hb dX12_feed_82 (by decide) ?_
              refine lv_iand hx hb dX12_feed_85 ?_
              refine va_iast hx hb hK hP hD hS 1 0 rfl rfl (vp_in_nI (show i < 20 by omega) (by omega)) dX12_feed_86 (fun H locs hP hD hS => ?_)
              have hP : va_P (dC, dI) vwCl [(h0, .inr (12, fM (mUp v 0 (.int 0)))), (b_ready, .inl (k_ready, 20, .inl (upd g ((nI i)).toNatClampNeg ((p4 >>> ((24 - (nI (8 * (i % 4)))) &&& 31)) &&& 255))))] H := hP
              have hD : va_D A [(h0, .inr (12, fM (mUp v 0 (.int 0)))), (b_ready, .inl (k_ready, 20, .inl (upd g ((nI i)).toNatClampNeg ((p4 >>> ((24 - (nI (8 * (i % 4)))) &&& 31)) &&& 255))))] := hD
              refine lv_iinc (v := (nI (i + 1))) (lv' := [(6, .int (nI (i + 1))), (7, .int p4), (0, .ref h0), (1, .int p1), (2, .int p2), (3, .int p3), (4, .int p4), (5, .int p5)]) hx hb dX12_feed_87 hl (k := 1) rfl (nI_add i 1) (by decide) rfl (fun ls hl => ?_)
              refine lv_goto (tgt := 8) hx hb dX12_feed_90 (by decide) ?_
              have hl := lv_sub hl [0, 2, 3, 4, 5, 6, 7] (l' := [(6, .int (nI (i + 1))), (0, .ref h0), (1, .int p1), (2, .int p2), (3, .int p3), (4, .int p4), (5, .int p5)]) rfl
              exact ih8 (i + 1) (upd g ((nI i)).toNatClampNeg ((p4 >>> ((24 - (nI (8 * (i % 4)))) &&& 31)) &&& 255)) _ _ _ (by omega) (by omega) hP hD hS hl
          · have t_40 : ¬ ((i : Nat) : Int) ≥ 12 := toI_nge c_40 (nI_toInt (by omega)) (by decide)
            refine lv_iload_n hx hb dX12_feed_43 rfl (lv_at hl 4 rfl) ?_
            refine lv_goto (tgt := 61) hx hb dX12_feed_44 (by decide) ?_
            refine lv_istore (lv' := [(7, .int p3), (6, .int (nI i)), (0, .ref h0), (1, .int p1), (2, .int p2), (3, .int p3), (4, .int p4), (5, .int p5)]) hx hb dX12_feed_61 hl (by decide) rfl (fun ls hl => ?_)
            refine lv_aload_n hx hb dX12_feed_63 rfl (lv_at hl 2 rfl) ?_
            refine va_get (D := (dC, dI)) (ci := 12) (v := .ref b_ready) (C := RX12) (T := TX12) (N := 163) hx hb hts iwsPX12_feed_in12 hown hK hP 0 rfl rfl 127 (by decide) (hts (.fieldLink RX12 254 "OptimaWorksModel" "ready" "[I") (by decide +kernel)) (fun _ h9 => h9) (congrArg some h_ready) dX12_feed_64 ?_
            refine lv_iload hx hb dX12_feed_67 (lv_at hl 1 rfl) ?_
            refine lv_iload hx hb dX12_feed_69 (lv_at hl 0 rfl) ?_
            refine lv_bipush (v := 24) hx hb dX12_feed_71 (by decide) ?_
            refine lv_bipush (v := 8) hx hb dX12_feed_73 (by decide) ?_
            refine lv_iload hx hb dX12_feed_75 (lv_at hl 1 rfl) ?_
            refine lv_iconst (v := 4) hx hb dX12_feed_77 (by decide) ?_
            refine lv_irem hx hb dX12_feed_78 (by decide) ?_
            refine lv_topi (fun y5 hy5 => ?_)
            obtain rfl : (nI (i % 4)) = y5 := (hy5.trans (pk_rem (a := i) (d := 4) (by omega) (by omega) (by omega))).symm
            refine lv_imul hx hb dX12_feed_79 ?_
            refine lv_topi (fun y6 hy6 => ?_)
            obtain rfl : (nI (8 * (i % 4))) = y6 := (hy6.trans (pk_mul 8 (i % 4))).symm
            refine lv_isub hx hb dX12_feed_80 ?_
            refine lv_ishr hx hb dX12_feed_81 ?_
            refine lv_sipush (v := 255) hx hb dX12_feed_82 (by decide) ?_
            refine lv_iand hx hb dX12_feed_85 ?_
            refine va_iast hx hb hK hP hD hS 1 0 rfl rfl (vp_in_nI (show i < 20 by omega) (by omega)) dX12_feed_86 (fun H locs hP hD hS => ?_)
            have hP : va_P (dC, dI) vwCl [(h0, .inr (12, fM (mUp v 0 (.int 0)))), (b_ready, .inl (k_ready, 20, .inl (upd g ((nI i)).toNatClampNeg ((p3 >>> ((24 - (nI (8 * (i % 4)))) &&& 31)) &&& 255))))] H := hP
            have hD : va_D A [(h0, .inr (12, fM (mUp v 0 (.int 0)))), (b_ready, .inl (k_ready, 20, .inl (upd g ((nI i)).toNatClampNeg ((p3 >>> ((24 - (nI (8 * (i % 4)))) &&& 31)) &&& 255))))] := hD
            refine lv_iinc (v := (nI (i + 1))) (lv' := [(6, .int (nI (i + 1))), (7, .int p3), (0, .ref h0), (1, .int p1), (2, .int p2), (3, .int p3), (4, .int p4), (5, .int p5)]) hx hb dX12_feed_87 hl (k := 1) rfl (nI_add i 1) (by decide) rfl (fun ls hl => ?_)
            refine lv_goto (tgt := 8) hx hb dX12_feed_90 (by decide) ?_
            have hl := lv_sub hl [0, 2, 3, 4, 5, 6, 7] (l' := [(6, .int (nI (i + 1))), (0, .ref h0), (1, .int p1), (2, .int p2), (3, .int p3), (4, .int p4), (5, .int p5)]) rfl
            exact ih8 (i + 1) (upd g ((nI i)).toNatClampNeg ((p3 >>> ((24 - (nI (8 * (i % 4)))) &&& 31)) &&& 255)) _ _ _ (by omega) (by omega) hP hD hS hl
        · have t_29 : ¬ ((i : Nat) : Int) ≥ 8 := toI_nge c_29 (nI_toInt (by omega)) (by decide)
          refine lv_iload_n hx hb dX12_feed_32 rfl (lv_at hl 3 rfl) ?_
          refine lv_goto (tgt := 61) hx hb dX12_feed_33 (by decide) ?_
          refine lv_istore (lv' := [(7, .int p2), (6, .int (nI i)), (0, .ref h0), (1, .int p1), (2, .int p2), (3, .int p3), (4, .int p4), (5, .int p5)]) hx hb dX12_feed_61 hl (by decide) rfl (fun ls hl => ?_)
          refine lv_aload_n hx hb dX12_feed_63 rfl (lv_at hl 2 rfl) ?_
          refine va_get (D := (dC, dI)) (ci := 12) (v := .ref b_ready) (C := RX12) (T := TX12) (N := 163) hx hb hts iwsPX12_feed_in12 hown hK hP 0 rfl rfl 127 (by decide) (hts (.fieldLink RX12 254 "OptimaWorksModel" "ready" "[I") (by decide +kernel)) (fun _ h9 => h9) (congrArg some h_ready) dX12_feed_64 ?_
          refine lv_iload hx hb dX12_feed_67 (lv_at hl 1 rfl) ?_
          refine lv_iload hx hb dX12_feed_69 (lv_at hl 0 rfl) ?_
          refine lv_bipush (v := 24) hx hb dX12_feed_71 (by decide) ?_
          refine lv_bipush (v := 8) hx hb dX12_feed_73 (by decide) ?_
          refine lv_iload hx hb dX12_feed_75 (lv_at hl 1 rfl) ?_
          refine lv_iconst (v := 4) hx hb dX12_feed_77 (by decide) ?_
          refine lv_irem hx hb dX12_feed_78 (by decide) ?_
          refine lv_topi (fun y7 hy7 => ?_)
          obtain rfl : (nI (i % 4)) = y7 := (hy7.trans (pk_rem (a := i) (d := 4) (by omega) (by omega) (by omega))).symm
          refine lv_imul hx hb dX12_feed_79 ?_
          refine lv_topi (fun y8 hy8 => ?_)
          obtain rfl : (nI (8 * (i % 4))) = y8 := (hy8.trans (pk_mul 8 (i % 4))).symm
          refine lv_isub hx hb dX12_feed_80 ?_
          refine lv_ishr hx hb dX12_feed_81 ?_
          refine lv_sipush (v := 255) hx hb dX12_feed_82 (by decide) ?_
          refine lv_iand hx hb dX12_feed_85 ?_
          refine va_iast hx hb hK hP hD hS 1 0 rfl rfl (vp_in_nI (show i < 20 by omega) (by omega)) dX12_feed_86 (fun H locs hP hD hS => ?_)
          have hP : va_P (dC, dI) vwCl [(h0, .inr (12, fM (mUp v 0 (.int 0)))), (b_ready, .inl (k_ready, 20, .inl (upd g ((nI i)).toNatClampNeg ((p2 >>> ((24 - (nI (8 * (i % 4)))) &&& 31)) &&& 255))))] H := hP
          have hD : va_D A [(h0, .inr (12, fM (mUp v 0 (.int 0)))), (b_ready, .inl (k_ready, 20, .inl (upd g ((nI i)).toNatClampNeg ((p2 >>> ((24 - (nI (8 * (i % 4)))) &&& 31)) &&& 255))))] := hD
          refine lv_iinc (v := (nI (i + 1))) (lv' := [(6, .int (nI (i + 1))), (7, .int p2), (0, .ref h0), (1, .int p1), (2, .int p2), (3, .int p3), (4, .int p4), (5, .int p5)]) hx hb dX12_feed_87 hl (k := 1) rfl (nI_add i 1) (by decide) rfl (fun ls hl => ?_)
          refine lv_goto (tgt := 8) hx hb dX12_feed_90 (by decide) ?_
          have hl := lv_sub hl [0, 2, 3, 4, 5, 6, 7] (l' := [(6, .int (nI (i + 1))), (0, .ref h0), (1, .int p1), (2, .int p2), (3, .int p3), (4, .int p4), (5, .int p5)]) rfl
          exact ih8 (i + 1) (upd g ((nI i)).toNatClampNeg ((p2 >>> ((24 - (nI (8 * (i % 4)))) &&& 31)) &&& 255)) _ _ _ (by omega) (by omega) hP hD hS hl
      · have t_18 : ¬ ((i : Nat) : Int) ≥ 4 := toI_nge c_18 (nI_toInt (by omega)) (by decide)
        refine lv_iload_n hx hb dX12_feed_21 rfl (lv_at hl 2 rfl) ?_
        refine lv_goto (tgt := 61) hx hb dX12_feed_22 (by decide) ?_
        refine lv_istore (lv' := [(7, .int p1), (6, .int (nI i)), (0, .ref h0), (1, .int p1), (2, .int p2), (3, .int p3), (4, .int p4), (5, .int p5)]) hx hb dX12_feed_61 hl (by decide) rfl (fun ls hl => ?_)
        refine lv_aload_n hx hb dX12_feed_63 rfl (lv_at hl 2 rfl) ?_
        refine va_get (D := (dC, dI)) (ci := 12) (v := .ref b_ready) (C := RX12) (T := TX12) (N := 163) hx hb hts iwsPX12_feed_in12 hown hK hP 0 rfl rfl 127 (by decide) (hts (.fieldLink RX12 254 "OptimaWorksModel" "ready" "[I") (by decide +kernel)) (fun _ h9 => h9) (congrArg some h_ready) dX12_feed_64 ?_
        refine lv_iload hx hb dX12_feed_67 (lv_at hl 1 rfl) ?_
        refine lv_iload hx hb dX12_feed_69 (lv_at hl 0 rfl) ?_
        refine lv_bipush (v := 24) hx hb dX12_feed_71 (by decide) ?_
        refine lv_bipush (v := 8) hx hb dX12_feed_73 (by decide) ?_
        refine lv_iload hx hb dX12_feed_75 (lv_at hl 1 rfl) ?_
        refine lv_iconst (v := 4) hx hb dX12_feed_77 (by decide) ?_
        refine lv_irem hx hb dX12_feed_78 (by decide) ?_
        refine lv_topi (fun y9 hy9 => ?_)
        obtain rfl : (nI (i % 4)) = y9 := (hy9.trans (pk_rem (a := i) (d := 4) (by omega) (by omega) (by omega))).symm
        refine lv_imul hx hb dX12_feed_79 ?_
        refine lv_topi (fun y10 hy10 => ?_)
        obtain rfl : (nI (8 * (i % 4))) = y10 := (hy10.trans (pk_mul 8 (i % 4))).symm
        refine lv_isub hx hb dX12_feed_80 ?_
        refine lv_ishr hx hb dX12_feed_81 ?_
        refine lv_sipush (v := 255) hx hb dX12_feed_82 (by decide) ?_
        refine lv_iand hx hb dX12_feed_85 ?_
        refine va_iast hx hb hK hP hD hS 1 0 rfl rfl (vp_in_nI (show i < 20 by omega) (by omega)) dX12_feed_86 (fun H locs hP hD hS => ?_)
        have hP : va_P (dC, dI) vwCl [(h0, .inr (12, fM (mUp v 0 (.int 0)))), (b_ready, .inl (k_ready, 20, .inl (upd g ((nI i)).toNatClampNeg ((p1 >>> ((24 - (nI (8 * (i % 4)))) &&& 31)) &&& 255))))] H := hP
        have hD : va_D A [(h0, .inr (12, fM (mUp v 0 (.int 0)))), (b_ready, .inl (k_ready, 20, .inl (upd g ((nI i)).toNatClampNeg ((p1 >>> ((24 - (nI (8 * (i % 4)))) &&& 31)) &&& 255))))] := hD
        refine lv_iinc (v := (nI (i + 1))) (lv' := [(6, .int (nI (i + 1))), (7, .int p1), (0, .ref h0), (1, .int p1), (2, .int p2), (3, .int p3), (4, .int p4), (5, .int p5)]) hx hb dX12_feed_87 hl (k := 1) rfl (nI_add i 1) (by decide) rfl (fun ls hl => ?_)
        refine lv_goto (tgt := 8) hx hb dX12_feed_90 (by decide) ?_
        have hl := lv_sub hl [0, 2, 3, 4, 5, 6, 7] (l' := [(6, .int (nI (i + 1))), (0, .ref h0), (1, .int p1), (2, .int p2), (3, .int p3), (4, .int p4), (5, .int p5)]) rfl
        exact ih8 (i + 1) (upd g ((nI i)).toNatClampNeg ((p1 >>> ((24 - (nI (8 * (i % 4)))) &&& 31)) &&& 255)) _ _ _ (by omega) (by omega) hP hD hS hl
theorem dX12_about_0 : decode cX12_about 0 = .ok (.aload_n 0, 1) := by decide +kernel
theorem dX12_about_1 : decode cX12_about 1 = .ok (.iconst 0, 1) := by decide +kernel
theorem dX12_about_2 : decode cX12_about 2 = .ok (.putfield 348, 3) := by decide +kernel
theorem dX12_about_5 : decode cX12_about 5 = .ok (.iconst 2, 1) := by decide +kernel
theorem dX12_about_6 : decode cX12_about 6 = .ok (.aload_n 0, 1) := by decide +kernel
theorem dX12_about_7 : decode cX12_about 7 = .ok (.getfield 774, 3) := by decide +kernel
theorem dX12_about_10 : decode cX12_about 10 = .ok (.imul, 1) := by decide +kernel
theorem dX12_about_11 : decode cX12_about 11 = .ok (.istore_n 2, 1) := by decide +kernel
theorem dX12_about_12 : decode cX12_about 12 = .ok (.iconst 0, 1) := by decide +kernel
theorem dX12_about_13 : decode cX12_about 13 = .ok (.istore_n 3, 1) := by decide +kernel
theorem dX12_about_14 : decode cX12_about 14 = .ok (.iload_n 3, 1) := by decide +kernel
theorem dX12_about_15 : decode cX12_about 15 = .ok (.aload_n 0, 1) := by decide +kernel
theorem dX12_about_16 : decode cX12_about 16 = .ok (.getfield 786, 3) := by decide +kernel
theorem dX12_about_19 : decode cX12_about 19 = .ok (.if_icmp .ge 27, 3) := by decide +kernel
theorem dX12_about_46 : decode cX12_about 46 = .ok (.iload_n 1, 1) := by decide +kernel
theorem dX12_about_47 : decode cX12_about 47 = .ok (.tableswitch 104 0 7 #[45, 50, 55, 60, 65, 70, 75, 91], 45) := by decide +kernel
theorem dX12_about_92 : decode cX12_about 92 = .ok (.aload_n 0, 1) := by decide +kernel
theorem dX12_about_93 : decode cX12_about 93 = .ok (.getfield 468, 3) := by decide +kernel
theorem dX12_about_96 : decode cX12_about 96 = .ok (.ireturn, 1) := by decide +kernel
theorem dX12_about_97 : decode cX12_about 97 = .ok (.aload_n 0, 1) := by decide +kernel
theorem dX12_about_98 : decode cX12_about 98 = .ok (.getfield 933, 3) := by decide +kernel
theorem dX12_about_101 : decode cX12_about 101 = .ok (.ireturn, 1) := by decide +kernel
theorem dX12_about_102 : decode cX12_about 102 = .ok (.aload_n 0, 1) := by decide +kernel
theorem dX12_about_103 : decode cX12_about 103 = .ok (.getfield 774, 3) := by decide +kernel
theorem dX12_about_106 : decode cX12_about 106 = .ok (.ireturn, 1) := by decide +kernel
theorem dX12_about_107 : decode cX12_about 107 = .ok (.aload_n 0, 1) := by decide +kernel
theorem dX12_about_108 : decode cX12_about 108 = .ok (.getfield 786, 3) := by decide +kernel
theorem dX12_about_111 : decode cX12_about 111 = .ok (.ireturn, 1) := by decide +kernel
theorem dX12_about_112 : decode cX12_about 112 = .ok (.aload_n 0, 1) := by decide +kernel
theorem dX12_about_113 : decode cX12_about 113 = .ok (.getfield 805, 3) := by decide +kernel
theorem dX12_about_116 : decode cX12_about 116 = .ok (.ireturn, 1) := by decide +kernel
theorem dX12_about_117 : decode cX12_about 117 = .ok (.aload_n 0, 1) := by decide +kernel
theorem dX12_about_118 : decode cX12_about 118 = .ok (.getfield 802, 3) := by decide +kernel
theorem dX12_about_121 : decode cX12_about 121 = .ok (.ireturn, 1) := by decide +kernel
theorem dX12_about_122 : decode cX12_about 122 = .ok (.aload_n 0, 1) := by decide +kernel
theorem dX12_about_123 : decode cX12_about 123 = .ok (.getfield 808, 3) := by decide +kernel
theorem dX12_about_126 : decode cX12_about 126 = .ok (.ifCond .eq 10, 3) := by decide +kernel
theorem dX12_about_136 : decode cX12_about 136 = .ok (.iconst 0, 1) := by decide +kernel
theorem dX12_about_137 : decode cX12_about 137 = .ok (.ireturn, 1) := by decide +kernel
theorem dX12_about_138 : decode cX12_about 138 = .ok (.aload_n 0, 1) := by decide +kernel
theorem dX12_about_139 : decode cX12_about 139 = .ok (.getfield 808, 3) := by decide +kernel
theorem dX12_about_142 : decode cX12_about 142 = .ok (.ifCond .eq 7, 3) := by decide +kernel
theorem dX12_about_149 : decode cX12_about 149 = .ok (.iconst 0, 1) := by decide +kernel
theorem dX12_about_150 : decode cX12_about 150 = .ok (.ireturn, 1) := by decide +kernel
theorem dX12_about_151 : decode cX12_about 151 = .ok (.iconst (-1), 1) := by decide +kernel
theorem dX12_about_152 : decode cX12_about 152 = .ok (.ireturn, 1) := by decide +kernel
def wsPX12_about : List Cond := .code yX12_about cX12_about 4 (some .int) :: ([.fieldLink RX12 348 "OptimaWorksModel" "thrown" "I", .fieldLink RX12 774 "OptimaWorksModel" "variables" "I", .fieldLink RX12 786 "OptimaWorksModel" "modelRows" "I", .fieldLink RX12 468 "OptimaWorksModel" "taped" "I", .fieldLink RX12 933 "OptimaWorksModel" "printed" "I", .fieldLink RX12 805 "OptimaWorksModel" "modelGoals" "I", .fieldLink RX12 802 "OptimaWorksModel" "differents" "I", .fieldLink RX12 808 "OptimaWorksModel" "isModel" "Z"] ++ wsX120)
theorem iwsPX12_about_in12 : ∀ w ∈ wsX120, w ∈ wsPX12_about := fun _ h => List.mem_cons_of_mem _ (List.mem_append_right _ h)
set_option maxHeartbeats 4000000 in
set_option maxRecDepth 100000 in
/-- about(what) -/
theorem p_X12_about (l : Launch) (dC : Nat → ClassId) (dI : Nat → Nat → Nat) (h0 : Nat) (v : Nat → Value) (h_variables : v 90 = .int 0) (h_modelRows : v 91 = .int 0) (h_taped : v 16 = .int 0) (h_printed : v 125 = .int 0) (h_modelGoals : v 93 = .int 0) (h_differents : v 92 = .int 0) (h_isModel : v 95 = .int 0) (wh : Int32) (sz : Nat) : Met l yX12_about wsPX12_about ({ frames := 0, cells := 0, slots := 0, locals := 0 }) (va_Pc [.ref h0, .int wh] (fun U => U.heap.size = sz ∧ va_P (dC, dI) vwCl [(h0, .inr (12, fM v))] U.heap ∧ va_K (dC, dI) vwCl [] U ∧ va_D (fun _ => True) [(h0, .inr (12, fM v))])) (va_Qi (fun (r : Int32) (u : Nat → Value) => (r = 0 ∧ (0 ≤ (wh).toInt ∧ (wh).toInt ≤ 7) ∧ (u 0 = .int 0)) ∨ (r = (-1) ∧ ((wh).toInt < 0 ∨ 7 < (wh).toInt) ∧ (u 0 = .int 0))) (fun (u : Nat → Value) t => va_P (dC, dI) vwCl [(h0, .inr (12, fM u))] t.heap ∧ va_K (dC, dI) vwCl [] t ∧ va_D (va_A [(h0, .inr (12, fM v))] sz) [(h0, .inr (12, fM u))]) (va_A [(h0, .inr (12, fM v))] sz)) 0 0 (va_A [(h0, .inr (12, fM v))] sz) := by
  refine Met.ofW (cc := cX12_about) (maxL := 4) (ret := (some .int)) (by decide) rfl ?_
  intro p e s m args below meth c s₁ B hml hv
  obtain ⟨rfl, hsz, hP, hK, hD0⟩ := hv
  have hx := B.exec
  have hb := B.bytes
  have hr := B.returns
  have hts := atoms_spec (ws := wsPX12_about) B.pre
  have hown : s.vm.findClass RX12 = some m.cls := findClass_of_methodNamed B.named
  have hlocks := B.notSynchronized
  subst hsz
  have hD := hD0.self (sz := s.heap.size)
  generalize hAe : va_A [(h0, .inr (12, fM v))] s.heap.size = A at hD ⊢
  have hA : ∀ q : Nat, s.heap.size ≤ q → A q := fun q h => by rw [← hAe]; exact Or.inr h
  have hS : va_S A s.heap s.heap [] := va_S.rf
  have hP : va_P (dC, dI) vwCl [(h0, .inr (12, fM v))] s.heap := hP
  have hl := lv_entry ([.ref h0, .int wh]) (n := 4) (Nat.le_of_ble_eq_true rfl)
  rw [lg_entry_eq]
  generalize (lg_sl ([.ref h0, .int wh]) ++ List.replicate (4 - (lg_sl ([.ref h0, .int wh])).length) Slot.unset).toArray = ls at hl ⊢
  have hl : lv_has ls 4 [(0, .ref h0), (1, .int wh)] := hl
  refine lv_aload_n hx hb dX12_about_0 rfl (lv_at hl 0 rfl) ?_
  refine lv_iconst (v := 0) hx hb dX12_about_1 (by decide) ?_
  refine va_put (D := (dC, dI)) (ci := 12) (v := .int 0) (ty := .int) (C := RX12) (T := TX12) (N := 163) hx hb hts iwsPX12_about_in12 tyX12 tyX12_ok nmX12 hown hK hP hD hS 0 rfl rfl 0 (by decide) (hts (.fieldLink RX12 348 "OptimaWorksModel" "thrown" "I") (by decide +kernel)) (fun _ h9 => h9) rfl (by decide +kernel) rfl rfl (Nat.le_of_ble_eq_true rfl) dX12_about_2 (fun H locs hP hD hS => ?_)
  have hP : va_P (dC, dI) vwCl [(h0, .inr (12, fM (mUp v 0 (.int 0))))] H := hP
  have hD : va_D A [(h0, .inr (12, fM (mUp v 0 (.int 0))))] := hD
  refine lv_iconst (v := 2) hx hb dX12_about_5 (by decide) ?_
  refine lv_aload_n hx hb dX12_about_6 rfl (lv_at hl 0 rfl) ?_
  refine va_get (D := (dC, dI)) (ci := 12) (v := .int 0) (C := RX12) (T := TX12) (N := 163) hx hb hts iwsPX12_about_in12 hown hK hP 0 rfl rfl 90 (by decide) (hts (.fieldLink RX12 774 "OptimaWorksModel" "variables" "I") (by decide +kernel)) (fun _ h9 => h9) (congrArg some h_variables) dX12_about_7 ?_
  refine lv_imul hx hb dX12_about_10 ?_
  refine lv_topi (fun y1 hy1 => ?_)
  obtain rfl : 0 = y1 := (hy1.trans (by decide)).symm
  refine lv_istore_n (lv' := [(2, .int 0), (0, .ref h0), (1, .int wh)]) hx hb dX12_about_11 rfl hl (by decide) rfl (fun ls hl => ?_)
  refine lv_iconst (v := 0) hx hb dX12_about_12 (by decide) ?_
  refine lv_istore_n (lv' := [(3, .int 0), (2, .int 0), (0, .ref h0), (1, .int wh)]) hx hb dX12_about_13 rfl hl (by decide) rfl (fun ls hl => ?_)
  refine lv_iload_n hx hb dX12_about_14 rfl (lv_at hl 0 rfl) ?_
  refine lv_aload_n hx hb dX12_about_15 rfl (lv_at hl 2 rfl) ?_
  refine va_get (D := (dC, dI)) (ci := 12) (v := .int 0) (C := RX12) (T := TX12) (N := 163) hx hb hts iwsPX12_about_in12 hown hK hP 0 rfl rfl 91 (by decide) (hts (.fieldLink RX12 786 "OptimaWorksModel" "modelRows" "I") (by decide +kernel)) (fun _ h9 => h9) (congrArg some h_modelRows) dX12_about_16 ?_
  refine lv_icmp_ge (tgt := 46) hx hb dX12_about_19 (by decide) (fun _ => ?_) (fun c9 => absurd (by decide) c9)
  refine lv_iload_n hx hb dX12_about_46 rfl (lv_at hl 3 rfl) ?_
  by_cases s_47_0 : wh = 0
  · have ts_47_0 : (wh).toInt = 0 := toI_eq s_47_0 rfl (by decide)
    refine lv_tableIn (off := 45) (tgt := 92) hx hb dX12_about_47 (by rw [s_47_0]; decide) (by rw [s_47_0]; decide) (by rw [s_47_0]; decide) (by decide) ?_
    refine lv_aload_n hx hb dX12_about_92 rfl (lv_at hl 2 rfl) ?_
    refine va_get (D := (dC, dI)) (ci := 12) (v := .int 0) (C := RX12) (T := TX12) (N := 163) hx hb hts iwsPX12_about_in12 hown hK hP 0 rfl rfl 16 (by decide) (hts (.fieldLink RX12 468 "OptimaWorksModel" "taped" "I") (by decide +kernel)) (fun _ h9 => h9) (congrArg some h_taped) dX12_about_93 ?_
    refine W.widen (k := 0) (n := 0) (by decide +kernel) (by decide +kernel) ?_
    exact W.iret (v := 0) hx hb hr (fun t ht hW => ⟨⟨0, (mUp v 0 (.int 0)), rfl, by first | (left; (refine ⟨?_, ?_, ?_⟩ <;> (first | rfl | assumption | trivial | omega | (simp []; done) | (simp; omega)))) | (right; (refine ⟨?_, ?_, ?_⟩ <;> (first | rfl | assumption | trivial | omega | (simp []; done) | (simp; omega)))), by rw [ht]; exact hP.sub [0] rfl, va_K.moved hW.alike (hK.sub [] rfl), hD.sub [0] (by decide) rfl⟩, hS.F ht⟩) hS.2.2 dX12_about_96
  · have ts_47_0 : ¬ (wh).toInt = 0 := toI_neq s_47_0 rfl (by decide)
    by_cases s_47_1 : wh = 1
    · have ts_47_1 : (wh).toInt = 1 := toI_eq s_47_1 rfl (by decide)
      refine lv_tableIn (off := 50) (tgt := 97) hx hb dX12_about_47 (by rw [s_47_1]; decide) (by rw [s_47_1]; decide) (by rw [s_47_1]; decide) (by decide) ?_
      refine lv_aload_n hx hb dX12_about_97 rfl (lv_at hl 2 rfl) ?_
      refine va_get (D := (dC, dI)) (ci := 12) (v := .int 0) (C := RX12) (T := TX12) (N := 163) hx hb hts iwsPX12_about_in12 hown hK hP 0 rfl rfl 125 (by decide) (hts (.fieldLink RX12 933 "OptimaWorksModel" "printed" "I") (by decide +kernel)) (fun _ h9 => h9) (congrArg some h_printed) dX12_about_98 ?_
      refine W.widen (k := 0) (n := 0) (by decide +kernel) (by decide +kernel) ?_
      exact W.iret (v := 0) hx hb hr (fun t ht hW => ⟨⟨0, (mUp v 0 (.int 0)), rfl, by first | (left; (refine ⟨?_, ?_, ?_⟩ <;> (first | rfl | assumption | trivial | omega | (simp []; done) | (simp; omega)))) | (right; (refine ⟨?_, ?_, ?_⟩ <;> (first | rfl | assumption | trivial | omega | (simp []; done) | (simp; omega)))), by rw [ht]; exact hP.sub [0] rfl, va_K.moved hW.alike (hK.sub [] rfl), hD.sub [0] (by decide) rfl⟩, hS.F ht⟩) hS.2.2 dX12_about_101
    · have ts_47_1 : ¬ (wh).toInt = 1 := toI_neq s_47_1 rfl (by decide)
      by_cases s_47_2 : wh = 2
      · have ts_47_2 : (wh).toInt = 2 := toI_eq s_47_2 rfl (by decide)
        refine lv_tableIn (off := 55) (tgt := 102) hx hb dX12_about_47 (by rw [s_47_2]; decide) (by rw [s_47_2]; decide) (by rw [s_47_2]; decide) (by decide) ?_
        refine lv_aload_n hx hb dX12_about_102 rfl (lv_at hl 2 rfl) ?_
        refine va_get (D := (dC, dI)) (ci := 12) (v := .int 0) (C := RX12) (T := TX12) (N := 163) hx hb hts iwsPX12_about_in12 hown hK hP 0 rfl rfl 90 (by decide) (hts (.fieldLink RX12 774 "OptimaWorksModel" "variables" "I") (by decide +kernel)) (fun _ h9 => h9) (congrArg some h_variables) dX12_about_103 ?_
        refine W.widen (k := 0) (n := 0) (by decide +kernel) (by decide +kernel) ?_
        exact W.iret (v := 0) hx hb hr (fun t ht hW => ⟨⟨0, (mUp v 0 (.int 0)), rfl, by first | (left; (refine ⟨?_, ?_, ?_⟩ <;> (first | rfl | assumption | trivial | omega | (simp []; done) | (simp; omega)))) | (right; (refine ⟨?_, ?_, ?_⟩ <;> (first | rfl | assumption | trivial | omega | (simp []; done) | (simp; omega)))), by rw [ht]; exact hP.sub [0] rfl, va_K.moved hW.alike (hK.sub [] rfl), hD.sub [0] (by decide) rfl⟩, hS.F ht⟩) hS.2.2 dX12_about_106
      · have ts_47_2 : ¬ (wh).toInt = 2 := toI_neq s_47_2 rfl (by decide)
        by_cases s_47_3 : wh = 3
        · have ts_47_3 : (wh).toInt = 3 := toI_eq s_47_3 rfl (by decide)
          refine lv_tableIn (off := 60) (tgt := 107) hx hb dX12_about_47 (by rw [s_47_3]; decide) (by rw [s_47_3]; decide) (by rw [s_47_3]; decide) (by decide) ?_
          refine lv_aload_n hx hb dX12_about_107 rfl (lv_at hl 2 rfl) ?_
          refine va_get (D := (dC, dI)) (ci := 12) (v := .int 0) (C := RX12) (T := TX12) (N := 163) hx hb hts iwsPX12_about_in12 hown hK hP 0 rfl rfl 91 (by decide) (hts (.fieldLink RX12 786 "OptimaWorksModel" "modelRows" "I") (by decide +kernel)) (fun _ h9 => h9) (congrArg some h_modelRows) dX12_about_108 ?_
          refine W.widen (k := 0) (n := 0) (by decide +kernel) (by decide +kernel) ?_
          exact W.iret (v := 0) hx hb hr (fun t ht hW => ⟨⟨0, (mUp v 0 (.int 0)), rfl, by first | (left; (refine ⟨?_, ?_, ?_⟩ <;> (first | rfl | assumption | trivial | omega | (simp []; done) | (simp; omega)))) | (right; (refine ⟨?_, ?_, ?_⟩ <;> (first | rfl | assumption | trivial | omega | (simp []; done) | (simp; omega)))), by rw [ht]; exact hP.sub [0] rfl, va_K.moved hW.alike (hK.sub [] rfl), hD.sub [0] (by decide) rfl⟩, hS.F ht⟩) hS.2.2 dX12_about_111
        · have ts_47_3 : ¬ (wh).toInt = 3 := toI_neq s_47_3 rfl (by decide)
          by_cases s_47_4 : wh = 4
          · have ts_47_4 : (wh).toInt = 4 := toI_eq s_47_4 rfl (by decide)
            refine lv_tableIn (off := 65) (tgt := 112) hx hb dX12_about_47 (by rw [s_47_4]; decide) (by rw [s_47_4]; decide) (by rw [s_47_4]; decide) (by decide) ?_
            refine lv_aload_n hx hb dX12_about_112 rfl (lv_at hl 2 rfl) ?_
            refine va_get (D := (dC, dI)) (ci := 12) (v := .int 0) (C := RX12) (T := TX12) (N := 163) hx hb hts iwsPX12_about_in12 hown hK hP 0 rfl rfl 93 (by decide) (hts (.fieldLink RX12 805 "OptimaWorksModel" "modelGoals" "I") (by decide +kernel)) (fun _ h9 => h9) (congrArg some h_modelGoals) dX12_about_113 ?_
            refine W.widen (k := 0) (n := 0) (by decide +kernel) (by decide +kernel) ?_
            exact W.iret (v := 0) hx hb hr (fun t ht hW => ⟨⟨0, (mUp v 0 (.int 0)), rfl, by first | (left; (refine ⟨?_, ?_, ?_⟩ <;> (first | rfl | assumption | trivial | omega | (simp []; done) | (simp; omega)))) | (right; (refine ⟨?_, ?_, ?_⟩ <;> (first | rfl | assumption | trivial | omega | (simp []; done) | (simp; omega)))), by rw [ht]; exact hP.sub [0] rfl, va_K.moved hW.alike (hK.sub [] rfl), hD.sub [0] (by decide) rfl⟩, hS.F ht⟩) hS.2.2 dX12_about_116
          · have ts_47_4 : ¬ (wh).toInt = 4 := toI_neq s_47_4 rfl (by decide)
            by_cases s_47_5 : wh = 5
            · have ts_47_5 : (wh).toInt = 5 := toI_eq s_47_5 rfl (by decide)
              refine lv_tableIn (off := 70) (tgt := 117) hx hb dX12_about_47 (by rw [s_47_5]; decide) (by rw [s_47_5]; decide) (by rw [s_47_5]; decide) (by decide) ?_
              refine lv_aload_n hx hb dX12_about_117 rfl (lv_at hl 2 rfl) ?_
              refine va_get (D := (dC, dI)) (ci := 12) (v := .int 0) (C := RX12) (T := TX12) (N := 163) hx hb hts iwsPX12_about_in12 hown hK hP 0 rfl rfl 92 (by decide) (hts (.fieldLink RX12 802 "OptimaWorksModel" "differents" "I") (by decide +kernel)) (fun _ h9 => h9) (congrArg some h_differents) dX12_about_118 ?_
              refine W.widen (k := 0) (n := 0) (by decide +kernel) (by decide +kernel) ?_
              exact W.iret (v := 0) hx hb hr (fun t ht hW => ⟨⟨0, (mUp v 0 (.int 0)), rfl, by first | (left; (refine ⟨?_, ?_, ?_⟩ <;> (first | rfl | assumption | trivial | omega | (simp []; done) | (simp; omega)))) | (right; (refine ⟨?_, ?_, ?_⟩ <;> (first | rfl | assumption | trivial | omega | (simp []; done) | (simp; omega)))), by rw [ht]; exact hP.sub [0] rfl, va_K.moved hW.alike (hK.sub [] rfl), hD.sub [0] (by decide) rfl⟩, hS.F ht⟩) hS.2.2 dX12_about_121
            · have ts_47_5 : ¬ (wh).toInt = 5 := toI_neq s_47_5 rfl (by decide)
              by_cases s_47_6 : wh = 6
              · have ts_47_6 : (wh).toInt = 6 := toI_eq s_47_6 rfl (by decide)
                refine lv_tableIn (off := 75) (tgt := 122) hx hb dX12_about_47 (by rw [s_47_6]; decide) (by rw [s_47_6]; decide) (by rw [s_47_6]; decide) (by decide) ?_
                refine lv_aload_n hx hb dX12_about_122 rfl (lv_at hl 2 rfl) ?_
                refine va_get (D := (dC, dI)) (ci := 12) (v := .int 0) (C := RX12) (T := TX12) (N := 163) hx hb hts iwsPX12_about_in12 hown hK hP 0 rfl rfl 95 (by decide) (hts (.fieldLink RX12 808 "OptimaWorksModel" "isModel" "Z") (by decide +kernel)) (fun _ h9 => h9) (congrArg some h_isModel) dX12_about_123 ?_
                refine lv_if_eq (tgt := 136) hx hb dX12_about_126 (by decide) (fun _ => ?_) (fun c9 => absurd (by decide) c9)
                refine lv_iconst (v := 0) hx hb dX12_about_136 (by decide) ?_
                refine W.widen (k := 0) (n := 0) (by decide +kernel) (by decide +kernel) ?_
                exact W.iret (v := 0) hx hb hr (fun t ht hW => ⟨⟨0, (mUp v 0 (.int 0)), rfl, by first | (left; (refine ⟨?_, ?_, ?_⟩ <;> (first | rfl | assumption | trivial | omega | (simp []; done) | (simp; omega)))) | (right; (refine ⟨?_, ?_, ?_⟩ <;> (first | rfl | assumption | trivial | omega | (simp []; done) | (simp; omega)))), by rw [ht]; exact hP.sub [0] rfl, va_K.moved hW.alike (hK.sub [] rfl), hD.sub [0] (by decide) rfl⟩, hS.F ht⟩) hS.2.2 dX12_about_137
              · have ts_47_6 : ¬ (wh).toInt = 6 := toI_neq s_47_6 rfl (by decide)
                by_cases s_47_7 : wh = 7
                · have ts_47_7 : (wh).toInt = 7 := toI_eq s_47_7 rfl (by decide)
                  refine lv_tableIn (off := 91) (tgt := 138) hx hb dX12_about_47 (by rw [s_47_7]; decide) (by rw [s_47_7]; decide) (by rw [s_47_7]; decide) (by decide) ?_
                  refine lv_aload_n hx hb dX12_about_138 rfl (lv_at hl 2 rfl) ?_
                  refine va_get (D := (dC, dI)) (ci := 12) (v := .int 0) (C := RX12) (T := TX12) (N := 163) hx hb hts iwsPX12_about_in12 hown hK hP 0 rfl rfl 95 (by decide) (hts (.fieldLink RX12 808 "OptimaWorksModel" "isModel" "Z") (by decide +kernel)) (fun _ h9 => h9) (congrArg some h_isModel) dX12_about_139 ?_
                  refine lv_if_eq (tgt := 149) hx hb dX12_about_142 (by decide) (fun _ => ?_) (fun c9 => absurd (by decide) c9)
                  refine lv_iconst (v := 0) hx hb dX12_about_149 (by decide) ?_
                  refine W.widen (k := 0) (n := 0) (by decide +kernel) (by decide +kernel) ?_
                  exact W.iret (v := 0) hx hb hr (fun t ht hW => ⟨⟨0, (mUp v 0 (.int 0)), rfl, by first | (left; (refine ⟨?_, ?_, ?_⟩ <;> (first | rfl | assumption | trivial | omega | (simp []; done) | (simp; omega)))) | (right; (refine ⟨?_, ?_, ?_⟩ <;> (first | rfl | assumption | trivial | omega | (simp []; done) | (simp; omega)))), by rw [ht]; exact hP.sub [0] rfl, va_K.moved hW.alike (hK.sub [] rfl), hD.sub [0] (by decide) rfl⟩, hS.F ht⟩) hS.2.2 dX12_about_150
                · have ts_47_7 : ¬ (wh).toInt = 7 := toI_neq s_47_7 rfl (by decide)
                  refine lv_tableOut (tgt := 151) hx hb dX12_about_47 (by have := lv_neT s_47_0 (show Int32.toInt 0 = 0 by decide); have := lv_neT s_47_1 (show Int32.toInt 1 = 1 by decide); have := lv_neT s_47_2 (show Int32.toInt 2 = 2 by decide); have := lv_neT s_47_3 (show Int32.toInt 3 = 3 by decide); have := lv_neT s_47_4 (show Int32.toInt 4 = 4 by decide); have := lv_neT s_47_5 (show Int32.toInt 5 = 5 by decide); have := lv_neT s_47_6 (show Int32.toInt 6 = 6 by decide); have := lv_neT s_47_7 (show Int32.toInt 7 = 7 by decide); omega) (by decide) ?_
                  refine lv_iconst (v := (-1)) hx hb dX12_about_151 (by decide) ?_
                  refine W.widen (k := 0) (n := 0) (by decide +kernel) (by decide +kernel) ?_
                  exact W.iret (v := (-1)) hx hb hr (fun t ht hW => ⟨⟨(-1), (mUp v 0 (.int 0)), rfl, by first | (left; (refine ⟨?_, ?_, ?_⟩ <;> (first | rfl | assumption | trivial | omega | (simp []; done) | (simp; omega)))) | (right; (refine ⟨?_, ?_, ?_⟩ <;> (first | rfl | assumption | trivial | omega | (simp []; done) | (simp; omega)))), by rw [ht]; exact hP.sub [0] rfl, va_K.moved hW.alike (hK.sub [] rfl), hD.sub [0] (by decide) rfl⟩, hS.F ht⟩) hS.2.2 dX12_about_152
theorem dX12_row_0 : decode cX12_row 0 = .ok (.iload_n 1, 1) := by decide +kernel
theorem dX12_row_1 : decode cX12_row 1 = .ok (.ifCond .lt 49, 3) := by decide +kernel
theorem dX12_row_4 : decode cX12_row 4 = .ok (.iload_n 1, 1) := by decide +kernel
theorem dX12_row_5 : decode cX12_row 5 = .ok (.aload_n 0, 1) := by decide +kernel
theorem dX12_row_6 : decode cX12_row 6 = .ok (.getfield 786, 3) := by decide +kernel
theorem dX12_row_9 : decode cX12_row 9 = .ok (.if_icmp .ge 41, 3) := by decide +kernel
theorem dX12_row_50 : decode cX12_row 50 = .ok (.iconst 0, 1) := by decide +kernel
theorem dX12_row_51 : decode cX12_row 51 = .ok (.istore 4, 2) := by decide +kernel
theorem dX12_row_53 : decode cX12_row 53 = .ok (.aload_n 0, 1) := by decide +kernel
theorem dX12_row_54 : decode cX12_row 54 = .ok (.iload 4, 2) := by decide +kernel
theorem dX12_row_56 : decode cX12_row 56 = .ok (.ifCond .eq 7, 3) := by decide +kernel
theorem dX12_row_63 : decode cX12_row 63 = .ok (.iconst 1, 1) := by decide +kernel
theorem dX12_row_64 : decode cX12_row 64 = .ok (.putfield 348, 3) := by decide +kernel
theorem dX12_row_67 : decode cX12_row 67 = .ok (.aload_n 0, 1) := by decide +kernel
theorem dX12_row_68 : decode cX12_row 68 = .ok (.getfield 348, 3) := by decide +kernel
theorem dX12_row_71 : decode cX12_row 71 = .ok (.ifCond .le 5, 3) := by decide +kernel
theorem dX12_row_74 : decode cX12_row 74 = .ok (.iconst 0, 1) := by decide +kernel
theorem dX12_row_75 : decode cX12_row 75 = .ok (.ireturn, 1) := by decide +kernel
def wsPX12_row : List Cond := .code yX12_row cX12_row 5 (some .int) :: ([.fieldLink RX12 348 "OptimaWorksModel" "thrown" "I", .fieldLink RX12 786 "OptimaWorksModel" "modelRows" "I"] ++ wsX120)
theorem iwsPX12_row_in12 : ∀ w ∈ wsX120, w ∈ wsPX12_row := fun _ h => List.mem_cons_of_mem _ (List.mem_append_right _ h)
set_option maxHeartbeats 4000000 in
set_option maxRecDepth 100000 in
/-- row(r, w, k) -/
theorem p_X12_row (l : Launch) (dC : Nat → ClassId) (dI : Nat → Nat → Nat) (h0 : Nat) (v : Nat → Value) (h_modelRows : v 91 = .int 0) (qr : Int32) (qw : Int32) (qk : Int32) (sz : Nat) : Met l yX12_row wsPX12_row ({ frames := 0, cells := 0, slots := 0, locals := 0 }) (va_Pc [.ref h0, .int qr, .int qw, .int qk] (fun U => U.heap.size = sz ∧ va_P (dC, dI) vwCl [(h0, .inr (12, fM v))] U.heap ∧ va_K (dC, dI) vwCl [] U ∧ va_D (fun _ => True) [(h0, .inr (12, fM v))])) (va_Qi (fun (r : Int32) (u : Nat → Value) => r = 0 ∧ (u 0 = .int 1)) (fun (u : Nat → Value) t => va_P (dC, dI) vwCl [(h0, .inr (12, fM u))] t.heap ∧ va_K (dC, dI) vwCl [] t ∧ va_D (va_A [(h0, .inr (12, fM v))] sz) [(h0, .inr (12, fM u))]) (va_A [(h0, .inr (12, fM v))] sz)) 0 0 (va_A [(h0, .inr (12, fM v))] sz) := by
  refine Met.ofW (cc := cX12_row) (maxL := 5) (ret := (some .int)) (by decide) rfl ?_
  intro p e s m args below meth c s₁ B hml hv
  obtain ⟨rfl, hsz, hP, hK, hD0⟩ := hv
  have hx := B.exec
  have hb := B.bytes
  have hr := B.returns
  have hts := atoms_spec (ws := wsPX12_row) B.pre
  have hown : s.vm.findClass RX12 = some m.cls := findClass_of_methodNamed B.named
  have hlocks := B.notSynchronized
  subst hsz
  have hD := hD0.self (sz := s.heap.size)
  generalize hAe : va_A [(h0, .inr (12, fM v))] s.heap.size = A at hD ⊢
  have hA : ∀ q : Nat, s.heap.size ≤ q → A q := fun q h => by rw [← hAe]; exact Or.inr h
  have hS : va_S A s.heap s.heap [] := va_S.rf
  have hP : va_P (dC, dI) vwCl [(h0, .inr (12, fM v))] s.heap := hP
  have hl := lv_entry ([.ref h0, .int qr, .int qw, .int qk]) (n := 5) (Nat.le_of_ble_eq_true rfl)
  rw [lg_entry_eq]
  generalize (lg_sl ([.ref h0, .int qr, .int qw, .int qk]) ++ List.replicate (5 - (lg_sl ([.ref h0, .int qr, .int qw, .int qk])).length) Slot.unset).toArray = ls at hl ⊢
  have hl : lv_has ls 5 [(0, .ref h0), (1, .int qr), (2, .int qw), (3, .int qk)] := hl
  refine lv_iload_n hx hb dX12_row_0 rfl (lv_at hl 1 rfl) ?_
  refine lv_if_lt (tgt := 50) hx hb dX12_row_1 (by decide) (fun c_1 => ?_) (fun c_1 => ?_)
  · have t_1 : (qr).toInt < 0 := toI_lt c_1 rfl (by decide)
    refine lv_iconst (v := 0) hx hb dX12_row_50 (by decide) ?_
    refine lv_istore (lv' := [(4, .int 0), (0, .ref h0), (1, .int qr), (2, .int qw), (3, .int qk)]) hx hb dX12_row_51 hl (by decide) rfl (fun ls hl => ?_)
    refine lv_aload_n hx hb dX12_row_53 rfl (lv_at hl 1 rfl) ?_
    refine lv_iload hx hb dX12_row_54 (lv_at hl 0 rfl) ?_
    refine lv_if_eq (tgt := 63) hx hb dX12_row_56 (by decide) (fun _ => ?_) (fun c9 => absurd (by decide) c9)
    refine lv_iconst (v := 1) hx hb dX12_row_63 (by decide) ?_
    refine va_put (D := (dC, dI)) (ci := 12) (v := .int 1) (ty := .int) (C := RX12) (T := TX12) (N := 163) hx hb hts iwsPX12_row_in12 tyX12 tyX12_ok nmX12 hown hK hP hD hS 0 rfl rfl 0 (by decide) (hts (.fieldLink RX12 348 "OptimaWorksModel" "thrown" "I") (by decide +kernel)) (fun _ h9 => h9) rfl (by decide +kernel) rfl rfl (Nat.le_of_ble_eq_true rfl) dX12_row_64 (fun H locs hP hD hS => ?_)
    have hP : va_P (dC, dI) vwCl [(h0, .inr (12, fM (mUp v 0 (.int 1))))] H := hP
    have hD : va_D A [(h0, .inr (12, fM (mUp v 0 (.int 1))))] := hD
    refine lv_aload_n hx hb dX12_row_67 rfl (lv_at hl 1 rfl) ?_
    refine va_get (D := (dC, dI)) (ci := 12) (v := .int 1) (C := RX12) (T := TX12) (N := 163) hx hb hts iwsPX12_row_in12 hown hK hP 0 rfl rfl 0 (by decide) (hts (.fieldLink RX12 348 "OptimaWorksModel" "thrown" "I") (by decide +kernel)) (fun _ h9 => h9) rfl dX12_row_68 ?_
    refine lv_if_le (tgt := 76) hx hb dX12_row_71 (by decide) (fun c9 => absurd c9 (by decide)) (fun _ => ?_)
    refine lv_iconst (v := 0) hx hb dX12_row_74 (by decide) ?_
    refine W.widen (k := 0) (n := 0) (by decide +kernel) (by decide +kernel) ?_
    exact W.iret (v := 0) hx hb hr (fun t ht hW => ⟨⟨0, (mUp v 0 (.int 1)), rfl, by (refine ⟨?_, ?_⟩ <;> (first | rfl | assumption | trivial | omega | (simp [c_1]; done) | (simp; omega))), by rw [ht]; exact hP.sub [0] rfl, va_K.moved hW.alike (hK.sub [] rfl), hD.sub [0] (by decide) rfl⟩, hS.F ht⟩) hS.2.2 dX12_row_75
  · have t_1 : ¬ (qr).toInt < 0 := toI_nlt c_1 rfl (by decide)
    refine lv_iload_n hx hb dX12_row_4 rfl (lv_at hl 1 rfl) ?_
    refine lv_aload_n hx hb dX12_row_5 rfl (lv_at hl 0 rfl) ?_
    refine va_get (D := (dC, dI)) (ci := 12) (v := .int 0) (C := RX12) (T := TX12) (N := 163) hx hb hts iwsPX12_row_in12 hown hK hP 0 rfl rfl 91 (by decide) (hts (.fieldLink RX12 786 "OptimaWorksModel" "modelRows" "I") (by decide +kernel)) (fun _ h9 => h9) (congrArg some h_modelRows) dX12_row_6 ?_
    refine lv_icmp_ge (tgt := 50) hx hb dX12_row_9 (by decide) (fun c_9 => ?_) (fun c9 => False.elim (by have t9 : ¬ (qr).toInt ≥ 0 := toI_nge c9 rfl (by decide); omega))
    have t_9 : (qr).toInt ≥ 0 := toI_ge c_9 rfl (by decide)
    refine lv_iconst (v := 0) hx hb dX12_row_50 (by decide) ?_
    refine lv_istore (lv' := [(4, .int 0), (0, .ref h0), (1, .int qr), (2, .int qw), (3, .int qk)]) hx hb dX12_row_51 hl (by decide) rfl (fun ls hl => ?_)
    refine lv_aload_n hx hb dX12_row_53 rfl (lv_at hl 1 rfl) ?_
    refine lv_iload hx hb dX12_row_54 (lv_at hl 0 rfl) ?_
    refine lv_if_eq (tgt := 63) hx hb dX12_row_56 (by decide) (fun _ => ?_) (fun c9 => absurd (by decide) c9)
    refine lv_iconst (v := 1) hx hb dX12_row_63 (by decide) ?_
    refine va_put (D := (dC, dI)) (ci := 12) (v := .int 1) (ty := .int) (C := RX12) (T := TX12) (N := 163) hx hb hts iwsPX12_row_in12 tyX12 tyX12_ok nmX12 hown hK hP hD hS 0 rfl rfl 0 (by decide) (hts (.fieldLink RX12 348 "OptimaWorksModel" "thrown" "I") (by decide +kernel)) (fun _ h9 => h9) rfl (by decide +kernel) rfl rfl (Nat.le_of_ble_eq_true rfl) dX12_row_64 (fun H locs hP hD hS => ?_)
    have hP : va_P (dC, dI) vwCl [(h0, .inr (12, fM (mUp v 0 (.int 1))))] H := hP
    have hD : va_D A [(h0, .inr (12, fM (mUp v 0 (.int 1))))] := hD
    refine lv_aload_n hx hb dX12_row_67 rfl (lv_at hl 1 rfl) ?_
    refine va_get (D := (dC, dI)) (ci := 12) (v := .int 1) (C := RX12) (T := TX12) (N := 163) hx hb hts iwsPX12_row_in12 hown hK hP 0 rfl rfl 0 (by decide) (hts (.fieldLink RX12 348 "OptimaWorksModel" "thrown" "I") (by decide +kernel)) (fun _ h9 => h9) rfl dX12_row_68 ?_
    refine lv_if_le (tgt := 76) hx hb dX12_row_71 (by decide) (fun c9 => absurd c9 (by decide)) (fun _ => ?_)
    refine lv_iconst (v := 0) hx hb dX12_row_74 (by decide) ?_
    refine W.widen (k := 0) (n := 0) (by decide +kernel) (by decide +kernel) ?_
    exact W.iret (v := 0) hx hb hr (fun t ht hW => ⟨⟨0, (mUp v 0 (.int 1)), rfl, by (refine ⟨?_, ?_⟩ <;> (first | rfl | assumption | trivial | omega | (simp [c_1]; done) | (simp; omega))), by rw [ht]; exact hP.sub [0] rfl, va_K.moved hW.alike (hK.sub [] rfl), hD.sub [0] (by decide) rfl⟩, hS.F ht⟩) hS.2.2 dX12_row_75
theorem dX12_goal_0 : decode cX12_goal 0 = .ok (.aload_n 0, 1) := by decide +kernel
theorem dX12_goal_1 : decode cX12_goal 1 = .ok (.iload_n 1, 1) := by decide +kernel
theorem dX12_goal_2 : decode cX12_goal 2 = .ok (.ifCond .lt 29, 3) := by decide +kernel
theorem dX12_goal_5 : decode cX12_goal 5 = .ok (.iload_n 1, 1) := by decide +kernel
theorem dX12_goal_6 : decode cX12_goal 6 = .ok (.aload_n 0, 1) := by decide +kernel
theorem dX12_goal_7 : decode cX12_goal 7 = .ok (.getfield 805, 3) := by decide +kernel
theorem dX12_goal_10 : decode cX12_goal 10 = .ok (.if_icmp .ge 21, 3) := by decide +kernel
theorem dX12_goal_31 : decode cX12_goal 31 = .ok (.iconst 1, 1) := by decide +kernel
theorem dX12_goal_32 : decode cX12_goal 32 = .ok (.putfield 348, 3) := by decide +kernel
theorem dX12_goal_35 : decode cX12_goal 35 = .ok (.aload_n 0, 1) := by decide +kernel
theorem dX12_goal_36 : decode cX12_goal 36 = .ok (.getfield 348, 3) := by decide +kernel
theorem dX12_goal_39 : decode cX12_goal 39 = .ok (.ifCond .le 5, 3) := by decide +kernel
theorem dX12_goal_42 : decode cX12_goal 42 = .ok (.iconst 0, 1) := by decide +kernel
theorem dX12_goal_43 : decode cX12_goal 43 = .ok (.ireturn, 1) := by decide +kernel
def wsPX12_goal : List Cond := .code yX12_goal cX12_goal 4 (some .int) :: ([.fieldLink RX12 348 "OptimaWorksModel" "thrown" "I", .fieldLink RX12 805 "OptimaWorksModel" "modelGoals" "I"] ++ wsX120)
theorem iwsPX12_goal_in12 : ∀ w ∈ wsX120, w ∈ wsPX12_goal := fun _ h => List.mem_cons_of_mem _ (List.mem_append_right _ h)
set_option maxHeartbeats 4000000 in
set_option maxRecDepth 100000 in
/-- goal(g, k, under) -/
theorem p_X12_goal (l : Launch) (dC : Nat → ClassId) (dI : Nat → Nat → Nat) (h0 : Nat) (v : Nat → Value) (h_modelGoals : v 93 = .int 0) (qg : Int32) (qk : Int32) (qu : Int32) (sz : Nat) : Met l yX12_goal wsPX12_goal ({ frames := 0, cells := 0, slots := 0, locals := 0 }) (va_Pc [.ref h0, .int qg, .int qk, .int qu] (fun U => U.heap.size = sz ∧ va_P (dC, dI) vwCl [(h0, .inr (12, fM v))] U.heap ∧ va_K (dC, dI) vwCl [] U ∧ va_D (fun _ => True) [(h0, .inr (12, fM v))])) (va_Qi (fun (r : Int32) (u : Nat → Value) => r = 0 ∧ (u 0 = .int 1)) (fun (u : Nat → Value) t => va_P (dC, dI) vwCl [(h0, .inr (12, fM u))] t.heap ∧ va_K (dC, dI) vwCl [] t ∧ va_D (va_A [(h0, .inr (12, fM v))] sz) [(h0, .inr (12, fM u))]) (va_A [(h0, .inr (12, fM v))] sz)) 0 0 (va_A [(h0, .inr (12, fM v))] sz) := by
  refine Met.ofW (cc := cX12_goal) (maxL := 4) (ret := (some .int)) (by decide) rfl ?_
  intro p e s m args below meth c s₁ B hml hv
  obtain ⟨rfl, hsz, hP, hK, hD0⟩ := hv
  have hx := B.exec
  have hb := B.bytes
  have hr := B.returns
  have hts := atoms_spec (ws := wsPX12_goal) B.pre
  have hown : s.vm.findClass RX12 = some m.cls := findClass_of_methodNamed B.named
  have hlocks := B.notSynchronized
  subst hsz
  have hD := hD0.self (sz := s.heap.size)
  generalize hAe : va_A [(h0, .inr (12, fM v))] s.heap.size = A at hD ⊢
  have hA : ∀ q : Nat, s.heap.size ≤ q → A q := fun q h => by rw [← hAe]; exact Or.inr h
  have hS : va_S A s.heap s.heap [] := va_S.rf
  have hP : va_P (dC, dI) vwCl [(h0, .inr (12, fM v))] s.heap := hP
  have hl := lv_entry ([.ref h0, .int qg, .int qk, .int qu]) (n := 4) (Nat.le_of_ble_eq_true rfl)
  rw [lg_entry_eq]
  generalize (lg_sl ([.ref h0, .int qg, .int qk, .int qu]) ++ List.replicate (4 - (lg_sl ([.ref h0, .int qg, .int qk, .int qu])).length) Slot.unset).toArray = ls at hl ⊢
  have hl : lv_has ls 4 [(0, .ref h0), (1, .int qg), (2, .int qk), (3, .int qu)] := hl
  refine lv_aload_n hx hb dX12_goal_0 rfl (lv_at hl 0 rfl) ?_
  refine lv_iload_n hx hb dX12_goal_1 rfl (lv_at hl 1 rfl) ?_
  refine lv_if_lt (tgt := 31) hx hb dX12_goal_2 (by decide) (fun c_2 => ?_) (fun c_2 => ?_)
  · have t_2 : (qg).toInt < 0 := toI_lt c_2 rfl (by decide)
    refine lv_iconst (v := 1) hx hb dX12_goal_31 (by decide) ?_
    refine va_put (D := (dC, dI)) (ci := 12) (v := .int 1) (ty := .int) (C := RX12) (T := TX12) (N := 163) hx hb hts iwsPX12_goal_in12 tyX12 tyX12_ok nmX12 hown hK hP hD hS 0 rfl rfl 0 (by decide) (hts (.fieldLink RX12 348 "OptimaWorksModel" "thrown" "I") (by decide +kernel)) (fun _ h9 => h9) rfl (by decide +kernel) rfl rfl (Nat.le_of_ble_eq_true rfl) dX12_goal_32 (fun H locs hP hD hS => ?_)
    have hP : va_P (dC, dI) vwCl [(h0, .inr (12, fM (mUp v 0 (.int 1))))] H := hP
    have hD : va_D A [(h0, .inr (12, fM (mUp v 0 (.int 1))))] := hD
    refine lv_aload_n hx hb dX12_goal_35 rfl (lv_at hl 0 rfl) ?_
    refine va_get (D := (dC, dI)) (ci := 12) (v := .int 1) (C := RX12) (T := TX12) (N := 163) hx hb hts iwsPX12_goal_in12 hown hK hP 0 rfl rfl 0 (by decide) (hts (.fieldLink RX12 348 "OptimaWorksModel" "thrown" "I") (by decide +kernel)) (fun _ h9 => h9) rfl dX12_goal_36 ?_
    refine lv_if_le (tgt := 44) hx hb dX12_goal_39 (by decide) (fun c9 => absurd c9 (by decide)) (fun _ => ?_)
    refine lv_iconst (v := 0) hx hb dX12_goal_42 (by decide) ?_
    refine W.widen (k := 0) (n := 0) (by decide +kernel) (by decide +kernel) ?_
    exact W.iret (v := 0) hx hb hr (fun t ht hW => ⟨⟨0, (mUp v 0 (.int 1)), rfl, by (refine ⟨?_, ?_⟩ <;> (first | rfl | assumption | trivial | omega | (simp [c_2]; done) | (simp; omega))), by rw [ht]; exact hP.sub [0] rfl, va_K.moved hW.alike (hK.sub [] rfl), hD.sub [0] (by decide) rfl⟩, hS.F ht⟩) hS.2.2 dX12_goal_43
  · have t_2 : ¬ (qg).toInt < 0 := toI_nlt c_2 rfl (by decide)
    refine lv_iload_n hx hb dX12_goal_5 rfl (lv_at hl 1 rfl) ?_
    refine lv_aload_n hx hb dX12_goal_6 rfl (lv_at hl 0 rfl) ?_
    refine va_get (D := (dC, dI)) (ci := 12) (v := .int 0) (C := RX12) (T := TX12) (N := 163) hx hb hts iwsPX12_goal_in12 hown hK hP 0 rfl rfl 93 (by decide) (hts (.fieldLink RX12 805 "OptimaWorksModel" "modelGoals" "I") (by decide +kernel)) (fun _ h9 => h9) (congrArg some h_modelGoals) dX12_goal_7 ?_
    refine lv_icmp_ge (tgt := 31) hx hb dX12_goal_10 (by decide) (fun c_10 => ?_) (fun c9 => False.elim (by have t9 : ¬ (qg).toInt ≥ 0 := toI_nge c9 rfl (by decide); omega))
    have t_10 : (qg).toInt ≥ 0 := toI_ge c_10 rfl (by decide)
    refine lv_iconst (v := 1) hx hb dX12_goal_31 (by decide) ?_
    refine va_put (D := (dC, dI)) (ci := 12) (v := .int 1) (ty := .int) (C := RX12) (T := TX12) (N := 163) hx hb hts iwsPX12_goal_in12 tyX12 tyX12_ok nmX12 hown hK hP hD hS 0 rfl rfl 0 (by decide) (hts (.fieldLink RX12 348 "OptimaWorksModel" "thrown" "I") (by decide +kernel)) (fun _ h9 => h9) rfl (by decide +kernel) rfl rfl (Nat.le_of_ble_eq_true rfl) dX12_goal_32 (fun H locs hP hD hS => ?_)
    have hP : va_P (dC, dI) vwCl [(h0, .inr (12, fM (mUp v 0 (.int 1))))] H := hP
    have hD : va_D A [(h0, .inr (12, fM (mUp v 0 (.int 1))))] := hD
    refine lv_aload_n hx hb dX12_goal_35 rfl (lv_at hl 0 rfl) ?_
    refine va_get (D := (dC, dI)) (ci := 12) (v := .int 1) (C := RX12) (T := TX12) (N := 163) hx hb hts iwsPX12_goal_in12 hown hK hP 0 rfl rfl 0 (by decide) (hts (.fieldLink RX12 348 "OptimaWorksModel" "thrown" "I") (by decide +kernel)) (fun _ h9 => h9) rfl dX12_goal_36 ?_
    refine lv_if_le (tgt := 44) hx hb dX12_goal_39 (by decide) (fun c9 => absurd c9 (by decide)) (fun _ => ?_)
    refine lv_iconst (v := 0) hx hb dX12_goal_42 (by decide) ?_
    refine W.widen (k := 0) (n := 0) (by decide +kernel) (by decide +kernel) ?_
    exact W.iret (v := 0) hx hb hr (fun t ht hW => ⟨⟨0, (mUp v 0 (.int 1)), rfl, by (refine ⟨?_, ?_⟩ <;> (first | rfl | assumption | trivial | omega | (simp [c_2]; done) | (simp; omega))), by rw [ht]; exact hP.sub [0] rfl, va_K.moved hW.alike (hK.sub [] rfl), hD.sub [0] (by decide) rfl⟩, hS.F ht⟩) hS.2.2 dX12_goal_43
theorem dX12_canTell_0 : decode cX12_canTell 0 = .ok (.aload_n 0, 1) := by decide +kernel
theorem dX12_canTell_1 : decode cX12_canTell 1 = .ok (.aload_n 0, 1) := by decide +kernel
theorem dX12_canTell_2 : decode cX12_canTell 2 = .ok (.getfield 808, 3) := by decide +kernel
theorem dX12_canTell_5 : decode cX12_canTell 5 = .ok (.ifCond .eq 10, 3) := by decide +kernel
theorem dX12_canTell_15 : decode cX12_canTell 15 = .ok (.iconst 1, 1) := by decide +kernel
theorem dX12_canTell_16 : decode cX12_canTell 16 = .ok (.goto 17, 3) := by decide +kernel
theorem dX12_canTell_33 : decode cX12_canTell 33 = .ok (.putfield 348, 3) := by decide +kernel
theorem dX12_canTell_36 : decode cX12_canTell 36 = .ok (.aload_n 0, 1) := by decide +kernel
theorem dX12_canTell_37 : decode cX12_canTell 37 = .ok (.getfield 348, 3) := by decide +kernel
theorem dX12_canTell_40 : decode cX12_canTell 40 = .ok (.ifCond .ne 7, 3) := by decide +kernel
theorem dX12_canTell_47 : decode cX12_canTell 47 = .ok (.iconst 0, 1) := by decide +kernel
theorem dX12_canTell_48 : decode cX12_canTell 48 = .ok (.ireturn, 1) := by decide +kernel
def wsPX12_canTell : List Cond := .code yX12_canTell cX12_canTell 3 (some .boolean) :: ([.fieldLink RX12 808 "OptimaWorksModel" "isModel" "Z", .fieldLink RX12 348 "OptimaWorksModel" "thrown" "I"] ++ wsX120)
theorem iwsPX12_canTell_in12 : ∀ w ∈ wsX120, w ∈ wsPX12_canTell := fun _ h => List.mem_cons_of_mem _ (List.mem_append_right _ h)
set_option maxHeartbeats 4000000 in
set_option maxRecDepth 100000 in
/-- canTell(k, most) -/
theorem p_X12_canTell (l : Launch) (dC : Nat → ClassId) (dI : Nat → Nat → Nat) (h0 : Nat) (v : Nat → Value) (h_isModel : v 95 = .int 0) (qk : Int32) (qm : Int32) (sz : Nat) : Met l yX12_canTell wsPX12_canTell ({ frames := 0, cells := 0, slots := 0, locals := 0 }) (va_Pc [.ref h0, .int qk, .int qm] (fun U => U.heap.size = sz ∧ va_P (dC, dI) vwCl [(h0, .inr (12, fM v))] U.heap ∧ va_K (dC, dI) vwCl [] U ∧ va_D (fun _ => True) [(h0, .inr (12, fM v))])) (va_Qi (fun (r : Int32) (u : Nat → Value) => r = 0 ∧ (u 0 = .int 1)) (fun (u : Nat → Value) t => va_P (dC, dI) vwCl [(h0, .inr (12, fM u))] t.heap ∧ va_K (dC, dI) vwCl [] t ∧ va_D (va_A [(h0, .inr (12, fM v))] sz) [(h0, .inr (12, fM u))]) (va_A [(h0, .inr (12, fM v))] sz)) 0 0 (va_A [(h0, .inr (12, fM v))] sz) := by
  refine Met.ofW (cc := cX12_canTell) (maxL := 3) (ret := (some .boolean)) (by decide) rfl ?_
  intro p e s m args below meth c s₁ B hml hv
  obtain ⟨rfl, hsz, hP, hK, hD0⟩ := hv
  have hx := B.exec
  have hb := B.bytes
  have hr := B.returns
  have hts := atoms_spec (ws := wsPX12_canTell) B.pre
  have hown : s.vm.findClass RX12 = some m.cls := findClass_of_methodNamed B.named
  have hlocks := B.notSynchronized
  subst hsz
  have hD := hD0.self (sz := s.heap.size)
  generalize hAe : va_A [(h0, .inr (12, fM v))] s.heap.size = A at hD ⊢
  have hA : ∀ q : Nat, s.heap.size ≤ q → A q := fun q h => by rw [← hAe]; exact Or.inr h
  have hS : va_S A s.heap s.heap [] := va_S.rf
  have hP : va_P (dC, dI) vwCl [(h0, .inr (12, fM v))] s.heap := hP
  have hl := lv_entry ([.ref h0, .int qk, .int qm]) (n := 3) (Nat.le_of_ble_eq_true rfl)
  rw [lg_entry_eq]
  generalize (lg_sl ([.ref h0, .int qk, .int qm]) ++ List.replicate (3 - (lg_sl ([.ref h0, .int qk, .int qm])).length) Slot.unset).toArray = ls at hl ⊢
  have hl : lv_has ls 3 [(0, .ref h0), (1, .int qk), (2, .int qm)] := hl
  refine lv_aload_n hx hb dX12_canTell_0 rfl (lv_at hl 0 rfl) ?_
  refine lv_aload_n hx hb dX12_canTell_1 rfl (lv_at hl 0 rfl) ?_
  refine va_get (D := (dC, dI)) (ci := 12) (v := .int 0) (C := RX12) (T := TX12) (N := 163) hx hb hts iwsPX12_canTell_in12 hown hK hP 0 rfl rfl 95 (by decide) (hts (.fieldLink RX12 808 "OptimaWorksModel" "isModel" "Z") (by decide +kernel)) (fun _ h9 => h9) (congrArg some h_isModel) dX12_canTell_2 ?_
  refine lv_if_eq (tgt := 15) hx hb dX12_canTell_5 (by decide) (fun _ => ?_) (fun c9 => absurd (by decide) c9)
  refine lv_iconst (v := 1) hx hb dX12_canTell_15 (by decide) ?_
  refine lv_goto (tgt := 33) hx hb dX12_canTell_16 (by decide) ?_
  refine va_put (D := (dC, dI)) (ci := 12) (v := .int 1) (ty := .int) (C := RX12) (T := TX12) (N := 163) hx hb hts iwsPX12_canTell_in12 tyX12 tyX12_ok nmX12 hown hK hP hD hS 0 rfl rfl 0 (by decide) (hts (.fieldLink RX12 348 "OptimaWorksModel" "thrown" "I") (by decide +kernel)) (fun _ h9 => h9) rfl (by decide +kernel) rfl rfl (Nat.le_of_ble_eq_true rfl) dX12_canTell_33 (fun H locs hP hD hS => ?_)
  have hP : va_P (dC, dI) vwCl [(h0, .inr (12, fM (mUp v 0 (.int 1))))] H := hP
  have hD : va_D A [(h0, .inr (12, fM (mUp v 0 (.int 1))))] := hD
  refine lv_aload_n hx hb dX12_canTell_36 rfl (lv_at hl 0 rfl) ?_
  refine va_get (D := (dC, dI)) (ci := 12) (v := .int 1) (C := RX12) (T := TX12) (N := 163) hx hb hts iwsPX12_canTell_in12 hown hK hP 0 rfl rfl 0 (by decide) (hts (.fieldLink RX12 348 "OptimaWorksModel" "thrown" "I") (by decide +kernel)) (fun _ h9 => h9) rfl dX12_canTell_37 ?_
  refine lv_if_ne (tgt := 47) hx hb dX12_canTell_40 (by decide) (fun _ => ?_) (fun c9 => absurd c9 (by decide))
  refine lv_iconst (v := 0) hx hb dX12_canTell_47 (by decide) ?_
  refine W.widen (k := 0) (n := 0) (by decide +kernel) (by decide +kernel) ?_
  exact W.zret (v := 0) hx hb hr rfl (fun t ht hW => ⟨⟨0, (mUp v 0 (.int 1)), rfl, by (refine ⟨?_, ?_⟩ <;> (first | rfl | assumption | trivial | omega | (simp []; done) | (simp; omega))), by rw [ht]; exact hP.sub [0] rfl, va_K.moved hW.alike (hK.sub [] rfl), hD.sub [0] (by decide) rfl⟩, hS.F ht⟩) hS.2.2 dX12_canTell_48
theorem dX12_value_0 : decode cX12_value 0 = .ok (.aload_n 0, 1) := by decide +kernel
theorem dX12_value_1 : decode cX12_value 1 = .ok (.iload_n 1, 1) := by decide +kernel
theorem dX12_value_2 : decode cX12_value 2 = .ok (.aload_n 0, 1) := by decide +kernel
theorem dX12_value_3 : decode cX12_value 3 = .ok (.getfield 774, 3) := by decide +kernel
theorem dX12_value_6 : decode cX12_value 6 = .ok (.invokevirtual 944, 3) := by decide +kernel
theorem dX12_value_9 : decode cX12_value 9 = .ok (.ifCond .ne 5, 3) := by decide +kernel
theorem dX12_value_12 : decode cX12_value 12 = .ok (.iconst 0, 1) := by decide +kernel
theorem dX12_value_13 : decode cX12_value 13 = .ok (.ireturn, 1) := by decide +kernel
def wsPX12_value : List Cond := .code yX12_value cX12_value 2 (some .int) :: ([.fieldLink RX12 774 "OptimaWorksModel" "variables" "I"] ++ wsX120 ++ (wsV RX12 944 RX12 yX12_canTell wsPX12_canTell))
theorem iwsPX12_value_in12 : ∀ w ∈ wsX120, w ∈ wsPX12_value := fun _ h => List.mem_cons_of_mem _ (List.mem_append_left _ (List.mem_append_right _ h))
theorem gwsPX12_value_0 : GoodIn wsPX12_value (wsV RX12 944 RX12 yX12_canTell wsPX12_canTell) := goodIn_sub (fun _ h => List.mem_cons_of_mem _ (List.mem_append_right _ h)) (by decide +kernel)
set_option maxHeartbeats 4000000 in
set_option maxRecDepth 100000 in
/-- value(k) -/
theorem p_X12_value (l : Launch) (dC : Nat → ClassId) (dI : Nat → Nat → Nat) (h0 : Nat) (v : Nat → Value) (h_isModel : v 95 = .int 0) (h_variables : v 90 = .int 0) (qk : Int32) (sz : Nat) : Met l yX12_value wsPX12_value ({ frames := 1, cells := 0, slots := 0, locals := 22 }) (va_Pc [.ref h0, .int qk] (fun U => U.heap.size = sz ∧ va_P (dC, dI) vwCl [(h0, .inr (12, fM v))] U.heap ∧ va_K (dC, dI) vwCl [] U ∧ va_D (fun _ => True) [(h0, .inr (12, fM v))])) (va_Qi (fun (r : Int32) (u : Nat → Value) => r = 0 ∧ (u 0 = .int 1)) (fun (u : Nat → Value) t => va_P (dC, dI) vwCl [(h0, .inr (12, fM u))] t.heap ∧ va_K (dC, dI) vwCl [] t ∧ va_D (va_A [(h0, .inr (12, fM v))] sz) [(h0, .inr (12, fM u))]) (va_A [(h0, .inr (12, fM v))] sz)) 0 0 (va_A [(h0, .inr (12, fM v))] sz) := by
  refine Met.ofW (cc := cX12_value) (maxL := 2) (ret := (some .int)) (by decide) rfl ?_
  intro p e s m args below meth c s₁ B hml hv
  obtain ⟨rfl, hsz, hP, hK, hD0⟩ := hv
  have hx := B.exec
  have hb := B.bytes
  have hr := B.returns
  have hts := atoms_spec (ws := wsPX12_value) B.pre
  have hown : s.vm.findClass RX12 = some m.cls := findClass_of_methodNamed B.named
  have hlocks := B.notSynchronized
  subst hsz
  have hD := hD0.self (sz := s.heap.size)
  generalize hAe : va_A [(h0, .inr (12, fM v))] s.heap.size = A at hD ⊢
  have hA : ∀ q : Nat, s.heap.size ≤ q → A q := fun q h => by rw [← hAe]; exact Or.inr h
  have hS : va_S A s.heap s.heap [] := va_S.rf
  have hP : va_P (dC, dI) vwCl [(h0, .inr (12, fM v))] s.heap := hP
  have hl := lv_entry ([.ref h0, .int qk]) (n := 2) (Nat.le_of_ble_eq_true rfl)
  rw [lg_entry_eq]
  generalize (lg_sl ([.ref h0, .int qk]) ++ List.replicate (2 - (lg_sl ([.ref h0, .int qk])).length) Slot.unset).toArray = ls at hl ⊢
  have hl : lv_has ls 2 [(0, .ref h0), (1, .int qk)] := hl
  refine lv_aload_n hx hb dX12_value_0 rfl (lv_at hl 0 rfl) ?_
  refine lv_iload_n hx hb dX12_value_1 rfl (lv_at hl 1 rfl) ?_
  refine lv_aload_n hx hb dX12_value_2 rfl (lv_at hl 0 rfl) ?_
  refine va_get (D := (dC, dI)) (ci := 12) (v := .int 0) (C := RX12) (T := TX12) (N := 163) hx hb hts iwsPX12_value_in12 hown hK hP 0 rfl rfl 90 (by decide) (hts (.fieldLink RX12 774 "OptimaWorksModel" "variables" "I") (by decide +kernel)) (fun _ h9 => h9) (congrArg some h_variables) dX12_value_3 ?_
  have hPc := hP.sub (ws' := [(h0, .inr (12, fM v))]) [0] rfl
  have hDc := hD.sub (ws' := [(h0, .inr (12, fM v))]) [0] (by decide) rfl
  have hKc := hK.sub (tys' := []) [] rfl
  have hFc := va_free (wc := [(h0, .inr (12, fM v))]) hD hS hA [0] rfl
  refine va_calli (va_runV (As := [.int qk, .int 0]) (rest := []) ⟨hx, hb, hml, hown, hts⟩ (p_X12_canTell l dC dI h0 v (h_isModel) qk 0 s.heap.size) (cwV 2 hts gwsPX12_value_0 rfl rfl rfl (by decide +kernel) ⟨by decide +kernel, by decide +kernel⟩) ⟨fun a U g mk q => by obtain ⟨q0, q1, qP, qK, qD⟩ := q; exact ⟨q0, q1, qP, va_K.moved (u := U) (U := U.calling g mk a) (Vm.Alike.refl U.vm) qK, qD⟩, va_recv hKc hPc (ci := 12) (q0 := 0) rfl rfl, fun U hU9 hW => ⟨rfl, by rw [hU9], by rw [hU9]; exact hPc, va_K.moved hW.alike hKc, hDc.weaken (fun _ _ _ _ => trivial)⟩⟩ rfl rfl hl.1 rfl (lv_room (Nat.le_of_ble_eq_true rfl)) dX12_value_6 ⟨by decide +kernel, by decide +kernel⟩) hS (fun q _ h => hFc q h) hFc (fun r6 u t H1 locs ht hvm hw hB hz1 hk1 hS => ?_)
  obtain ⟨w6, hwit6⟩ : ∃ w9, w9 = u := ⟨u, rfl⟩
  subst hwit6
  obtain ⟨hP1, hK1, hD1⟩ := hB
  rw [ht] at hP1
  have hK1 := va_K.moved hvm.symm hK1
  obtain ⟨hP, hD⟩ := va_join (wr := []) (w1 := [(h0, .inr (12, fM w6))]) hP hD [0] [] rfl rfl (by decide) (by decide) hk1 hFc hP1 hD1
  generalize H1 = H at hP hS ⊢
  have hP : va_P (dC, dI) vwCl [(h0, .inr (12, fM w6))] H := hP
  have hD : va_D A [(h0, .inr (12, fM w6))] := hD
  obtain ⟨rfl, f6_0⟩ := hw
  refine lv_if_ne (tgt := 14) hx hb dX12_value_9 (by decide) (fun c9 => absurd c9 (by decide)) (fun _ => ?_)
  refine lv_iconst (v := 0) hx hb dX12_value_12 (by decide) ?_
  refine W.widen (k := 0) (n := 0) (by decide +kernel) (by decide +kernel) ?_
  exact W.iret (v := 0) hx hb hr (fun t ht hW => ⟨⟨0, w6, rfl, ⟨rfl, f6_0⟩, by rw [ht]; exact hP.sub [0] rfl, va_K.moved hW.alike (hK.sub [] rfl), hD.sub [0] (by decide) rfl⟩, hS.F ht⟩) hS.2.2 dX12_value_13
theorem dX12_best_0 : decode cX12_best 0 = .ok (.aload_n 0, 1) := by decide +kernel
theorem dX12_best_1 : decode cX12_best 1 = .ok (.iload_n 1, 1) := by decide +kernel
theorem dX12_best_2 : decode cX12_best 2 = .ok (.aload_n 0, 1) := by decide +kernel
theorem dX12_best_3 : decode cX12_best 3 = .ok (.getfield 805, 3) := by decide +kernel
theorem dX12_best_6 : decode cX12_best 6 = .ok (.invokevirtual 944, 3) := by decide +kernel
theorem dX12_best_9 : decode cX12_best 9 = .ok (.ifCond .ne 5, 3) := by decide +kernel
theorem dX12_best_12 : decode cX12_best 12 = .ok (.iconst 0, 1) := by decide +kernel
theorem dX12_best_13 : decode cX12_best 13 = .ok (.ireturn, 1) := by decide +kernel
def wsPX12_best : List Cond := .code yX12_best cX12_best 2 (some .int) :: ([.fieldLink RX12 805 "OptimaWorksModel" "modelGoals" "I"] ++ wsX120 ++ (wsV RX12 944 RX12 yX12_canTell wsPX12_canTell))
theorem iwsPX12_best_in12 : ∀ w ∈ wsX120, w ∈ wsPX12_best := fun _ h => List.mem_cons_of_mem _ (List.mem_append_left _ (List.mem_append_right _ h))
theorem gwsPX12_best_0 : GoodIn wsPX12_best (wsV RX12 944 RX12 yX12_canTell wsPX12_canTell) := goodIn_sub (fun _ h => List.mem_cons_of_mem _ (List.mem_append_right _ h)) (by decide +kernel)
set_option maxHeartbeats 4000000 in
set_option maxRecDepth 100000 in
/-- best(k) -/
theorem p_X12_best (l : Launch) (dC : Nat → ClassId) (dI : Nat → Nat → Nat) (h0 : Nat) (v : Nat → Value) (h_isModel : v 95 = .int 0) (h_modelGoals : v 93 = .int 0) (qk : Int32) (sz : Nat) : Met l yX12_best wsPX12_best ({ frames := 1, cells := 0, slots := 0, locals := 22 }) (va_Pc [.ref h0, .int qk] (fun U => U.heap.size = sz ∧ va_P (dC, dI) vwCl [(h0, .inr (12, fM v))] U.heap ∧ va_K (dC, dI) vwCl [] U ∧ va_D (fun _ => True) [(h0, .inr (12, fM v))])) (va_Qi (fun (r : Int32) (u : Nat → Value) => r = 0 ∧ (u 0 = .int 1)) (fun (u : Nat → Value) t => va_P (dC, dI) vwCl [(h0, .inr (12, fM u))] t.heap ∧ va_K (dC, dI) vwCl [] t ∧ va_D (va_A [(h0, .inr (12, fM v))] sz) [(h0, .inr (12, fM u))]) (va_A [(h0, .inr (12, fM v))] sz)) 0 0 (va_A [(h0, .inr (12, fM v))] sz) := by
  refine Met.ofW (cc := cX12_best) (maxL := 2) (ret := (some .int)) (by decide) rfl ?_
  intro p e s m args below meth c s₁ B hml hv
  obtain ⟨rfl, hsz, hP, hK, hD0⟩ := hv
  have hx := B.exec
  have hb := B.bytes
  have hr := B.returns
  have hts := atoms_spec (ws := wsPX12_best) B.pre
  have hown : s.vm.findClass RX12 = some m.cls := findClass_of_methodNamed B.named
  have hlocks := B.notSynchronized
  subst hsz
  have hD := hD0.self (sz := s.heap.size)
  generalize hAe : va_A [(h0, .inr (12, fM v))] s.heap.size = A at hD ⊢
  have hA : ∀ q : Nat, s.heap.size ≤ q → A q := fun q h => by rw [← hAe]; exact Or.inr h
  have hS : va_S A s.heap s.heap [] := va_S.rf
  have hP : va_P (dC, dI) vwCl [(h0, .inr (12, fM v))] s.heap := hP
  have hl := lv_entry ([.ref h0, .int qk]) (n := 2) (Nat.le_of_ble_eq_true rfl)
  rw [lg_entry_eq]
  generalize (lg_sl ([.ref h0, .int qk]) ++ List.replicate (2 - (lg_sl ([.ref h0, .int qk])).length) Slot.unset).toArray = ls at hl ⊢
  have hl : lv_has ls 2 [(0, .ref h0), (1, .int qk)] := hl
  refine lv_aload_n hx hb dX12_best_0 rfl (lv_at hl 0 rfl) ?_
  refine lv_iload_n hx hb dX12_best_1 rfl (lv_at hl 1 rfl) ?_
  refine lv_aload_n hx hb dX12_best_2 rfl (lv_at hl 0 rfl) ?_
  refine va_get (D := (dC, dI)) (ci := 12) (v := .int 0) (C := RX12) (T := TX12) (N := 163) hx hb hts iwsPX12_best_in12 hown hK hP 0 rfl rfl 93 (by decide) (hts (.fieldLink RX12 805 "OptimaWorksModel" "modelGoals" "I") (by decide +kernel)) (fun _ h9 => h9) (congrArg some h_modelGoals) dX12_best_3 ?_
  have hPc := hP.sub (ws' := [(h0, .inr (12, fM v))]) [0] rfl
  have hDc := hD.sub (ws' := [(h0, .inr (12, fM v))]) [0] (by decide) rfl
  have hKc := hK.sub (tys' := []) [] rfl
  have hFc := va_free (wc := [(h0, .inr (12, fM v))]) hD hS hA [0] rfl
  refine va_calli (va_runV (As := [.int qk, .int 0]) (rest := []) ⟨hx, hb, hml, hown, hts⟩ (p_X12_canTell l dC dI h0 v (h_isModel) qk 0 s.heap.size) (cwV 2 hts gwsPX12_best_0 rfl rfl rfl (by decide +kernel) ⟨by decide +kernel, by decide +kernel⟩) ⟨fun a U g mk q => by obtain ⟨q0, q1, qP, qK, qD⟩ := q; exact ⟨q0, q1, qP, va_K.moved (u := U) (U := U.calling g mk a) (Vm.Alike.refl U.vm) qK, qD⟩, va_recv hKc hPc (ci := 12) (q0 := 0) rfl rfl, fun U hU9 hW => ⟨rfl, by rw [hU9], by rw [hU9]; exact hPc, va_K.moved hW.alike hKc, hDc.weaken (fun _ _ _ _ => trivial)⟩⟩ rfl rfl hl.1 rfl (lv_room (Nat.le_of_ble_eq_true rfl)) dX12_best_6 ⟨by decide +kernel, by decide +kernel⟩) hS (fun q _ h => hFc q h) hFc (fun r6 u t H1 locs ht hvm hw hB hz1 hk1 hS => ?_)
  obtain ⟨w6, hwit6⟩ : ∃ w9, w9 = u := ⟨u, rfl⟩
  subst hwit6
  obtain ⟨hP1, hK1, hD1⟩ := hB
  rw [ht] at hP1
  have hK1 := va_K.moved hvm.symm hK1
  obtain ⟨hP, hD⟩ := va_join (wr := []) (w1 := [(h0, .inr (12, fM w6))]) hP hD [0] [] rfl rfl (by decide) (by decide) hk1 hFc hP1 hD1
  generalize H1 = H at hP hS ⊢
  have hP : va_P (dC, dI) vwCl [(h0, .inr (12, fM w6))] H := hP
  have hD : va_D A [(h0, .inr (12, fM w6))] := hD
  obtain ⟨rfl, f6_0⟩ := hw
  refine lv_if_ne (tgt := 14) hx hb dX12_best_9 (by decide) (fun c9 => absurd c9 (by decide)) (fun _ => ?_)
  refine lv_iconst (v := 0) hx hb dX12_best_12 (by decide) ?_
  refine W.widen (k := 0) (n := 0) (by decide +kernel) (by decide +kernel) ?_
  exact W.iret (v := 0) hx hb hr (fun t ht hW => ⟨⟨0, w6, rfl, ⟨rfl, f6_0⟩, by rw [ht]; exact hP.sub [0] rfl, va_K.moved hW.alike (hK.sub [] rfl), hD.sub [0] (by decide) rfl⟩, hS.F ht⟩) hS.2.2 dX12_best_13
theorem dX12_way_0 : decode cX12_way 0 = .ok (.aload_n 0, 1) := by decide +kernel
theorem dX12_way_1 : decode cX12_way 1 = .ok (.iload_n 1, 1) := by decide +kernel
theorem dX12_way_2 : decode cX12_way 2 = .ok (.aload_n 0, 1) := by decide +kernel
theorem dX12_way_3 : decode cX12_way 3 = .ok (.getfield 786, 3) := by decide +kernel
theorem dX12_way_6 : decode cX12_way 6 = .ok (.invokevirtual 944, 3) := by decide +kernel
theorem dX12_way_9 : decode cX12_way 9 = .ok (.ifCond .ne 5, 3) := by decide +kernel
theorem dX12_way_12 : decode cX12_way 12 = .ok (.iconst 0, 1) := by decide +kernel
theorem dX12_way_13 : decode cX12_way 13 = .ok (.ireturn, 1) := by decide +kernel
def wsPX12_way : List Cond := .code yX12_way cX12_way 5 (some .int) :: ([.fieldLink RX12 786 "OptimaWorksModel" "modelRows" "I"] ++ wsX120 ++ (wsV RX12 944 RX12 yX12_canTell wsPX12_canTell))
theorem iwsPX12_way_in12 : ∀ w ∈ wsX120, w ∈ wsPX12_way := fun _ h => List.mem_cons_of_mem _ (List.mem_append_left _ (List.mem_append_right _ h))
theorem gwsPX12_way_0 : GoodIn wsPX12_way (wsV RX12 944 RX12 yX12_canTell wsPX12_canTell) := goodIn_sub (fun _ h => List.mem_cons_of_mem _ (List.mem_append_right _ h)) (by decide +kernel)
set_option maxHeartbeats 4000000 in
set_option maxRecDepth 100000 in
/-- way(k) -/
theorem p_X12_way (l : Launch) (dC : Nat → ClassId) (dI : Nat → Nat → Nat) (h0 : Nat) (v : Nat → Value) (h_isModel : v 95 = .int 0) (h_modelRows : v 91 = .int 0) (qk : Int32) (sz : Nat) : Met l yX12_way wsPX12_way ({ frames := 1, cells := 0, slots := 0, locals := 22 }) (va_Pc [.ref h0, .int qk] (fun U => U.heap.size = sz ∧ va_P (dC, dI) vwCl [(h0, .inr (12, fM v))] U.heap ∧ va_K (dC, dI) vwCl [] U ∧ va_D (fun _ => True) [(h0, .inr (12, fM v))])) (va_Qi (fun (r : Int32) (u : Nat → Value) => r = 0 ∧ (u 0 = .int 1)) (fun (u : Nat → Value) t => va_P (dC, dI) vwCl [(h0, .inr (12, fM u))] t.heap ∧ va_K (dC, dI) vwCl [] t ∧ va_D (va_A [(h0, .inr (12, fM v))] sz) [(h0, .inr (12, fM u))]) (va_A [(h0, .inr (12, fM v))] sz)) 0 0 (va_A [(h0, .inr (12, fM v))] sz) := by
  refine Met.ofW (cc := cX12_way) (maxL := 5) (ret := (some .int)) (by decide) rfl ?_
  intro p e s m args below meth c s₁ B hml hv
  obtain ⟨rfl, hsz, hP, hK, hD0⟩ := hv
  have hx := B.exec
  have hb := B.bytes
  have hr := B.returns
  have hts := atoms_spec (ws := wsPX12_way) B.pre
  have hown : s.vm.findClass RX12 = some m.cls := findClass_of_methodNamed B.named
  have hlocks := B.notSynchronized
  subst hsz
  have hD := hD0.self (sz := s.heap.size)
  generalize hAe : va_A [(h0, .inr (12, fM v))] s.heap.size = A at hD ⊢
  have hA : ∀ q : Nat, s.heap.size ≤ q → A q := fun q h => by rw [← hAe]; exact Or.inr h
  have hS : va_S A s.heap s.heap [] := va_S.rf
  have hP : va_P (dC, dI) vwCl [(h0, .inr (12, fM v))] s.heap := hP
  have hl := lv_entry ([.ref h0, .int qk]) (n := 5) (Nat.le_of_ble_eq_true rfl)
  rw [lg_entry_eq]
  generalize (lg_sl ([.ref h0, .int qk]) ++ List.replicate (5 - (lg_sl ([.ref h0, .int qk])).length) Slot.unset).toArray = ls at hl ⊢
  have hl : lv_has ls 5 [(0, .ref h0), (1, .int qk)] := hl
  refine lv_aload_n hx hb dX12_way_0 rfl (lv_at hl 0 rfl) ?_
  refine lv_iload_n hx hb dX12_way_1 rfl (lv_at hl 1 rfl) ?_
  refine lv_aload_n hx hb dX12_way_2 rfl (lv_at hl 0 rfl) ?_
  refine va_get (D := (dC, dI)) (ci := 12) (v := .int 0) (C := RX12) (T := TX12) (N := 163) hx hb hts iwsPX12_way_in12 hown hK hP 0 rfl rfl 91 (by decide) (hts (.fieldLink RX12 786 "OptimaWorksModel" "modelRows" "I") (by decide +kernel)) (fun _ h9 => h9) (congrArg some h_modelRows) dX12_way_3 ?_
  have hPc := hP.sub (ws' := [(h0, .inr (12, fM v))]) [0] rfl
  have hDc := hD.sub (ws' := [(h0, .inr (12, fM v))]) [0] (by decide) rfl
  have hKc := hK.sub (tys' := []) [] rfl
  have hFc := va_free (wc := [(h0, .inr (12, fM v))]) hD hS hA [0] rfl
  refine va_calli (va_runV (As := [.int qk, .int 0]) (rest := []) ⟨hx, hb, hml, hown, hts⟩ (p_X12_canTell l dC dI h0 v (h_isModel) qk 0 s.heap.size) (cwV 2 hts gwsPX12_way_0 rfl rfl rfl (by decide +kernel) ⟨by decide +kernel, by decide +kernel⟩) ⟨fun a U g mk q => by obtain ⟨q0, q1, qP, qK, qD⟩ := q; exact ⟨q0, q1, qP, va_K.moved (u := U) (U := U.calling g mk a) (Vm.Alike.refl U.vm) qK, qD⟩, va_recv hKc hPc (ci := 12) (q0 := 0) rfl rfl, fun U hU9 hW => ⟨rfl, by rw [hU9], by rw [hU9]; exact hPc, va_K.moved hW.alike hKc, hDc.weaken (fun _ _ _ _ => trivial)⟩⟩ rfl rfl hl.1 rfl (lv_room (Nat.le_of_ble_eq_true rfl)) dX12_way_6 ⟨by decide +kernel, by decide +kernel⟩) hS (fun q _ h => hFc q h) hFc (fun r6 u t H1 locs ht hvm hw hB hz1 hk1 hS => ?_)
  obtain ⟨w6, hwit6⟩ : ∃ w9, w9 = u := ⟨u, rfl⟩
  subst hwit6
  obtain ⟨hP1, hK1, hD1⟩ := hB
  rw [ht] at hP1
  have hK1 := va_K.moved hvm.symm hK1
  obtain ⟨hP, hD⟩ := va_join (wr := []) (w1 := [(h0, .inr (12, fM w6))]) hP hD [0] [] rfl rfl (by decide) (by decide) hk1 hFc hP1 hD1
  generalize H1 = H at hP hS ⊢
  have hP : va_P (dC, dI) vwCl [(h0, .inr (12, fM w6))] H := hP
  have hD : va_D A [(h0, .inr (12, fM w6))] := hD
  obtain ⟨rfl, f6_0⟩ := hw
  refine lv_if_ne (tgt := 14) hx hb dX12_way_9 (by decide) (fun c9 => absurd c9 (by decide)) (fun _ => ?_)
  refine lv_iconst (v := 0) hx hb dX12_way_12 (by decide) ?_
  refine W.widen (k := 0) (n := 0) (by decide +kernel) (by decide +kernel) ?_
  exact W.iret (v := 0) hx hb hr (fun t ht hW => ⟨⟨0, w6, rfl, ⟨rfl, f6_0⟩, by rw [ht]; exact hP.sub [0] rfl, va_K.moved hW.alike (hK.sub [] rfl), hD.sub [0] (by decide) rfl⟩, hS.F ht⟩) hS.2.2 dX12_way_13
theorem dX12_holder_0 : decode cX12_holder 0 = .ok (.aload_n 0, 1) := by decide +kernel
theorem dX12_holder_1 : decode cX12_holder 1 = .ok (.iload_n 1, 1) := by decide +kernel
theorem dX12_holder_2 : decode cX12_holder 2 = .ok (.ifCond .le 10, 3) := by decide +kernel
theorem dX12_holder_5 : decode cX12_holder 5 = .ok (.iload_n 1, 1) := by decide +kernel
theorem dX12_holder_6 : decode cX12_holder 6 = .ok (.ldc_w 977, 3) := by decide +kernel
theorem dX12_holder_9 : decode cX12_holder 9 = .ok (.if_icmp .lt 7, 3) := by decide +kernel
theorem dX12_holder_12 : decode cX12_holder 12 = .ok (.iconst 1, 1) := by decide +kernel
theorem dX12_holder_13 : decode cX12_holder 13 = .ok (.goto 17, 3) := by decide +kernel
theorem dX12_holder_16 : decode cX12_holder 16 = .ok (.aload_n 0, 1) := by decide +kernel
theorem dX12_holder_17 : decode cX12_holder 17 = .ok (.getfield 978, 3) := by decide +kernel
theorem dX12_holder_20 : decode cX12_holder 20 = .ok (.bipush 10, 2) := by decide +kernel
theorem dX12_holder_22 : decode cX12_holder 22 = .ok (.if_icmp .ne 7, 3) := by decide +kernel
theorem dX12_holder_29 : decode cX12_holder 29 = .ok (.iconst 0, 1) := by decide +kernel
theorem dX12_holder_30 : decode cX12_holder 30 = .ok (.putfield 348, 3) := by decide +kernel
theorem dX12_holder_33 : decode cX12_holder 33 = .ok (.aload_n 0, 1) := by decide +kernel
theorem dX12_holder_34 : decode cX12_holder 34 = .ok (.getfield 348, 3) := by decide +kernel
theorem dX12_holder_37 : decode cX12_holder 37 = .ok (.ifCond .le 5, 3) := by decide +kernel
theorem dX12_holder_40 : decode cX12_holder 40 = .ok (.iconst 0, 1) := by decide +kernel
theorem dX12_holder_41 : decode cX12_holder 41 = .ok (.ireturn, 1) := by decide +kernel
theorem dX12_holder_42 : decode cX12_holder 42 = .ok (.aload_n 0, 1) := by decide +kernel
theorem dX12_holder_43 : decode cX12_holder 43 = .ok (.getfield 257, 3) := by decide +kernel
theorem dX12_holder_46 : decode cX12_holder 46 = .ok (.aload_n 0, 1) := by decide +kernel
theorem dX12_holder_47 : decode cX12_holder 47 = .ok (.getfield 978, 3) := by decide +kernel
theorem dX12_holder_50 : decode cX12_holder 50 = .ok (.iload_n 1, 1) := by decide +kernel
theorem dX12_holder_51 : decode cX12_holder 51 = .ok (.iastore, 1) := by decide +kernel
theorem dX12_holder_52 : decode cX12_holder 52 = .ok (.aload_n 0, 1) := by decide +kernel
theorem dX12_holder_53 : decode cX12_holder 53 = .ok (.dup, 1) := by decide +kernel
theorem dX12_holder_54 : decode cX12_holder 54 = .ok (.getfield 978, 3) := by decide +kernel
theorem dX12_holder_57 : decode cX12_holder 57 = .ok (.iconst 1, 1) := by decide +kernel
theorem dX12_holder_58 : decode cX12_holder 58 = .ok (.iadd, 1) := by decide +kernel
theorem dX12_holder_59 : decode cX12_holder 59 = .ok (.putfield 978, 3) := by decide +kernel
theorem dX12_holder_62 : decode cX12_holder 62 = .ok (.aload_n 0, 1) := by decide +kernel
theorem dX12_holder_63 : decode cX12_holder 63 = .ok (.iconst (-1), 1) := by decide +kernel
theorem dX12_holder_64 : decode cX12_holder 64 = .ok (.putfield 300, 3) := by decide +kernel
theorem dX12_holder_67 : decode cX12_holder 67 = .ok (.aload_n 0, 1) := by decide +kernel
theorem dX12_holder_68 : decode cX12_holder 68 = .ok (.getfield 978, 3) := by decide +kernel
theorem dX12_holder_71 : decode cX12_holder 71 = .ok (.iconst 1, 1) := by decide +kernel
theorem dX12_holder_72 : decode cX12_holder 72 = .ok (.isub, 1) := by decide +kernel
theorem dX12_holder_73 : decode cX12_holder 73 = .ok (.ireturn, 1) := by decide +kernel
def wsPX12_holder : List Cond := .code yX12_holder cX12_holder 2 (some .int) :: ([.fieldLink RX12 348 "OptimaWorksModel" "thrown" "I", .constant RX12 977 65536, .fieldLink RX12 978 "OptimaWorksModel" "holders" "I", .fieldLink RX12 257 "OptimaWorksModel" "domain" "[I", .fieldLink RX12 300 "OptimaWorksModel" "listedMany" "I"] ++ wsX120)
theorem iwsPX12_holder_in12 : ∀ w ∈ wsX120, w ∈ wsPX12_holder := fun _ h => List.mem_cons_of_mem _ (List.mem_append_right _ h)
set_option maxHeartbeats 4000000 in
set_option maxRecDepth 100000 in
/-- holder(bits) -/
theorem p_X12_holder (l : Launch) (dC : Nat → ClassId) (dI : Nat → Nat → Nat) (h0 : Nat) (v : Nat → Value) (h_holders : v 128 = .int 0) (b_domain : Nat) (h_domain : v 130 = .ref b_domain) (k_domain : ClassId) (r_domain : Nat → Int32) (hb9 : Int32) (sz : Nat) : Met l yX12_holder wsPX12_holder ({ frames := 0, cells := 0, slots := 0, locals := 0 }) (va_Pc [.ref h0, .int hb9] (fun U => U.heap.size = sz ∧ va_P (dC, dI) vwCl [(h0, .inr (12, fM v)), (b_domain, .inl (k_domain, 10, .inl r_domain))] U.heap ∧ va_K (dC, dI) vwCl [(k_domain, .int)] U ∧ va_D (fun _ => True) [(h0, .inr (12, fM v)), (b_domain, .inl (k_domain, 10, .inl r_domain))])) (va_Qi (fun (r : Int32) (u : Nat → Value) => (r = 0 ∧ ((hb9).toInt < 1 ∨ 65535 < (hb9).toInt) ∧ (u 0 = .int 1)) ∨ (r = 0 ∧ (1 ≤ (hb9).toInt ∧ (hb9).toInt ≤ 65535) ∧ (u 0 = .int 0))) (fun (u : Nat → Value) t => va_P (dC, dI) vwCl [(h0, .inr (12, fM u))] t.heap ∧ va_K (dC, dI) vwCl [] t ∧ va_D (va_A [(h0, .inr (12, fM v)), (b_domain, .inl (k_domain, 10, .inl r_domain))] sz) [(h0, .inr (12, fM u))]) (va_A [(h0, .inr (12, fM v)), (b_domain, .inl (k_domain, 10, .inl r_domain))] sz)) 0 0 (va_A [(h0, .inr (12, fM v)), (b_domain, .inl (k_domain, 10, .inl r_domain))] sz) := by
  refine Met.ofW (cc := cX12_holder) (maxL := 2) (ret := (some .int)) (by decide) rfl ?_
  intro p e s m args below meth c s₁ B hml hv
  obtain ⟨rfl, hsz, hP, hK, hD0⟩ := hv
  have hx := B.exec
  have hb := B.bytes
  have hr := B.returns
  have hts := atoms_spec (ws := wsPX12_holder) B.pre
  have hown : s.vm.findClass RX12 = some m.cls := findClass_of_methodNamed B.named
  have hlocks := B.notSynchronized
  subst hsz
  have hD := hD0.self (sz := s.heap.size)
  generalize hAe : va_A [(h0, .inr (12, fM v)), (b_domain, .inl (k_domain, 10, .inl r_domain))] s.heap.size = A at hD ⊢
  have hA : ∀ q : Nat, s.heap.size ≤ q → A q := fun q h => by rw [← hAe]; exact Or.inr h
  have hS : va_S A s.heap s.heap [] := va_S.rf
  have hP : va_P (dC, dI) vwCl [(h0, .inr (12, fM v)), (b_domain, .inl (k_domain, 10, .inl r_domain))] s.heap := hP
  have hl := lv_entry ([.ref h0, .int hb9]) (n := 2) (Nat.le_of_ble_eq_true rfl)
  rw [lg_entry_eq]
  generalize (lg_sl ([.ref h0, .int hb9]) ++ List.replicate (2 - (lg_sl ([.ref h0, .int hb9])).length) Slot.unset).toArray = ls at hl ⊢
  have hl : lv_has ls 2 [(0, .ref h0), (1, .int hb9)] := hl
  refine lv_aload_n hx hb dX12_holder_0 rfl (lv_at hl 0 rfl) ?_
  refine lv_iload_n hx hb dX12_holder_1 rfl (lv_at hl 1 rfl) ?_
  refine lv_if_le (tgt := 12) hx hb dX12_holder_2 (by decide) (fun c_2 => ?_) (fun c_2 => ?_)
  · have t_2 : (hb9).toInt ≤ 0 := toI_le c_2 rfl (by decide)
    refine lv_iconst (v := 1) hx hb dX12_holder_12 (by decide) ?_
    refine lv_goto (tgt := 30) hx hb dX12_holder_13 (by decide) ?_
    refine va_put (D := (dC, dI)) (ci := 12) (v := .int 1) (ty := .int) (C := RX12) (T := TX12) (N := 163) hx hb hts iwsPX12_holder_in12 tyX12 tyX12_ok nmX12 hown hK hP hD hS 0 rfl rfl 0 (by decide) (hts (.fieldLink RX12 348 "OptimaWorksModel" "thrown" "I") (by decide +kernel)) (fun _ h9 => h9) rfl (by decide +kernel) rfl rfl (Nat.le_of_ble_eq_true rfl) dX12_holder_30 (fun H locs hP hD hS => ?_)
    have hP : va_P (dC, dI) vwCl [(h0, .inr (12, fM (mUp v 0 (.int 1)))), (b_domain, .inl (k_domain, 10, .inl r_domain))] H := hP
    have hD : va_D A [(h0, .inr (12, fM (mUp v 0 (.int 1)))), (b_domain, .inl (k_domain, 10, .inl r_domain))] := hD
    refine lv_aload_n hx hb dX12_holder_33 rfl (lv_at hl 0 rfl) ?_
    refine va_get (D := (dC, dI)) (ci := 12) (v := .int 1) (C := RX12) (T := TX12) (N := 163) hx hb hts iwsPX12_holder_in12 hown hK hP 0 rfl rfl 0 (by decide) (hts (.fieldLink RX12 348 "OptimaWorksModel" "thrown" "I") (by decide +kernel)) (fun _ h9 => h9) rfl dX12_holder_34 ?_
    refine lv_if_le (tgt := 42) hx hb dX12_holder_37 (by decide) (fun c9 => absurd c9 (by decide)) (fun _ => ?_)
    refine lv_iconst (v := 0) hx hb dX12_holder_40 (by decide) ?_
    refine W.widen (k := 0) (n := 0) (by decide +kernel) (by decide +kernel) ?_
    exact W.iret (v := 0) hx hb hr (fun t ht hW => ⟨⟨0, (mUp v 0 (.int 1)), rfl, by first | (left; (refine ⟨?_, ?_, ?_⟩ <;> (first | rfl | assumption | trivial | omega | (simp [c_2]; done) | (simp; omega)))) | (right; (refine ⟨?_, ?_, ?_⟩ <;> (first | rfl | assumption | trivial | omega | (simp [c_2]; done) | (simp; omega)))), by rw [ht]; exact hP.sub [0] rfl, va_K.moved hW.alike (hK.sub [] rfl), hD.sub [0] (by decide) rfl⟩, hS.F ht⟩) hS.2.2 dX12_holder_41
  · have t_2 : ¬ (hb9).toInt ≤ 0 := toI_nle c_2 rfl (by decide)
    refine lv_iload_n hx hb dX12_holder_5 rfl (lv_at hl 1 rfl) ?_
    refine lv_ldcw (v := 65536) hx hb hown (hts (.constant RX12 977 65536) (by decide +kernel)) dX12_holder_6 ?_
    refine lv_icmp_lt (tgt := 16) hx hb dX12_holder_9 (by decide) (fun c_9 => ?_) (fun c_9 => ?_)
    · have t_9 : (hb9).toInt < 65536 := toI_lt c_9 rfl (by decide)
      refine lv_aload_n hx hb dX12_holder_16 rfl (lv_at hl 0 rfl) ?_
      refine va_get (D := (dC, dI)) (ci := 12) (v := .int 0) (C := RX12) (T := TX12) (N := 163) hx hb hts iwsPX12_holder_in12 hown hK hP 0 rfl rfl 128 (by decide) (hts (.fieldLink RX12 978 "OptimaWorksModel" "holders" "I") (by decide +kernel)) (fun _ h9 => h9) (congrArg some h_holders) dX12_holder_17 ?_
      refine lv_bipush (v := 10) hx hb dX12_holder_20 (by decide) ?_
      refine lv_icmp_ne (tgt := 29) hx hb dX12_holder_22 (by decide) (fun _ => ?_) (fun c9 => absurd c9 (by decide))
      refine lv_iconst (v := 0) hx hb dX12_holder_29 (by decide) ?_
      refine va_put (D := (dC, dI)) (ci := 12) (v := .int 0) (ty := .int) (C := RX12) (T := TX12) (N := 163) hx hb hts iwsPX12_holder_in12 tyX12 tyX12_ok nmX12 hown hK hP hD hS 0 rfl rfl 0 (by decide) (hts (.fieldLink RX12 348 "OptimaWorksModel" "thrown" "I") (by decide +kernel)) (fun _ h9 => h9) rfl (by decide +kernel) rfl rfl (Nat.le_of_ble_eq_true rfl) dX12_holder_30 (fun H locs hP hD hS => ?_)
      have hP : va_P (dC, dI) vwCl [(h0, .inr (12, fM (mUp v 0 (.int 0)))), (b_domain, .inl (k_domain, 10, .inl r_domain))] H := hP
      have hD : va_D A [(h0, .inr (12, fM (mUp v 0 (.int 0)))), (b_domain, .inl (k_domain, 10, .inl r_domain))] := hD
      refine lv_aload_n hx hb dX12_holder_33 rfl (lv_at hl 0 rfl) ?_
      refine va_get (D := (dC, dI)) (ci := 12) (v := .int 0) (C := RX12) (T := TX12) (N := 163) hx hb hts iwsPX12_holder_in12 hown hK hP 0 rfl rfl 0 (by decide) (hts (.fieldLink RX12 348 "OptimaWorksModel" "thrown" "I") (by decide +kernel)) (fun _ h9 => h9) rfl dX12_holder_34 ?_
      refine lv_if_le (tgt := 42) hx hb dX12_holder_37 (by decide) (fun _ => ?_) (fun c9 => absurd (by decide) c9)
      refine lv_aload_n hx hb dX12_holder_42 rfl (lv_at hl 0 rfl) ?_
      refine va_get (D := (dC, dI)) (ci := 12) (v := .ref b_domain) (C := RX12) (T := TX12) (N := 163) hx hb hts iwsPX12_holder_in12 hown hK hP 0 rfl rfl 130 (by decide) (hts (.fieldLink RX12 257 "OptimaWorksModel" "domain" "[I") (by decide +kernel)) (fun _ h9 => h9) (congrArg some h_domain) dX12_holder_43 ?_
      refine lv_aload_n hx hb dX12_holder_46 rfl (lv_at hl 0 rfl) ?_
      refine va_get (D := (dC, dI)) (ci := 12) (v := .int 0) (C := RX12) (T := TX12) (N := 163) hx hb hts iwsPX12_holder_in12 hown hK hP 0 rfl rfl 128 (by decide) (hts (.fieldLink RX12 978 "OptimaWorksModel" "holders" "I") (by decide +kernel)) (fun _ h9 => h9) (congrArg some h_holders) dX12_holder_47 ?_
      refine lv_iload_n hx hb dX12_holder_50 rfl (lv_at hl 1 rfl) ?_
      refine va_iast hx hb hK hP hD hS 1 0 rfl rfl (show ¬ ((0 : Int32) < 0 ∨ 10 ≤ (0 : Int32).toNatClampNeg) by decide) dX12_holder_51 (fun H locs hP hD hS => ?_)
      have hP : va_P (dC, dI) vwCl [(h0, .inr (12, fM (mUp v 0 (.int 0)))), (b_domain, .inl (k_domain, 10, .inl (upd r_domain (0 : Int32).toNatClampNeg hb9)))] H := hP
      have hD : va_D A [(h0, .inr (12, fM (mUp v 0 (.int 0)))), (b_domain, .inl (k_domain, 10, .inl (upd r_domain (0 : Int32).toNatClampNeg hb9)))] := hD
      refine lv_aload_n hx hb dX12_holder_52 rfl (lv_at hl 0 rfl) ?_
      refine lv_dup hx hb dX12_holder_53 rfl ?_
      refine va_get (D := (dC, dI)) (ci := 12) (v := .int 0) (C := RX12) (T := TX12) (N := 163) hx hb hts iwsPX12_holder_in12 hown hK hP 0 rfl rfl 128 (by decide) (hts (.fieldLink RX12 978 "OptimaWorksModel" "holders" "I") (by decide +kernel)) (fun _ h9 => h9) (congrArg some h_holders) dX12_holder_54 ?_
      refine lv_iconst (v := 1) hx hb dX12_holder_57 (by decide) ?_
      refine lv_iadd hx hb dX12_holder_58 ?_
      refine lv_topi (fun y1 hy1 => ?_)
      obtain rfl : 1 = y1 := (hy1.trans (by decide)).symm
      refine va_put (D := (dC, dI)) (ci := 12) (v := .int 1) (ty := .int) (C := RX12) (T := TX12) (N := 163) hx hb hts iwsPX12_holder_in12 tyX12 tyX12_ok nmX12 hown hK hP hD hS 0 rfl rfl 128 (by decide) (hts (.fieldLink RX12 978 "OptimaWorksModel" "holders" "I") (by decide +kernel)) (fun _ h9 => h9) rfl (by decide +kernel) rfl rfl (Nat.le_of_ble_eq_true rfl) dX12_holder_59 (fun H locs hP hD hS => ?_)
      have hP : va_P (dC, dI) vwCl [(h0, .inr (12, fM (mUp (mUp v 0 (.int 0)) 128 (.int 1)))), (b_domain, .inl (k_domain, 10, .inl (upd r_domain (0 : Int32).toNatClampNeg hb9)))] H := hP
      have hD : va_D A [(h0, .inr (12, fM (mUp (mUp v 0 (.int 0)) 128 (.int 1)))), (b_domain, .inl (k_domain, 10, .inl (upd r_domain (0 : Int32).toNatClampNeg hb9)))] := hD
      refine lv_aload_n hx hb dX12_holder_62 rfl (lv_at hl 0 rfl) ?_
      refine lv_iconst (v := (-1)) hx hb dX12_holder_63 (by decide) ?_
      refine va_put (D := (dC, dI)) (ci := 12) (v := .int (-1)) (ty := .int) (C := RX12) (T := TX12) (N := 163) hx hb hts iwsPX12_holder_in12 tyX12 tyX12_ok nmX12 hown hK hP hD hS 0 rfl rfl 145 (by decide) (hts (.fieldLink RX12 300 "OptimaWorksModel" "listedMany" "I") (by decide +kernel)) (fun _ h9 => h9) rfl (by decide +kernel) rfl rfl (Nat.le_of_ble_eq_true rfl) dX12_holder_64 (fun H locs hP hD hS => ?_)
      have hP : va_P (dC, dI) vwCl [(h0, .inr (12, fM (mUp (mUp (mUp v 0 (.int 0)) 128 (.int 1)) 145 (.int (-1))))), (b_domain, .inl (k_domain, 10, .inl (upd r_domain (0 : Int32).toNatClampNeg hb9)))] H := hP
      have hD : va_D A [(h0, .inr (12, fM (mUp (mUp (mUp v 0 (.int 0)) 128 (.int 1)) 145 (.int (-1))))), (b_domain, .inl (k_domain, 10, .inl (upd r_domain (0 : Int32).toNatClampNeg hb9)))] := hD
      refine lv_aload_n hx hb dX12_holder_67 rfl (lv_at hl 0 rfl) ?_
      refine va_get (D := (dC, dI)) (ci := 12) (v := .int 1) (C := RX12) (T := TX12) (N := 163) hx hb hts iwsPX12_holder_in12 hown hK hP 0 rfl rfl 128 (by decide) (hts (.fieldLink RX12 978 "OptimaWorksModel" "holders" "I") (by decide +kernel)) (fun _ h9 => h9) rfl dX12_holder_68 ?_
      refine lv_iconst (v := 1) hx hb dX12_holder_71 (by decide) ?_
      refine lv_isub hx hb dX12_holder_72 ?_
      refine lv_topi (fun y2 hy2 => ?_)
      obtain rfl : 0 = y2 := (hy2.trans (by decide)).symm
      refine W.widen (k := 0) (n := 0) (by decide +kernel) (by decide +kernel) ?_
      exact W.iret (v := 0) hx hb hr (fun t ht hW => ⟨⟨0, (mUp (mUp (mUp v 0 (.int 0)) 128 (.int 1)) 145 (.int (-1))), rfl, by first | (left; (refine ⟨?_, ?_, ?_⟩ <;> (first | rfl | assumption | trivial | omega | (simp [c_2, c_9]; done) | (simp; omega)))) | (right; (refine ⟨?_, ?_, ?_⟩ <;> (first | rfl | assumption | trivial | omega | (simp [c_2, c_9]; done) | (simp; omega)))), by rw [ht]; exact hP.sub [0] rfl, va_K.moved hW.alike (hK.sub [] rfl), hD.sub [0] (by decide) rfl⟩, hS.F ht⟩) hS.2.2 dX12_holder_73
    · have t_9 : ¬ (hb9).toInt < 65536 := toI_nlt c_9 rfl (by decide)
      refine lv_iconst (v := 1) hx hb dX12_holder_12 (by decide) ?_
      refine lv_goto (tgt := 30) hx hb dX12_holder_13 (by decide) ?_
      refine va_put (D := (dC, dI)) (ci := 12) (v := .int 1) (ty := .int) (C := RX12) (T := TX12) (N := 163) hx hb hts iwsPX12_holder_in12 tyX12 tyX12_ok nmX12 hown hK hP hD hS 0 rfl rfl 0 (by decide) (hts (.fieldLink RX12 348 "OptimaWorksModel" "thrown" "I") (by decide +kernel)) (fun _ h9 => h9) rfl (by decide +kernel) rfl rfl (Nat.le_of_ble_eq_true rfl) dX12_holder_30 (fun H locs hP hD hS => ?_)
      have hP : va_P (dC, dI) vwCl [(h0, .inr (12, fM (mUp v 0 (.int 1)))), (b_domain, .inl (k_domain, 10, .inl r_domain))] H := hP
      have hD : va_D A [(h0, .inr (12, fM (mUp v 0 (.int 1)))), (b_domain, .inl (k_domain, 10, .inl r_domain))] := hD
      refine lv_aload_n hx hb dX12_holder_33 rfl (lv_at hl 0 rfl) ?_
      refine va_get (D := (dC, dI)) (ci := 12) (v := .int 1) (C := RX12) (T := TX12) (N := 163) hx hb hts iwsPX12_holder_in12 hown hK hP 0 rfl rfl 0 (by decide) (hts (.fieldLink RX12 348 "OptimaWorksModel" "thrown" "I") (by decide +kernel)) (fun _ h9 => h9) rfl dX12_holder_34 ?_
      refine lv_if_le (tgt := 42) hx hb dX12_holder_37 (by decide) (fun c9 => absurd c9 (by decide)) (fun _ => ?_)
      refine lv_iconst (v := 0) hx hb dX12_holder_40 (by decide) ?_
      refine W.widen (k := 0) (n := 0) (by decide +kernel) (by decide +kernel) ?_
      exact W.iret (v := 0) hx hb hr (fun t ht hW => ⟨⟨0, (mUp v 0 (.int 1)), rfl, by first | (left; (refine ⟨?_, ?_, ?_⟩ <;> (first | rfl | assumption | trivial | omega | (simp [c_2, c_9]; done) | (simp; omega)))) | (right; (refine ⟨?_, ?_, ?_⟩ <;> (first | rfl | assumption | trivial | omega | (simp [c_2, c_9]; done) | (simp; omega)))), by rw [ht]; exact hP.sub [0] rfl, va_K.moved hW.alike (hK.sub [] rfl), hD.sub [0] (by decide) rfl⟩, hS.F ht⟩) hS.2.2 dX12_holder_41
theorem dX12_isSet_0 : decode cX12_isSet 0 = .ok (.iload_n 1, 1) := by decide +kernel
theorem dX12_isSet_1 : decode cX12_isSet 1 = .ok (.ifCond .le 17, 3) := by decide +kernel
theorem dX12_isSet_4 : decode cX12_isSet 4 = .ok (.iload_n 1, 1) := by decide +kernel
theorem dX12_isSet_5 : decode cX12_isSet 5 = .ok (.iconst 1, 1) := by decide +kernel
theorem dX12_isSet_6 : decode cX12_isSet 6 = .ok (.aload_n 0, 1) := by decide +kernel
theorem dX12_isSet_7 : decode cX12_isSet 7 = .ok (.getfield 978, 3) := by decide +kernel
theorem dX12_isSet_10 : decode cX12_isSet 10 = .ok (.ishl, 1) := by decide +kernel
theorem dX12_isSet_11 : decode cX12_isSet 11 = .ok (.if_icmp .ge 7, 3) := by decide +kernel
theorem dX12_isSet_18 : decode cX12_isSet 18 = .ok (.iconst 0, 1) := by decide +kernel
theorem dX12_isSet_19 : decode cX12_isSet 19 = .ok (.ireturn, 1) := by decide +kernel
def wsPX12_isSet : List Cond := .code yX12_isSet cX12_isSet 2 (some .boolean) :: ([.fieldLink RX12 978 "OptimaWorksModel" "holders" "I"] ++ wsX120)
theorem iwsPX12_isSet_in12 : ∀ w ∈ wsX120, w ∈ wsPX12_isSet := fun _ h => List.mem_cons_of_mem _ (List.mem_append_right _ h)
set_option maxHeartbeats 4000000 in
set_option maxRecDepth 100000 in
/-- isSet(a) -/
theorem p_X12_isSet (l : Launch) (dC : Nat → ClassId) (dI : Nat → Nat → Nat) (h0 : Nat) (v : Nat → Value) (h_holders : v 128 = .int 0) (qa : Int32) (sz : Nat) : Met l yX12_isSet wsPX12_isSet ({ frames := 0, cells := 0, slots := 0, locals := 0 }) (va_Pc [.ref h0, .int qa] (fun U => U.heap.size = sz ∧ va_P (dC, dI) vwCl [(h0, .inr (12, fM v))] U.heap ∧ va_K (dC, dI) vwCl [] U ∧ va_D (fun _ => True) [(h0, .inr (12, fM v))])) (va_Qi (fun (r : Int32) (u : Unit) => r = 0) (fun (u : Unit) t => va_P (dC, dI) vwCl [(h0, .inr (12, fM v))] t.heap ∧ va_K (dC, dI) vwCl [] t ∧ va_D (va_A [(h0, .inr (12, fM v))] sz) [(h0, .inr (12, fM v))]) (va_A [(h0, .inr (12, fM v))] sz)) 0 0 (va_A [(h0, .inr (12, fM v))] sz) := by
  refine Met.ofW (cc := cX12_isSet) (maxL := 2) (ret := (some .boolean)) (by decide) rfl ?_
  intro p e s m args below meth c s₁ B hml hv
  obtain ⟨rfl, hsz, hP, hK, hD0⟩ := hv
  have hx := B.exec
  have hb := B.bytes
  have hr := B.returns
  have hts := atoms_spec (ws := wsPX12_isSet) B.pre
  have hown : s.vm.findClass RX12 = some m.cls := findClass_of_methodNamed B.named
  have hlocks := B.notSynchronized
  subst hsz
  have hD := hD0.self (sz := s.heap.size)
  generalize hAe : va_A [(h0, .inr (12, fM v))] s.heap.size = A at hD ⊢
  have hA : ∀ q : Nat, s.heap.size ≤ q → A q := fun q h => by rw [← hAe]; exact Or.inr h
  have hS : va_S A s.heap s.heap [] := va_S.rf
  have hP : va_P (dC, dI) vwCl [(h0, .inr (12, fM v))] s.heap := hP
  have hl := lv_entry ([.ref h0, .int qa]) (n := 2) (Nat.le_of_ble_eq_true rfl)
  rw [lg_entry_eq]
  generalize (lg_sl ([.ref h0, .int qa]) ++ List.replicate (2 - (lg_sl ([.ref h0, .int qa])).length) Slot.unset).toArray = ls at hl ⊢
  have hl : lv_has ls 2 [(0, .ref h0), (1, .int qa)] := hl
  refine lv_iload_n hx hb dX12_isSet_0 rfl (lv_at hl 1 rfl) ?_
  refine lv_if_le (tgt := 18) hx hb dX12_isSet_1 (by decide) (fun c_1 => ?_) (fun c_1 => ?_)
  · have t_1 : (qa).toInt ≤ 0 := toI_le c_1 rfl (by decide)
    refine lv_iconst (v := 0) hx hb dX12_isSet_18 (by decide) ?_
    refine W.widen (k := 0) (n := 0) (by decide +kernel) (by decide +kernel) ?_
    exact W.zret (v := 0) hx hb hr rfl (fun t ht hW => ⟨⟨0, (), rfl, by (first | rfl | assumption | trivial | omega | (simp [c_1]; done) | (simp; omega)), by rw [ht]; exact hP.sub [0] rfl, va_K.moved hW.alike (hK.sub [] rfl), hD.sub [0] (by decide) rfl⟩, hS.F ht⟩) hS.2.2 dX12_isSet_19
  · have t_1 : ¬ (qa).toInt ≤ 0 := toI_nle c_1 rfl (by decide)
    refine lv_iload_n hx hb dX12_isSet_4 rfl (lv_at hl 1 rfl) ?_
    refine lv_iconst (v := 1) hx hb dX12_isSet_5 (by decide) ?_
    refine lv_aload_n hx hb dX12_isSet_6 rfl (lv_at hl 0 rfl) ?_
    refine va_get (D := (dC, dI)) (ci := 12) (v := .int 0) (C := RX12) (T := TX12) (N := 163) hx hb hts iwsPX12_isSet_in12 hown hK hP 0 rfl rfl 128 (by decide) (hts (.fieldLink RX12 978 "OptimaWorksModel" "holders" "I") (by decide +kernel)) (fun _ h9 => h9) (congrArg some h_holders) dX12_isSet_7 ?_
    refine lv_ishl hx hb dX12_isSet_10 ?_
    refine lv_topi (fun y1 hy1 => ?_)
    obtain rfl : 1 = y1 := (hy1.trans (by decide)).symm
    refine lv_icmp_ge (tgt := 18) hx hb dX12_isSet_11 (by decide) (fun c_11 => ?_) (fun c9 => False.elim (by have t9 : ¬ (qa).toInt ≥ 1 := toI_nge c9 rfl (by decide); omega))
    have t_11 : (qa).toInt ≥ 1 := toI_ge c_11 rfl (by decide)
    refine lv_iconst (v := 0) hx hb dX12_isSet_18 (by decide) ?_
    refine W.widen (k := 0) (n := 0) (by decide +kernel) (by decide +kernel) ?_
    exact W.zret (v := 0) hx hb hr rfl (fun t ht hW => ⟨⟨0, (), rfl, by (first | rfl | assumption | trivial | omega | (simp [c_1]; done) | (simp; omega)), by rw [ht]; exact hP.sub [0] rfl, va_K.moved hW.alike (hK.sub [] rfl), hD.sub [0] (by decide) rfl⟩, hS.F ht⟩) hS.2.2 dX12_isSet_19
def wsPX12_isHolder : List Cond := .code yX12_isHolder cX12_isHolder 2 (some .boolean) :: ([.fieldLink RX12 978 "OptimaWorksModel" "holders" "I"] ++ wsX120)
theorem iwsPX12_isHolder_in12 : ∀ w ∈ wsX120, w ∈ wsPX12_isHolder := fun _ h => List.mem_cons_of_mem _ (List.mem_append_right _ h)
set_option maxHeartbeats 4000000 in
set_option maxRecDepth 100000 in
/-- isHolder(i) -/
theorem p_X12_isHolder (l : Launch) (dC : Nat → ClassId) (dI : Nat → Nat → Nat) (h0 : Nat) (v : Nat → Value) (h_holders : v 128 = .int 0) (qi : Int32) (sz : Nat) : Met l yX12_isHolder wsPX12_isHolder ({ frames := 0, cells := 0, slots := 0, locals := 0 }) (va_Pc [.ref h0, .int qi] (fun U => U.heap.size = sz ∧ va_P (dC, dI) vwCl [(h0, .inr (12, fM v))] U.heap ∧ va_K (dC, dI) vwCl [] U ∧ va_D (fun _ => True) [(h0, .inr (12, fM v))])) (va_Qi (fun (r : Int32) (u : Unit) => r = 0) (fun (u : Unit) t => va_P (dC, dI) vwCl [(h0, .inr (12, fM v))] t.heap ∧ va_K (dC, dI) vwCl [] t ∧ va_D (va_A [(h0, .inr (12, fM v))] sz) [(h0, .inr (12, fM v))]) (va_A [(h0, .inr (12, fM v))] sz)) 0 0 (va_A [(h0, .inr (12, fM v))] sz) := by
  refine Met.ofW (cc := cX12_isHolder) (maxL := 2) (ret := (some .boolean)) (by decide) rfl ?_
  intro p e s m args below meth c s₁ B hml hv
  obtain ⟨rfl, hsz, hP, hK, hD0⟩ := hv
  have hx := B.exec
  have hb := B.bytes
  have hr := B.returns
  have hts := atoms_spec (ws := wsPX12_isHolder) B.pre
  have hown : s.vm.findClass RX12 = some m.cls := findClass_of_methodNamed B.named
  have hlocks := B.notSynchronized
  subst hsz
  have hD := hD0.self (sz := s.heap.size)
  generalize hAe : va_A [(h0, .inr (12, fM v))] s.heap.size = A at hD ⊢
  have hA : ∀ q : Nat, s.heap.size ≤ q → A q := fun q h => by rw [← hAe]; exact Or.inr h
  have hS : va_S A s.heap s.heap [] := va_S.rf
  have hP : va_P (dC, dI) vwCl [(h0, .inr (12, fM v))] s.heap := hP
  have hl := lv_entry ([.ref h0, .int qi]) (n := 2) (Nat.le_of_ble_eq_true rfl)
  rw [lg_entry_eq]
  generalize (lg_sl ([.ref h0, .int qi]) ++ List.replicate (2 - (lg_sl ([.ref h0, .int qi])).length) Slot.unset).toArray = ls at hl ⊢
  have hl : lv_has ls 2 [(0, .ref h0), (1, .int qi)] := hl
  refine lv_iload_n hx hb dX12_isHolder_0 rfl (lv_at hl 1 rfl) ?_
  refine lv_if_lt (tgt := 16) hx hb dX12_isHolder_1 (by decide) (fun c_1 => ?_) (fun c_1 => ?_)
  · have t_1 : (qi).toInt < 0 := toI_lt c_1 rfl (by decide)
    refine lv_iconst (v := 0) hx hb dX12_isHolder_16 (by decide) ?_
    refine W.widen (k := 0) (n := 0) (by decide +kernel) (by decide +kernel) ?_
    exact W.zret (v := 0) hx hb hr rfl (fun t ht hW => ⟨⟨0, (), rfl, by (first | rfl | assumption | trivial | omega | (simp [c_1]; done) | (simp; omega)), by rw [ht]; exact hP.sub [0] rfl, va_K.moved hW.alike (hK.sub [] rfl), hD.sub [0] (by decide) rfl⟩, hS.F ht⟩) hS.2.2 dX12_isHolder_17
  · have t_1 : ¬ (qi).toInt < 0 := toI_nlt c_1 rfl (by decide)
    refine lv_iload_n hx hb dX12_isHolder_4 rfl (lv_at hl 1 rfl) ?_
    refine lv_aload_n hx hb dX12_isHolder_5 rfl (lv_at hl 0 rfl) ?_
    refine va_get (D := (dC, dI)) (ci := 12) (v := .int 0) (C := RX12) (T := TX12) (N := 163) hx hb hts iwsPX12_isHolder_in12 hown hK hP 0 rfl rfl 128 (by decide) (hts (.fieldLink RX12 978 "OptimaWorksModel" "holders" "I") (by decide +kernel)) (fun _ h9 => h9) (congrArg some h_holders) dX12_isHolder_6 ?_
    refine lv_icmp_ge (tgt := 16) hx hb dX12_isHolder_9 (by decide) (fun c_9 => ?_) (fun c_9 => ?_)
    · have t_9 : (qi).toInt ≥ 0 := toI_ge c_9 rfl (by decide)
      refine lv_iconst (v := 0) hx hb dX12_isHolder_16 (by decide) ?_
      refine W.widen (k := 0) (n := 0) (by decide +kernel) (by decide +kernel) ?_
      exact W.zret (v := 0) hx hb hr rfl (fun t ht hW => ⟨⟨0, (), rfl, by (first | rfl | assumption | trivial | omega | (simp [c_1, c_9]; done) | (simp; omega)), by rw [ht]; exact hP.sub [0] rfl, va_K.moved hW.alike (hK.sub [] rfl), hD.sub [0] (by decide) rfl⟩, hS.F ht⟩) hS.2.2 dX12_isHolder_17
    · have t_9 : ¬ (qi).toInt ≥ 0 := toI_nge c_9 rfl (by decide)
      refine lv_iconst (v := 1) hx hb dX12_isHolder_12 (by decide) ?_
      refine lv_goto (tgt := 17) hx hb dX12_isHolder_13 (by decide) ?_
      refine W.widen (k := 0) (n := 0) (by decide +kernel) (by decide +kernel) ?_
      exact W.zret (v := 1) hx hb hr rfl (fun t ht hW => ⟨⟨1, (), rfl, by (first | rfl | assumption | trivial | omega | (simp [c_1, c_9]; done) | (simp; omega)), by rw [ht]; exact hP.sub [0] rfl, va_K.moved hW.alike (hK.sub [] rfl), hD.sub [0] (by decide) rfl⟩, hS.F ht⟩) hS.2.2 dX12_isHolder_17
theorem dX12_isRule_0 : decode cX12_isRule 0 = .ok (.iload_n 1, 1) := by decide +kernel
theorem dX12_isRule_1 : decode cX12_isRule 1 = .ok (.tableswitch 187 0 4 #[35, 41, 76, 120, 160], 35) := by decide +kernel
theorem dX12_isRule_36 : decode cX12_isRule 36 = .ok (.aload_n 0, 1) := by decide +kernel
theorem dX12_isRule_37 : decode cX12_isRule 37 = .ok (.iload_n 2, 1) := by decide +kernel
theorem dX12_isRule_38 : decode cX12_isRule 38 = .ok (.invokevirtual 981, 3) := by decide +kernel
theorem dX12_isRule_41 : decode cX12_isRule 41 = .ok (.ireturn, 1) := by decide +kernel
theorem dX12_isRule_42 : decode cX12_isRule 42 = .ok (.aload_n 0, 1) := by decide +kernel
theorem dX12_isRule_43 : decode cX12_isRule 43 = .ok (.iload_n 2, 1) := by decide +kernel
theorem dX12_isRule_44 : decode cX12_isRule 44 = .ok (.invokevirtual 984, 3) := by decide +kernel
theorem dX12_isRule_47 : decode cX12_isRule 47 = .ok (.ifCond .eq 28, 3) := by decide +kernel
theorem dX12_isRule_75 : decode cX12_isRule 75 = .ok (.iconst 0, 1) := by decide +kernel
theorem dX12_isRule_76 : decode cX12_isRule 76 = .ok (.ireturn, 1) := by decide +kernel
theorem dX12_isRule_77 : decode cX12_isRule 77 = .ok (.aload_n 0, 1) := by decide +kernel
theorem dX12_isRule_78 : decode cX12_isRule 78 = .ok (.iload_n 2, 1) := by decide +kernel
theorem dX12_isRule_79 : decode cX12_isRule 79 = .ok (.invokevirtual 981, 3) := by decide +kernel
theorem dX12_isRule_82 : decode cX12_isRule 82 = .ok (.ifCond .eq 37, 3) := by decide +kernel
theorem dX12_isRule_119 : decode cX12_isRule 119 = .ok (.iconst 0, 1) := by decide +kernel
theorem dX12_isRule_120 : decode cX12_isRule 120 = .ok (.ireturn, 1) := by decide +kernel
theorem dX12_isRule_121 : decode cX12_isRule 121 = .ok (.aload_n 0, 1) := by decide +kernel
theorem dX12_isRule_122 : decode cX12_isRule 122 = .ok (.iload_n 2, 1) := by decide +kernel
theorem dX12_isRule_123 : decode cX12_isRule 123 = .ok (.invokevirtual 981, 3) := by decide +kernel
theorem dX12_isRule_126 : decode cX12_isRule 126 = .ok (.ifCond .eq 33, 3) := by decide +kernel
theorem dX12_isRule_159 : decode cX12_isRule 159 = .ok (.iconst 0, 1) := by decide +kernel
theorem dX12_isRule_160 : decode cX12_isRule 160 = .ok (.ireturn, 1) := by decide +kernel
theorem dX12_isRule_161 : decode cX12_isRule 161 = .ok (.aload_n 0, 1) := by decide +kernel
theorem dX12_isRule_162 : decode cX12_isRule 162 = .ok (.iload_n 2, 1) := by decide +kernel
theorem dX12_isRule_163 : decode cX12_isRule 163 = .ok (.invokevirtual 984, 3) := by decide +kernel
theorem dX12_isRule_166 : decode cX12_isRule 166 = .ok (.ifCond .eq 20, 3) := by decide +kernel
theorem dX12_isRule_186 : decode cX12_isRule 186 = .ok (.iconst 0, 1) := by decide +kernel
theorem dX12_isRule_187 : decode cX12_isRule 187 = .ok (.ireturn, 1) := by decide +kernel
theorem dX12_isRule_188 : decode cX12_isRule 188 = .ok (.iconst 0, 1) := by decide +kernel
theorem dX12_isRule_189 : decode cX12_isRule 189 = .ok (.ireturn, 1) := by decide +kernel
def wsPX12_isRule : List Cond := .code yX12_isRule cX12_isRule 5 (some .boolean) :: ([] ++ (wsV RX12 981 RX12 yX12_isSet wsPX12_isSet) ++ (wsV RX12 984 RX12 yX12_isHolder wsPX12_isHolder))
theorem gwsPX12_isRule_0 : GoodIn wsPX12_isRule (wsV RX12 981 RX12 yX12_isSet wsPX12_isSet) := goodIn_sub (fun _ h => List.mem_cons_of_mem _ (List.mem_append_left _ (List.mem_append_right _ h))) (by decide +kernel)
theorem gwsPX12_isRule_1 : GoodIn wsPX12_isRule (wsV RX12 984 RX12 yX12_isHolder wsPX12_isHolder) := goodIn_sub (fun _ h => List.mem_cons_of_mem _ (List.mem_append_right _ h)) (by decide +kernel)
set_option maxHeartbeats 4000000 in
set_option maxRecDepth 100000 in
/-- isRule(k, a, b, c) -/
theorem p_X12_isRule (l : Launch) (dC : Nat → ClassId) (dI : Nat → Nat → Nat) (h0 : Nat) (v : Nat → Value) (h_holders : v 128 = .int 0) (qk : Int32) (qa : Int32) (qb : Int32) (qc : Int32) (sz : Nat) : Met l yX12_isRule wsPX12_isRule ({ frames := 1, cells := 0, slots := 0, locals := 21 }) (va_Pc [.ref h0, .int qk, .int qa, .int qb, .int qc] (fun U => U.heap.size = sz ∧ va_P (dC, dI) vwCl [(h0, .inr (12, fM v))] U.heap ∧ va_K (dC, dI) vwCl [] U ∧ va_D (fun _ => True) [(h0, .inr (12, fM v))])) (va_Qi (fun (r : Int32) (u : Unit) => r = 0) (fun (u : Unit) t => va_P (dC, dI) vwCl [(h0, .inr (12, fM v))] t.heap ∧ va_K (dC, dI) vwCl [] t ∧ va_D (va_A [(h0, .inr (12, fM v))] sz) [(h0, .inr (12, fM v))]) (va_A [(h0, .inr (12, fM v))] sz)) 0 0 (va_A [(h0, .inr (12, fM v))] sz) := by
  refine Met.ofW (cc := cX12_isRule) (maxL := 5) (ret := (some .boolean)) (by decide) rfl ?_
  intro p e s m args below meth c s₁ B hml hv
  obtain ⟨rfl, hsz, hP, hK, hD0⟩ := hv
  have hx := B.exec
  have hb := B.bytes
  have hr := B.returns
  have hts := atoms_spec (ws := wsPX12_isRule) B.pre
  have hown : s.vm.findClass RX12 = some m.cls := findClass_of_methodNamed B.named
  have hlocks := B.notSynchronized
  subst hsz
  have hD := hD0.self (sz := s.heap.size)
  generalize hAe : va_A [(h0, .inr (12, fM v))] s.heap.size = A at hD ⊢
  have hA : ∀ q : Nat, s.heap.size ≤ q → A q := fun q h => by rw [← hAe]; exact Or.inr h
  have hS : va_S A s.heap s.heap [] := va_S.rf
  have hP : va_P (dC, dI) vwCl [(h0, .inr (12, fM v))] s.heap := hP
  have hl := lv_entry ([.ref h0, .int qk, .int qa, .int qb, .int qc]) (n := 5) (Nat.le_of_ble_eq_true rfl)
  rw [lg_entry_eq]
  generalize (lg_sl ([.ref h0, .int qk, .int qa, .int qb, .int qc]) ++ List.replicate (5 - (lg_sl ([.ref h0, .int qk, .int qa, .int qb, .int qc])).length) Slot.unset).toArray = ls at hl ⊢
  have hl : lv_has ls 5 [(0, .ref h0), (1, .int qk), (2, .int qa), (3, .int qb), (4, .int qc)] := hl
  refine lv_iload_n hx hb dX12_isRule_0 rfl (lv_at hl 1 rfl) ?_
  by_cases s_1_0 : qk = 0
  · have ts_1_0 : (qk).toInt = 0 := toI_eq s_1_0 rfl (by decide)
    refine lv_tableIn (off := 35) (tgt := 36) hx hb dX12_isRule_1 (by rw [s_1_0]; decide) (by rw [s_1_0]; decide) (by rw [s_1_0]; decide) (by decide) ?_
    refine lv_aload_n hx hb dX12_isRule_36 rfl (lv_at hl 0 rfl) ?_
    refine lv_iload_n hx hb dX12_isRule_37 rfl (lv_at hl 2 rfl) ?_
    have hPc := hP.sub (ws' := [(h0, .inr (12, fM v))]) [0] rfl
    have hDc := hD.sub (ws' := [(h0, .inr (12, fM v))]) [0] (by decide) rfl
    have hKc := hK.sub (tys' := []) [] rfl
    have hFc := va_free (wc := [(h0, .inr (12, fM v))]) hD hS hA [0] rfl
    refine va_calli (va_runV (As := [.int qa]) (rest := []) ⟨hx, hb, hml, hown, hts⟩ (p_X12_isSet l dC dI h0 v (h_holders) qa s.heap.size) (cwV 1 hts gwsPX12_isRule_0 rfl rfl rfl (by decide +kernel) ⟨by decide +kernel, by decide +kernel⟩) ⟨fun a U g mk q => by obtain ⟨q0, q1, qP, qK, qD⟩ := q; exact ⟨q0, q1, qP, va_K.moved (u := U) (U := U.calling g mk a) (Vm.Alike.refl U.vm) qK, qD⟩, va_recv hKc hPc (ci := 12) (q0 := 0) rfl rfl, fun U hU9 hW => ⟨rfl, by rw [hU9], by rw [hU9]; exact hPc, va_K.moved hW.alike hKc, hDc.weaken (fun _ _ _ _ => trivial)⟩⟩ rfl rfl hl.1 rfl (lv_room (Nat.le_of_ble_eq_true rfl)) dX12_isRule_38 ⟨by decide +kernel, by decide +kernel⟩) hS (fun q _ h => hFc q h) hFc (fun r38 u t H1 locs ht hvm hw hB hz1 hk1 hS => ?_)
    obtain ⟨hP1, hK1, hD1⟩ := hB
    rw [ht] at hP1
    have hK1 := va_K.moved hvm.symm hK1
    obtain ⟨hP, hD⟩ := va_join (wr := []) (w1 := [(h0, .inr (12, fM v))]) hP hD [0] [] rfl rfl (by decide) (by decide) hk1 hFc hP1 hD1
    generalize H1 = H at hP hS ⊢
    have hP : va_P (dC, dI) vwCl [(h0, .inr (12, fM v))] H := hP
    have hD : va_D A [(h0, .inr (12, fM v))] := hD
    obtain rfl := hw
    refine W.widen (k := 0) (n := 0) (by decide +kernel) (by decide +kernel) ?_
    exact W.zret (v := 0) hx hb hr rfl (fun t ht hW => ⟨⟨0, (), rfl, by (first | rfl | assumption | trivial | omega | (simp []; done) | (simp; omega)), by rw [ht]; exact hP.sub [0] rfl, va_K.moved hW.alike (hK.sub [] rfl), hD.sub [0] (by decide) rfl⟩, hS.F ht⟩) hS.2.2 dX12_isRule_41
  · have ts_1_0 : ¬ (qk).toInt = 0 := toI_neq s_1_0 rfl (by decide)
    by_cases s_1_1 : qk = 1
    · have ts_1_1 : (qk).toInt = 1 := toI_eq s_1_1 rfl (by decide)
      refine lv_tableIn (off := 41) (tgt := 42) hx hb dX12_isRule_1 (by rw [s_1_1]; decide) (by rw [s_1_1]; decide) (by rw [s_1_1]; decide) (by decide) ?_
      refine lv_aload_n hx hb dX12_isRule_42 rfl (lv_at hl 0 rfl) ?_
      refine lv_iload_n hx hb dX12_isRule_43 rfl (lv_at hl 2 rfl) ?_
      have hPc := hP.sub (ws' := [(h0, .inr (12, fM v))]) [0] rfl
      have hDc := hD.sub (ws' := [(h0, .inr (12, fM v))]) [0] (by decide) rfl
      have hKc := hK.sub (tys' := []) [] rfl
      have hFc := va_free (wc := [(h0, .inr (12, fM v))]) hD hS hA [0] rfl
      refine va_calli (va_runV (As := [.int qa]) (rest := []) ⟨hx, hb, hml, hown, hts⟩ (p_X12_isHolder l dC dI h0 v (h_holders) qa s.heap.size) (cwV 1 hts gwsPX12_isRule_1 rfl rfl rfl (by decide +kernel) ⟨by decide +kernel, by decide +kernel⟩) ⟨fun a U g mk q => by obtain ⟨q0, q1, qP, qK, qD⟩ := q; exact ⟨q0, q1, qP, va_K.moved (u := U) (U := U.calling g mk a) (Vm.Alike.refl U.vm) qK, qD⟩, va_recv hKc hPc (ci := 12) (q0 := 0) rfl rfl, fun U hU9 hW => ⟨rfl, by rw [hU9], by rw [hU9]; exact hPc, va_K.moved hW.alike hKc, hDc.weaken (fun _ _ _ _ => trivial)⟩⟩ rfl rfl hl.1 rfl (lv_room (Nat.le_of_ble_eq_true rfl)) dX12_isRule_44 ⟨by decide +kernel, by decide +kernel⟩) hS (fun q _ h => hFc q h) hFc (fun r44 u t H1 locs ht hvm hw hB hz1 hk1 hS => ?_)
      obtain ⟨hP1, hK1, hD1⟩ := hB
      rw [ht] at hP1
      have hK1 := va_K.moved hvm.symm hK1
      obtain ⟨hP, hD⟩ := va_join (wr := []) (w1 := [(h0, .inr (12, fM v))]) hP hD [0] [] rfl rfl (by decide) (by decide) hk1 hFc hP1 hD1
      generalize H1 = H at hP hS ⊢
      have hP : va_P (dC, dI) vwCl [(h0, .inr (12, fM v))] H := hP
      have hD : va_D A [(h0, .inr (12, fM v))] := hD
      obtain rfl := hw
      refine lv_if_eq (tgt := 75) hx hb dX12_isRule_47 (by decide) (fun _ => ?_) (fun c9 => absurd (by decide) c9)
      refine lv_iconst (v := 0) hx hb dX12_isRule_75 (by decide) ?_
      refine W.widen (k := 0) (n := 0) (by decide +kernel) (by decide +kernel) ?_
      exact W.zret (v := 0) hx hb hr rfl (fun t ht hW => ⟨⟨0, (), rfl, by (first | rfl | assumption | trivial | omega | (simp []; done) | (simp; omega)), by rw [ht]; exact hP.sub [0] rfl, va_K.moved hW.alike (hK.sub [] rfl), hD.sub [0] (by decide) rfl⟩, hS.F ht⟩) hS.2.2 dX12_isRule_76
    · have ts_1_1 : ¬ (qk).toInt = 1 := toI_neq s_1_1 rfl (by decide)
      by_cases s_1_2 : qk = 2
      · have ts_1_2 : (qk).toInt = 2 := toI_eq s_1_2 rfl (by decide)
        refine lv_tableIn (off := 76) (tgt := 77) hx hb dX12_isRule_1 (by rw [s_1_2]; decide) (by rw [s_1_2]; decide) (by rw [s_1_2]; decide) (by decide) ?_
        refine lv_aload_n hx hb dX12_isRule_77 rfl (lv_at hl 0 rfl) ?_
        refine lv_iload_n hx hb dX12_isRule_78 rfl (lv_at hl 2 rfl) ?_
        have hPc := hP.sub (ws' := [(h0, .inr (12, fM v))]) [0] rfl
        have hDc := hD.sub (ws' := [(h0, .inr (12, fM v))]) [0] (by decide) rfl
        have hKc := hK.sub (tys' := []) [] rfl
        have hFc := va_free (wc := [(h0, .inr (12, fM v))]) hD hS hA [0] rfl
        refine va_calli (va_runV (As := [.int qa]) (rest := []) ⟨hx, hb, hml, hown, hts⟩ (p_X12_isSet l dC dI h0 v (h_holders) qa s.heap.size) (cwV 1 hts gwsPX12_isRule_0 rfl rfl rfl (by decide +kernel) ⟨by decide +kernel, by decide +kernel⟩) ⟨fun a U g mk q => by obtain ⟨q0, q1, qP, qK, qD⟩ := q; exact ⟨q0, q1, qP, va_K.moved (u := U) (U := U.calling g mk a) (Vm.Alike.refl U.vm) qK, qD⟩, va_recv hKc hPc (ci := 12) (q0 := 0) rfl rfl, fun U hU9 hW => ⟨rfl, by rw [hU9], by rw [hU9]; exact hPc, va_K.moved hW.alike hKc, hDc.weaken (fun _ _ _ _ => trivial)⟩⟩ rfl rfl hl.1 rfl (lv_room (Nat.le_of_ble_eq_true rfl)) dX12_isRule_79 ⟨by decide +kernel, by decide +kernel⟩) hS (fun q _ h => hFc q h) hFc (fun r79 u t H1 locs ht hvm hw hB hz1 hk1 hS => ?_)
        obtain ⟨hP1, hK1, hD1⟩ := hB
        rw [ht] at hP1
        have hK1 := va_K.moved hvm.symm hK1
        obtain ⟨hP, hD⟩ := va_join (wr := []) (w1 := [(h0, .inr (12, fM v))]) hP hD [0] [] rfl rfl (by decide) (by decide) hk1 hFc hP1 hD1
        generalize H1 = H at hP hS ⊢
        have hP : va_P (dC, dI) vwCl [(h0, .inr (12, fM v))] H := hP
        have hD : va_D A [(h0, .inr (12, fM v))] := hD
        obtain rfl := hw
        refine lv_if_eq (tgt := 119) hx hb dX12_isRule_82 (by decide) (fun _ => ?_) (fun c9 => absurd (by decide) c9)
        refine lv_iconst (v := 0) hx hb dX12_isRule_119 (by decide) ?_
        refine W.widen (k := 0) (n := 0) (by decide +kernel) (by decide +kernel) ?_
        exact W.zret (v := 0) hx hb hr rfl (fun t ht hW => ⟨⟨0, (), rfl, by (first | rfl | assumption | trivial | omega | (simp []; done) | (simp; omega)), by rw [ht]; exact hP.sub [0] rfl, va_K.moved hW.alike (hK.sub [] rfl), hD.sub [0] (by decide) rfl⟩, hS.F ht⟩) hS.2.2 dX12_isRule_120
      · have ts_1_2 : ¬ (qk).toInt = 2 := toI_neq s_1_2 rfl (by decide)
        by_cases s_1_3 : qk = 3
        · have ts_1_3 : (qk).toInt = 3 := toI_eq s_1_3 rfl (by decide)
          refine lv_tableIn (off := 120) (tgt := 121) hx hb dX12_isRule_1 (by rw [s_1_3]; decide) (by rw [s_1_3]; decide) (by rw [s_1_3]; decide) (by decide) ?_
          refine lv_aload_n hx hb dX12_isRule_121 rfl (lv_at hl 0 rfl) ?_
          refine lv_iload_n hx hb dX12_isRule_122 rfl (lv_at hl 2 rfl) ?_
          have hPc := hP.sub (ws' := [(h0, .inr (12, fM v))]) [0] rfl
          have hDc := hD.sub (ws' := [(h0, .inr (12, fM v))]) [0] (by decide) rfl
          have hKc := hK.sub (tys' := []) [] rfl
          have hFc := va_free (wc := [(h0, .inr (12, fM v))]) hD hS hA [0] rfl
          refine va_calli (va_runV (As := [.int qa]) (rest := []) ⟨hx, hb, hml, hown, hts⟩ (p_X12_isSet l dC dI h0 v (h_holders) qa s.heap.size) (cwV 1 hts gwsPX12_isRule_0 rfl rfl rfl (by decide +kernel) ⟨by decide +kernel, by decide +kernel⟩) ⟨fun a U g mk q => by obtain ⟨q0, q1, qP, qK, qD⟩ := q; exact ⟨q0, q1, qP, va_K.moved (u := U) (U := U.calling g mk a) (Vm.Alike.refl U.vm) qK, qD⟩, va_recv hKc hPc (ci := 12) (q0 := 0) rfl rfl, fun U hU9 hW => ⟨rfl, by rw [hU9], by rw [hU9]; exact hPc, va_K.moved hW.alike hKc, hDc.weaken (fun _ _ _ _ => trivial)⟩⟩ rfl rfl hl.1 rfl (lv_room (Nat.le_of_ble_eq_true rfl)) dX12_isRule_123 ⟨by decide +kernel, by decide +kernel⟩) hS (fun q _ h => hFc q h) hFc (fun r123 u t H1 locs ht hvm hw hB hz1 hk1 hS => ?_)
          obtain ⟨hP1, hK1, hD1⟩ := hB
          rw [ht] at hP1
          have hK1 := va_K.moved hvm.symm hK1
          obtain ⟨hP, hD⟩ := va_join (wr := []) (w1 := [(h0, .inr (12, fM v))]) hP hD [0] [] rfl rfl (by decide) (by decide) hk1 hFc hP1 hD1
          generalize H1 = H at hP hS ⊢
          have hP : va_P (dC, dI) vwCl [(h0, .inr (12, fM v))] H := hP
          have hD : va_D A [(h0, .inr (12, fM v))] := hD
          obtain rfl := hw
          refine lv_if_eq (tgt := 159) hx hb dX12_isRule_126 (by decide) (fun _ => ?_) (fun c9 => absurd (by decide) c9)
          refine lv_iconst (v := 0) hx hb dX12_isRule_159 (by decide) ?_
          refine W.widen (k := 0) (n := 0) (by decide +kernel) (by decide +kernel) ?_
          exact W.zret (v := 0) hx hb hr rfl (fun t ht hW => ⟨⟨0, (), rfl, by (first | rfl | assumption | trivial | omega | (simp []; done) | (simp; omega)), by rw [ht]; exact hP.sub [0] rfl, va_K.moved hW.alike (hK.sub [] rfl), hD.sub [0] (by decide) rfl⟩, hS.F ht⟩) hS.2.2 dX12_isRule_160
        · have ts_1_3 : ¬ (qk).toInt = 3 := toI_neq s_1_3 rfl (by decide)
          by_cases s_1_4 : qk = 4
          · have ts_1_4 : (qk).toInt = 4 := toI_eq s_1_4 rfl (by decide)
            refine lv_tableIn (off := 160) (tgt := 161) hx hb dX12_isRule_1 (by rw [s_1_4]; decide) (by rw [s_1_4]; decide) (by rw [s_1_4]; decide) (by decide) ?_
            refine lv_aload_n hx hb dX12_isRule_161 rfl (lv_at hl 0 rfl) ?_
            refine lv_iload_n hx hb dX12_isRule_162 rfl (lv_at hl 2 rfl) ?_
            have hPc := hP.sub (ws' := [(h0, .inr (12, fM v))]) [0] rfl
            have hDc := hD.sub (ws' := [(h0, .inr (12, fM v))]) [0] (by decide) rfl
            have hKc := hK.sub (tys' := []) [] rfl
            have hFc := va_free (wc := [(h0, .inr (12, fM v))]) hD hS hA [0] rfl
            refine va_calli (va_runV (As := [.int qa]) (rest := []) ⟨hx, hb, hml, hown, hts⟩ (p_X12_isHolder l dC dI h0 v (h_holders) qa s.heap.size) (cwV 1 hts gwsPX12_isRule_1 rfl rfl rfl (by decide +kernel) ⟨by decide +kernel, by decide +kernel⟩) ⟨fun a U g mk q => by obtain ⟨q0, q1, qP, qK, qD⟩ := q; exact ⟨q0, q1, qP, va_K.moved (u := U) (U := U.calling g mk a) (Vm.Alike.refl U.vm) qK, qD⟩, va_recv hKc hPc (ci := 12) (q0 := 0) rfl rfl, fun U hU9 hW => ⟨rfl, by rw [hU9], by rw [hU9]; exact hPc, va_K.moved hW.alike hKc, hDc.weaken (fun _ _ _ _ => trivial)⟩⟩ rfl rfl hl.1 rfl (lv_room (Nat.le_of_ble_eq_true rfl)) dX12_isRule_163 ⟨by decide +kernel, by decide +kernel⟩) hS (fun q _ h => hFc q h) hFc (fun r163 u t H1 locs ht hvm hw hB hz1 hk1 hS => ?_)
            obtain ⟨hP1, hK1, hD1⟩ := hB
            rw [ht] at hP1
            have hK1 := va_K.moved hvm.symm hK1
            obtain ⟨hP, hD⟩ := va_join (wr := []) (w1 := [(h0, .inr (12, fM v))]) hP hD [0] [] rfl rfl (by decide) (by decide) hk1 hFc hP1 hD1
            generalize H1 = H at hP hS ⊢
            have hP : va_P (dC, dI) vwCl [(h0, .inr (12, fM v))] H := hP
            have hD : va_D A [(h0, .inr (12, fM v))] := hD
            obtain rfl := hw
            refine lv_if_eq (tgt := 186) hx hb dX12_isRule_166 (by decide) (fun _ => ?_) (fun c9 => absurd (by decide) c9)
            refine lv_iconst (v := 0) hx hb dX12_isRule_186 (by decide) ?_
            refine W.widen (k := 0) (n := 0) (by decide +kernel) (by decide +kernel) ?_
            exact W.zret (v := 0) hx hb hr rfl (fun t ht hW => ⟨⟨0, (), rfl, by (first | rfl | assumption | trivial | omega | (simp []; done) | (simp; omega)), by rw [ht]; exact hP.sub [0] rfl, va_K.moved hW.alike (hK.sub [] rfl), hD.sub [0] (by decide) rfl⟩, hS.F ht⟩) hS.2.2 dX12_isRule_187
          · have ts_1_4 : ¬ (qk).toInt = 4 := toI_neq s_1_4 rfl (by decide)
            refine lv_tableOut (tgt := 188) hx hb dX12_isRule_1 (by have := lv_neT s_1_0 (show Int32.toInt 0 = 0 by decide); have := lv_neT s_1_1 (show Int32.toInt 1 = 1 by decide); have := lv_neT s_1_2 (show Int32.toInt 2 = 2 by decide); have := lv_neT s_1_3 (show Int32.toInt 3 = 3 by decide); have := lv_neT s_1_4 (show Int32.toInt 4 = 4 by decide); omega) (by decide) ?_
            refine lv_iconst (v := 0) hx hb dX12_isRule_188 (by decide) ?_
            refine W.widen (k := 0) (n := 0) (by decide +kernel) (by decide +kernel) ?_
            exact W.zret (v := 0) hx hb hr rfl (fun t ht hW => ⟨⟨0, (), rfl, by (first | rfl | assumption | trivial | omega | (simp []; done) | (simp; omega)), by rw [ht]; exact hP.sub [0] rfl, va_K.moved hW.alike (hK.sub [] rfl), hD.sub [0] (by decide) rfl⟩, hS.F ht⟩) hS.2.2 dX12_isRule_189
theorem dX12_rule_0 : decode cX12_rule 0 = .ok (.aload_n 0, 1) := by decide +kernel
theorem dX12_rule_1 : decode cX12_rule 1 = .ok (.aload_n 0, 1) := by decide +kernel
theorem dX12_rule_2 : decode cX12_rule 2 = .ok (.iload_n 1, 1) := by decide +kernel
theorem dX12_rule_3 : decode cX12_rule 3 = .ok (.iload_n 2, 1) := by decide +kernel
theorem dX12_rule_4 : decode cX12_rule 4 = .ok (.iload_n 3, 1) := by decide +kernel
theorem dX12_rule_5 : decode cX12_rule 5 = .ok (.iload 4, 2) := by decide +kernel
theorem dX12_rule_7 : decode cX12_rule 7 = .ok (.invokevirtual 987, 3) := by decide +kernel
theorem dX12_rule_10 : decode cX12_rule 10 = .ok (.ifCond .ne 7, 3) := by decide +kernel
theorem dX12_rule_13 : decode cX12_rule 13 = .ok (.iconst 1, 1) := by decide +kernel
theorem dX12_rule_14 : decode cX12_rule 14 = .ok (.goto 17, 3) := by decide +kernel
theorem dX12_rule_31 : decode cX12_rule 31 = .ok (.putfield 348, 3) := by decide +kernel
theorem dX12_rule_34 : decode cX12_rule 34 = .ok (.aload_n 0, 1) := by decide +kernel
theorem dX12_rule_35 : decode cX12_rule 35 = .ok (.getfield 348, 3) := by decide +kernel
theorem dX12_rule_38 : decode cX12_rule 38 = .ok (.ifCond .le 5, 3) := by decide +kernel
theorem dX12_rule_41 : decode cX12_rule 41 = .ok (.iconst 0, 1) := by decide +kernel
theorem dX12_rule_42 : decode cX12_rule 42 = .ok (.ireturn, 1) := by decide +kernel
def wsPX12_rule : List Cond := .code yX12_rule cX12_rule 6 (some .int) :: ([.fieldLink RX12 348 "OptimaWorksModel" "thrown" "I"] ++ wsX120 ++ (wsV RX12 987 RX12 yX12_isRule wsPX12_isRule))
theorem iwsPX12_rule_in12 : ∀ w ∈ wsX120, w ∈ wsPX12_rule := fun _ h => List.mem_cons_of_mem _ (List.mem_append_left _ (List.mem_append_right _ h))
theorem gwsPX12_rule_0 : GoodIn wsPX12_rule (wsV RX12 987 RX12 yX12_isRule wsPX12_isRule) := goodIn_sub (fun _ h => List.mem_cons_of_mem _ (List.mem_append_right _ h)) (by decide +kernel)
set_option maxHeartbeats 4000000 in
set_option maxRecDepth 100000 in
/-- rule(k, a, b, c) -/
theorem p_X12_rule (l : Launch) (dC : Nat → ClassId) (dI : Nat → Nat → Nat) (h0 : Nat) (v : Nat → Value) (h_holders : v 128 = .int 0) (qk : Int32) (qa : Int32) (qb : Int32) (qc : Int32) (sz : Nat) : Met l yX12_rule wsPX12_rule ({ frames := 2, cells := 0, slots := 0, locals := 45 }) (va_Pc [.ref h0, .int qk, .int qa, .int qb, .int qc] (fun U => U.heap.size = sz ∧ va_P (dC, dI) vwCl [(h0, .inr (12, fM v))] U.heap ∧ va_K (dC, dI) vwCl [] U ∧ va_D (fun _ => True) [(h0, .inr (12, fM v))])) (va_Qi (fun (r : Int32) (u : Nat → Value) => r = 0 ∧ (u 0 = .int 1)) (fun (u : Nat → Value) t => va_P (dC, dI) vwCl [(h0, .inr (12, fM u))] t.heap ∧ va_K (dC, dI) vwCl [] t ∧ va_D (va_A [(h0, .inr (12, fM v))] sz) [(h0, .inr (12, fM u))]) (va_A [(h0, .inr (12, fM v))] sz)) 0 0 (va_A [(h0, .inr (12, fM v))] sz) := by
  refine Met.ofW (cc := cX12_rule) (maxL := 6) (ret := (some .int)) (by decide) rfl ?_
  intro p e s m args below meth c s₁ B hml hv
  obtain ⟨rfl, hsz, hP, hK, hD0⟩ := hv
  have hx := B.exec
  have hb := B.bytes
  have hr := B.returns
  have hts := atoms_spec (ws := wsPX12_rule) B.pre
  have hown : s.vm.findClass RX12 = some m.cls := findClass_of_methodNamed B.named
  have hlocks := B.notSynchronized
  subst hsz
  have hD := hD0.self (sz := s.heap.size)
  generalize hAe : va_A [(h0, .inr (12, fM v))] s.heap.size = A at hD ⊢
  have hA : ∀ q : Nat, s.heap.size ≤ q → A q := fun q h => by rw [← hAe]; exact Or.inr h
  have hS : va_S A s.heap s.heap [] := va_S.rf
  have hP : va_P (dC, dI) vwCl [(h0, .inr (12, fM v))] s.heap := hP
  have hl := lv_entry ([.ref h0, .int qk, .int qa, .int qb, .int qc]) (n := 6) (Nat.le_of_ble_eq_true rfl)
  rw [lg_entry_eq]
  generalize (lg_sl ([.ref h0, .int qk, .int qa, .int qb, .int qc]) ++ List.replicate (6 - (lg_sl ([.ref h0, .int qk, .int qa, .int qb, .int qc])).length) Slot.unset).toArray = ls at hl ⊢
  have hl : lv_has ls 6 [(0, .ref h0), (1, .int qk), (2, .int qa), (3, .int qb), (4, .int qc)] := hl
  refine lv_aload_n hx hb dX12_rule_0 rfl (lv_at hl 0 rfl) ?_
  refine lv_aload_n hx hb dX12_rule_1 rfl (lv_at hl 0 rfl) ?_
  refine lv_iload_n hx hb dX12_rule_2 rfl (lv_at hl 1 rfl) ?_
  refine lv_iload_n hx hb dX12_rule_3 rfl (lv_at hl 2 rfl) ?_
  refine lv_iload_n hx hb dX12_rule_4 rfl (lv_at hl 3 rfl) ?_
  refine lv_iload hx hb dX12_rule_5 (lv_at hl 4 rfl) ?_
  have hPc := hP.sub (ws' := [(h0, .inr (12, fM v))]) [0] rfl
  have hDc := hD.sub (ws' := [(h0, .inr (12, fM v))]) [0] (by decide) rfl
  have hKc := hK.sub (tys' := []) [] rfl
  have hFc := va_free (wc := [(h0, .inr (12, fM v))]) hD hS hA [0] rfl
  refine va_calli (va_runV (As := [.int qk, .int qa, .int qb, .int qc]) (rest := [.ref h0]) ⟨hx, hb, hml, hown, hts⟩ (p_X12_isRule l dC dI h0 v (h_holders) qk qa qb qc s.heap.size) (cwV 4 hts gwsPX12_rule_0 rfl rfl rfl (by decide +kernel) ⟨by decide +kernel, by decide +kernel⟩) ⟨fun a U g mk q => by obtain ⟨q0, q1, qP, qK, qD⟩ := q; exact ⟨q0, q1, qP, va_K.moved (u := U) (U := U.calling g mk a) (Vm.Alike.refl U.vm) qK, qD⟩, va_recv hKc hPc (ci := 12) (q0 := 0) rfl rfl, fun U hU9 hW => ⟨rfl, by rw [hU9], by rw [hU9]; exact hPc, va_K.moved hW.alike hKc, hDc.weaken (fun _ _ _ _ => trivial)⟩⟩ rfl rfl hl.1 rfl (lv_room (Nat.le_of_ble_eq_true rfl)) dX12_rule_7 ⟨by decide +kernel, by decide +kernel⟩) hS (fun q _ h => hFc q h) hFc (fun r7 u t H1 locs ht hvm hw hB hz1 hk1 hS => ?_)
  obtain ⟨hP1, hK1, hD1⟩ := hB
  rw [ht] at hP1
  have hK1 := va_K.moved hvm.symm hK1
  obtain ⟨hP, hD⟩ := va_join (wr := []) (w1 := [(h0, .inr (12, fM v))]) hP hD [0] [] rfl rfl (by decide) (by decide) hk1 hFc hP1 hD1
  generalize H1 = H at hP hS ⊢
  have hP : va_P (dC, dI) vwCl [(h0, .inr (12, fM v))] H := hP
  have hD : va_D A [(h0, .inr (12, fM v))] := hD
  obtain rfl := hw
  refine lv_if_ne (tgt := 17) hx hb dX12_rule_10 (by decide) (fun c9 => absurd c9 (by decide)) (fun _ => ?_)
  refine lv_iconst (v := 1) hx hb dX12_rule_13 (by decide) ?_
  refine lv_goto (tgt := 31) hx hb dX12_rule_14 (by decide) ?_
  refine va_put (D := (dC, dI)) (ci := 12) (v := .int 1) (ty := .int) (C := RX12) (T := TX12) (N := 163) hx hb hts iwsPX12_rule_in12 tyX12 tyX12_ok nmX12 hown hK hP hD hS 0 rfl rfl 0 (by decide) (hts (.fieldLink RX12 348 "OptimaWorksModel" "thrown" "I") (by decide +kernel)) (fun _ h9 => h9) rfl (by decide +kernel) rfl rfl (Nat.le_of_ble_eq_true rfl) dX12_rule_31 (fun H locs hP hD hS => ?_)
  have hP : va_P (dC, dI) vwCl [(h0, .inr (12, fM (mUp v 0 (.int 1))))] H := hP
  have hD : va_D A [(h0, .inr (12, fM (mUp v 0 (.int 1))))] := hD
  refine lv_aload_n hx hb dX12_rule_34 rfl (lv_at hl 0 rfl) ?_
  refine va_get (D := (dC, dI)) (ci := 12) (v := .int 1) (C := RX12) (T := TX12) (N := 163) hx hb hts iwsPX12_rule_in12 hown hK hP 0 rfl rfl 0 (by decide) (hts (.fieldLink RX12 348 "OptimaWorksModel" "thrown" "I") (by decide +kernel)) (fun _ h9 => h9) rfl dX12_rule_35 ?_
  refine lv_if_le (tgt := 43) hx hb dX12_rule_38 (by decide) (fun c9 => absurd c9 (by decide)) (fun _ => ?_)
  refine lv_iconst (v := 0) hx hb dX12_rule_41 (by decide) ?_
  refine W.widen (k := 0) (n := 0) (by decide +kernel) (by decide +kernel) ?_
  exact W.iret (v := 0) hx hb hr (fun t ht hW => ⟨⟨0, (mUp v 0 (.int 1)), rfl, by (refine ⟨?_, ?_⟩ <;> (first | rfl | assumption | trivial | omega | (simp []; done) | (simp; omega))), by rw [ht]; exact hP.sub [0] rfl, va_K.moved hW.alike (hK.sub [] rfl), hD.sub [0] (by decide) rfl⟩, hS.F ht⟩) hS.2.2 dX12_rule_42
theorem dX12_pair_0 : decode cX12_pair 0 = .ok (.aload_n 0, 1) := by decide +kernel
theorem dX12_pair_1 : decode cX12_pair 1 = .ok (.iconst 0, 1) := by decide +kernel
theorem dX12_pair_2 : decode cX12_pair 2 = .ok (.putfield 348, 3) := by decide +kernel
theorem dX12_pair_5 : decode cX12_pair 5 = .ok (.iload_n 1, 1) := by decide +kernel
theorem dX12_pair_6 : decode cX12_pair 6 = .ok (.ifCond .lt 20, 3) := by decide +kernel
theorem dX12_pair_9 : decode cX12_pair 9 = .ok (.iload_n 1, 1) := by decide +kernel
theorem dX12_pair_10 : decode cX12_pair 10 = .ok (.bipush 15, 2) := by decide +kernel
theorem dX12_pair_12 : decode cX12_pair 12 = .ok (.if_icmp .gt 14, 3) := by decide +kernel
theorem dX12_pair_15 : decode cX12_pair 15 = .ok (.iload_n 2, 1) := by decide +kernel
theorem dX12_pair_16 : decode cX12_pair 16 = .ok (.ifCond .lt 10, 3) := by decide +kernel
theorem dX12_pair_19 : decode cX12_pair 19 = .ok (.iload_n 2, 1) := by decide +kernel
theorem dX12_pair_20 : decode cX12_pair 20 = .ok (.ldc_w 993, 3) := by decide +kernel
theorem dX12_pair_23 : decode cX12_pair 23 = .ok (.if_icmp .le 5, 3) := by decide +kernel
theorem dX12_pair_26 : decode cX12_pair 26 = .ok (.iconst 0, 1) := by decide +kernel
theorem dX12_pair_27 : decode cX12_pair 27 = .ok (.ireturn, 1) := by decide +kernel
theorem dX12_pair_28 : decode cX12_pair 28 = .ok (.aload_n 0, 1) := by decide +kernel
theorem dX12_pair_29 : decode cX12_pair 29 = .ok (.getfield 278, 3) := by decide +kernel
theorem dX12_pair_32 : decode cX12_pair 32 = .ok (.iload_n 1, 1) := by decide +kernel
theorem dX12_pair_33 : decode cX12_pair 33 = .ok (.iload_n 2, 1) := by decide +kernel
theorem dX12_pair_34 : decode cX12_pair 34 = .ok (.iastore, 1) := by decide +kernel
theorem dX12_pair_35 : decode cX12_pair 35 = .ok (.iconst 1, 1) := by decide +kernel
theorem dX12_pair_36 : decode cX12_pair 36 = .ok (.ireturn, 1) := by decide +kernel
def wsPX12_pair : List Cond := .code yX12_pair cX12_pair 3 (some .boolean) :: ([.fieldLink RX12 348 "OptimaWorksModel" "thrown" "I", .constant RX12 993 65535, .fieldLink RX12 278 "OptimaWorksModel" "pairs" "[I"] ++ wsX120)
theorem iwsPX12_pair_in12 : ∀ w ∈ wsX120, w ∈ wsPX12_pair := fun _ h => List.mem_cons_of_mem _ (List.mem_append_right _ h)
set_option maxHeartbeats 4000000 in
set_option maxRecDepth 100000 in
/-- pair(v, bits) -/
theorem p_X12_pair (l : Launch) (dC : Nat → ClassId) (dI : Nat → Nat → Nat) (h0 : Nat) (v : Nat → Value) (b_pairs : Nat) (h_pairs : v 137 = .ref b_pairs) (k_pairs : ClassId) (r_pairs : Nat → Int32) (qv : Int32) (qb : Int32) (sz : Nat) : Met l yX12_pair wsPX12_pair ({ frames := 0, cells := 0, slots := 0, locals := 0 }) (va_Pc [.ref h0, .int qv, .int qb] (fun U => U.heap.size = sz ∧ va_P (dC, dI) vwCl [(h0, .inr (12, fM v)), (b_pairs, .inl (k_pairs, 16, .inl r_pairs))] U.heap ∧ va_K (dC, dI) vwCl [(k_pairs, .int)] U ∧ va_D (fun _ => True) [(h0, .inr (12, fM v)), (b_pairs, .inl (k_pairs, 16, .inl r_pairs))])) (va_Qi (fun (r : Int32) (u : Nat → Value) => (r = 0 ∧ ((qv).toInt < 0 ∨ 15 < (qv).toInt ∨ (qb).toInt < 0 ∨ 65535 < (qb).toInt) ∧ (u 0 = .int 0)) ∨ (r = 1 ∧ (0 ≤ (qv).toInt ∧ (qv).toInt ≤ 15 ∧ 0 ≤ (qb).toInt ∧ (qb).toInt ≤ 65535) ∧ (u 0 = .int 0))) (fun (u : Nat → Value) t => va_P (dC, dI) vwCl [(h0, .inr (12, fM u))] t.heap ∧ va_K (dC, dI) vwCl [] t ∧ va_D (va_A [(h0, .inr (12, fM v)), (b_pairs, .inl (k_pairs, 16, .inl r_pairs))] sz) [(h0, .inr (12, fM u))]) (va_A [(h0, .inr (12, fM v)), (b_pairs, .inl (k_pairs, 16, .inl r_pairs))] sz)) 0 0 (va_A [(h0, .inr (12, fM v)), (b_pairs, .inl (k_pairs, 16, .inl r_pairs))] sz) := by
  refine Met.ofW (cc := cX12_pair) (maxL := 3) (ret := (some .boolean)) (by decide) rfl ?_
  intro p e s m args below meth c s₁ B hml hv
  obtain ⟨rfl, hsz, hP, hK, hD0⟩ := hv
  have hx := B.exec
  have hb := B.bytes
  have hr := B.returns
  have hts := atoms_spec (ws := wsPX12_pair) B.pre
  have hown : s.vm.findClass RX12 = some m.cls := findClass_of_methodNamed B.named
  have hlocks := B.notSynchronized
  subst hsz
  have hD := hD0.self (sz := s.heap.size)
  generalize hAe : va_A [(h0, .inr (12, fM v)), (b_pairs, .inl (k_pairs, 16, .inl r_pairs))] s.heap.size = A at hD ⊢
  have hA : ∀ q : Nat, s.heap.size ≤ q → A q := fun q h => by rw [← hAe]; exact Or.inr h
  have hS : va_S A s.heap s.heap [] := va_S.rf
  have hP : va_P (dC, dI) vwCl [(h0, .inr (12, fM v)), (b_pairs, .inl (k_pairs, 16, .inl r_pairs))] s.heap := hP
  have hl := lv_entry ([.ref h0, .int qv, .int qb]) (n := 3) (Nat.le_of_ble_eq_true rfl)
  rw [lg_entry_eq]
  generalize (lg_sl ([.ref h0, .int qv, .int qb]) ++ List.replicate (3 - (lg_sl ([.ref h0, .int qv, .int qb])).length) Slot.unset).toArray = ls at hl ⊢
  have hl : lv_has ls 3 [(0, .ref h0), (1, .int qv), (2, .int qb)] := hl
  refine lv_aload_n hx hb dX12_pair_0 rfl (lv_at hl 0 rfl) ?_
  refine lv_iconst (v := 0) hx hb dX12_pair_1 (by decide) ?_
  refine va_put (D := (dC, dI)) (ci := 12) (v := .int 0) (ty := .int) (C := RX12) (T := TX12) (N := 163) hx hb hts iwsPX12_pair_in12 tyX12 tyX12_ok nmX12 hown hK hP hD hS 0 rfl rfl 0 (by decide) (hts (.fieldLink RX12 348 "OptimaWorksModel" "thrown" "I") (by decide +kernel)) (fun _ h9 => h9) rfl (by decide +kernel) rfl rfl (Nat.le_of_ble_eq_true rfl) dX12_pair_2 (fun H locs hP hD hS => ?_)
  have hP : va_P (dC, dI) vwCl [(h0, .inr (12, fM (mUp v 0 (.int 0)))), (b_pairs, .inl (k_pairs, 16, .inl r_pairs))] H := hP
  have hD : va_D A [(h0, .inr (12, fM (mUp v 0 (.int 0)))), (b_pairs, .inl (k_pairs, 16, .inl r_pairs))] := hD
  refine lv_iload_n hx hb dX12_pair_5 rfl (lv_at hl 1 rfl) ?_
  refine lv_if_lt (tgt := 26) hx hb dX12_pair_6 (by decide) (fun c_6 => ?_) (fun c_6 => ?_)
  · have t_6 : (qv).toInt < 0 := toI_lt c_6 rfl (by decide)
    refine lv_iconst (v := 0) hx hb dX12_pair_26 (by decide) ?_
    refine W.widen (k := 0) (n := 0) (by decide +kernel) (by decide +kernel) ?_
    exact W.zret (v := 0) hx hb hr rfl (fun t ht hW => ⟨⟨0, (mUp v 0 (.int 0)), rfl, by first | (left; (refine ⟨?_, ?_, ?_⟩ <;> (first | rfl | assumption | trivial | omega | (simp [c_6]; done) | (simp; omega)))) | (right; (refine ⟨?_, ?_, ?_⟩ <;> (first | rfl | assumption | trivial | omega | (simp [c_6]; done) | (simp; omega)))), by rw [ht]; exact hP.sub [0] rfl, va_K.moved hW.alike (hK.sub [] rfl), hD.sub [0] (by decide) rfl⟩, hS.F ht⟩) hS.2.2 dX12_pair_27
  · have t_6 : ¬ (qv).toInt < 0 := toI_nlt c_6 rfl (by decide)
    refine lv_iload_n hx hb dX12_pair_9 rfl (lv_at hl 1 rfl) ?_
    refine lv_bipush (v := 15) hx hb dX12_pair_10 (by decide) ?_
    refine lv_icmp_gt (tgt := 26) hx hb dX12_pair_12 (by decide) (fun c_12 => ?_) (fun c_12 => ?_)
    · have t_12 : (qv).toInt > 15 := toI_gt c_12 rfl (by decide)
      refine lv_iconst (v := 0) hx hb dX12_pair_26 (by decide) ?_
      refine W.widen (k := 0) (n := 0) (by decide +kernel) (by decide +kernel) ?_
      exact W.zret (v := 0) hx hb hr rfl (fun t ht hW => ⟨⟨0, (mUp v 0 (.int 0)), rfl, by first | (left; (refine ⟨?_, ?_, ?_⟩ <;> (first | rfl | assumption | trivial | omega | (simp [c_6, c_12]; done) | (simp; omega)))) | (right; (refine ⟨?_, ?_, ?_⟩ <;> (first | rfl | assumption | trivial | omega | (simp [c_6, c_12]; done) | (simp; omega)))), by rw [ht]; exact hP.sub [0] rfl, va_K.moved hW.alike (hK.sub [] rfl), hD.sub [0] (by decide) rfl⟩, hS.F ht⟩) hS.2.2 dX12_pair_27
    · have t_12 : ¬ (qv).toInt > 15 := toI_ngt c_12 rfl (by decide)
      refine lv_iload_n hx hb dX12_pair_15 rfl (lv_at hl 2 rfl) ?_
      refine lv_if_lt (tgt := 26) hx hb dX12_pair_16 (by decide) (fun c_16 => ?_) (fun c_16 => ?_)
      · have t_16 : (qb).toInt < 0 := toI_lt c_16 rfl (by decide)
        refine lv_iconst (v := 0) hx hb dX12_pair_26 (by decide) ?_
        refine W.widen (k := 0) (n := 0) (by decide +kernel) (by decide +kernel) ?_
        exact W.zret (v := 0) hx hb hr rfl (fun t ht hW => ⟨⟨0, (mUp v 0 (.int 0)), rfl, by first | (left; (refine ⟨?_, ?_, ?_⟩ <;> (first | rfl | assumption | trivial | omega | (simp [c_6, c_12, c_16]; done) | (simp; omega)))) | (right; (refine ⟨?_, ?_, ?_⟩ <;> (first | rfl | assumption | trivial | omega | (simp [c_6, c_12, c_16]; done) | (simp; omega)))), by rw [ht]; exact hP.sub [0] rfl, va_K.moved hW.alike (hK.sub [] rfl), hD.sub [0] (by decide) rfl⟩, hS.F ht⟩) hS.2.2 dX12_pair_27
      · have t_16 : ¬ (qb).toInt < 0 := toI_nlt c_16 rfl (by decide)
        refine lv_iload_n hx hb dX12_pair_19 rfl (lv_at hl 2 rfl) ?_
        refine lv_ldcw (v := 65535) hx hb hown (hts (.constant RX12 993 65535) (by decide +kernel)) dX12_pair_20 ?_
        refine lv_icmp_le (tgt := 28) hx hb dX12_pair_23 (by decide) (fun c_23 => ?_) (fun c_23 => ?_)
        · have t_23 : (qb).toInt ≤ 65535 := toI_le c_23 rfl (by decide)
          refine lv_aload_n hx hb dX12_pair_28 rfl (lv_at hl 0 rfl) ?_
          refine va_get (D := (dC, dI)) (ci := 12) (v := .ref b_pairs) (C := RX12) (T := TX12) (N := 163) hx hb hts iwsPX12_pair_in12 hown hK hP 0 rfl rfl 137 (by decide) (hts (.fieldLink RX12 278 "OptimaWorksModel" "pairs" "[I") (by decide +kernel)) (fun _ h9 => h9) (congrArg some h_pairs) dX12_pair_29 ?_
          refine lv_iload_n hx hb dX12_pair_32 rfl (lv_at hl 1 rfl) ?_
          refine lv_iload_n hx hb dX12_pair_33 rfl (lv_at hl 2 rfl) ?_
          refine va_iast hx hb hK hP hD hS 1 0 rfl rfl (vp_in_iff.mpr (by omega)) dX12_pair_34 (fun H locs hP hD hS => ?_)
          have hP : va_P (dC, dI) vwCl [(h0, .inr (12, fM (mUp v 0 (.int 0)))), (b_pairs, .inl (k_pairs, 16, .inl (upd r_pairs (qv).toNatClampNeg qb)))] H := hP
          have hD : va_D A [(h0, .inr (12, fM (mUp v 0 (.int 0)))), (b_pairs, .inl (k_pairs, 16, .inl (upd r_pairs (qv).toNatClampNeg qb)))] := hD
          refine lv_iconst (v := 1) hx hb dX12_pair_35 (by decide) ?_
          refine W.widen (k := 0) (n := 0) (by decide +kernel) (by decide +kernel) ?_
          exact W.zret (v := 1) hx hb hr rfl (fun t ht hW => ⟨⟨1, (mUp v 0 (.int 0)), rfl, by first | (left; (refine ⟨?_, ?_, ?_⟩ <;> (first | rfl | assumption | trivial | omega | (simp [c_6, c_12, c_16, c_23]; done) | (simp; omega)))) | (right; (refine ⟨?_, ?_, ?_⟩ <;> (first | rfl | assumption | trivial | omega | (simp [c_6, c_12, c_16, c_23]; done) | (simp; omega)))), by rw [ht]; exact hP.sub [0] rfl, va_K.moved hW.alike (hK.sub [] rfl), hD.sub [0] (by decide) rfl⟩, hS.F ht⟩) hS.2.2 dX12_pair_36
        · have t_23 : ¬ (qb).toInt ≤ 65535 := toI_nle c_23 rfl (by decide)
          refine lv_iconst (v := 0) hx hb dX12_pair_26 (by decide) ?_
          refine W.widen (k := 0) (n := 0) (by decide +kernel) (by decide +kernel) ?_
          exact W.zret (v := 0) hx hb hr rfl (fun t ht hW => ⟨⟨0, (mUp v 0 (.int 0)), rfl, by first | (left; (refine ⟨?_, ?_, ?_⟩ <;> (first | rfl | assumption | trivial | omega | (simp [c_6, c_12, c_16, c_23]; done) | (simp; omega)))) | (right; (refine ⟨?_, ?_, ?_⟩ <;> (first | rfl | assumption | trivial | omega | (simp [c_6, c_12, c_16, c_23]; done) | (simp; omega)))), by rw [ht]; exact hP.sub [0] rfl, va_K.moved hW.alike (hK.sub [] rfl), hD.sub [0] (by decide) rfl⟩, hS.F ht⟩) hS.2.2 dX12_pair_27
theorem dX12_left_0 : decode cX12_left 0 = .ok (.aload_n 0, 1) := by decide +kernel
theorem dX12_left_1 : decode cX12_left 1 = .ok (.iconst 0, 1) := by decide +kernel
theorem dX12_left_2 : decode cX12_left 2 = .ok (.putfield 348, 3) := by decide +kernel
theorem dX12_left_5 : decode cX12_left 5 = .ok (.aload_n 0, 1) := by decide +kernel
theorem dX12_left_6 : decode cX12_left 6 = .ok (.iload_n 1, 1) := by decide +kernel
theorem dX12_left_7 : decode cX12_left 7 = .ok (.invokevirtual 984, 3) := by decide +kernel
theorem dX12_left_10 : decode cX12_left 10 = .ok (.ifCond .ne 5, 3) := by decide +kernel
theorem dX12_left_13 : decode cX12_left 13 = .ok (.iconst (-1), 1) := by decide +kernel
theorem dX12_left_14 : decode cX12_left 14 = .ok (.ireturn, 1) := by decide +kernel
def wsPX12_left : List Cond := .code yX12_left cX12_left 2 (some .int) :: ([.fieldLink RX12 348 "OptimaWorksModel" "thrown" "I"] ++ wsX120 ++ (wsV RX12 984 RX12 yX12_isHolder wsPX12_isHolder))
theorem iwsPX12_left_in12 : ∀ w ∈ wsX120, w ∈ wsPX12_left := fun _ h => List.mem_cons_of_mem _ (List.mem_append_left _ (List.mem_append_right _ h))
theorem gwsPX12_left_0 : GoodIn wsPX12_left (wsV RX12 984 RX12 yX12_isHolder wsPX12_isHolder) := goodIn_sub (fun _ h => List.mem_cons_of_mem _ (List.mem_append_right _ h)) (by decide +kernel)
set_option maxHeartbeats 4000000 in
set_option maxRecDepth 100000 in
/-- left(h) -/
theorem p_X12_left (l : Launch) (dC : Nat → ClassId) (dI : Nat → Nat → Nat) (h0 : Nat) (v : Nat → Value) (h_holders : v 128 = .int 0) (qh : Int32) (sz : Nat) : Met l yX12_left wsPX12_left ({ frames := 1, cells := 0, slots := 0, locals := 21 }) (va_Pc [.ref h0, .int qh] (fun U => U.heap.size = sz ∧ va_P (dC, dI) vwCl [(h0, .inr (12, fM v))] U.heap ∧ va_K (dC, dI) vwCl [] U ∧ va_D (fun _ => True) [(h0, .inr (12, fM v))])) (va_Qi (fun (r : Int32) (u : Nat → Value) => r = (-1) ∧ (u 0 = .int 0)) (fun (u : Nat → Value) t => va_P (dC, dI) vwCl [(h0, .inr (12, fM u))] t.heap ∧ va_K (dC, dI) vwCl [] t ∧ va_D (va_A [(h0, .inr (12, fM v))] sz) [(h0, .inr (12, fM u))]) (va_A [(h0, .inr (12, fM v))] sz)) 0 0 (va_A [(h0, .inr (12, fM v))] sz) := by
  refine Met.ofW (cc := cX12_left) (maxL := 2) (ret := (some .int)) (by decide) rfl ?_
  intro p e s m args below meth c s₁ B hml hv
  obtain ⟨rfl, hsz, hP, hK, hD0⟩ := hv
  have hx := B.exec
  have hb := B.bytes
  have hr := B.returns
  have hts := atoms_spec (ws := wsPX12_left) B.pre
  have hown : s.vm.findClass RX12 = some m.cls := findClass_of_methodNamed B.named
  have hlocks := B.notSynchronized
  subst hsz
  have hD := hD0.self (sz := s.heap.size)
  generalize hAe : va_A [(h0, .inr (12, fM v))] s.heap.size = A at hD ⊢
  have hA : ∀ q : Nat, s.heap.size ≤ q → A q := fun q h => by rw [← hAe]; exact Or.inr h
  have hS : va_S A s.heap s.heap [] := va_S.rf
  have hP : va_P (dC, dI) vwCl [(h0, .inr (12, fM v))] s.heap := hP
  have hl := lv_entry ([.ref h0, .int qh]) (n := 2) (Nat.le_of_ble_eq_true rfl)
  rw [lg_entry_eq]
  generalize (lg_sl ([.ref h0, .int qh]) ++ List.replicate (2 - (lg_sl ([.ref h0, .int qh])).length) Slot.unset).toArray = ls at hl ⊢
  have hl : lv_has ls 2 [(0, .ref h0), (1, .int qh)] := hl
  refine lv_aload_n hx hb dX12_left_0 rfl (lv_at hl 0 rfl) ?_
  refine lv_iconst (v := 0) hx hb dX12_left_1 (by decide) ?_
  refine va_put (D := (dC, dI)) (ci := 12) (v := .int 0) (ty := .int) (C := RX12) (T := TX12) (N := 163) hx hb hts iwsPX12_left_in12 tyX12 tyX12_ok nmX12 hown hK hP hD hS 0 rfl rfl 0 (by decide) (hts (.fieldLink RX12 348 "OptimaWorksModel" "thrown" "I") (by decide +kernel)) (fun _ h9 => h9) rfl (by decide +kernel) rfl rfl (Nat.le_of_ble_eq_true rfl) dX12_left_2 (fun H locs hP hD hS => ?_)
  have hP : va_P (dC, dI) vwCl [(h0, .inr (12, fM (mUp v 0 (.int 0))))] H := hP
  have hD : va_D A [(h0, .inr (12, fM (mUp v 0 (.int 0))))] := hD
  refine lv_aload_n hx hb dX12_left_5 rfl (lv_at hl 0 rfl) ?_
  refine lv_iload_n hx hb dX12_left_6 rfl (lv_at hl 1 rfl) ?_
  have hPc := hP.sub (ws' := [(h0, .inr (12, fM (mUp v 0 (.int 0))))]) [0] rfl
  have hDc := hD.sub (ws' := [(h0, .inr (12, fM (mUp v 0 (.int 0))))]) [0] (by decide) rfl
  have hKc := hK.sub (tys' := []) [] rfl
  have hFc := va_free (wc := [(h0, .inr (12, fM (mUp v 0 (.int 0))))]) hD hS hA [0] rfl
  refine va_calli (va_runV (As := [.int qh]) (rest := []) ⟨hx, hb, hml, hown, hts⟩ (p_X12_isHolder l dC dI h0 (mUp v 0 (.int 0)) (h_holders) qh H.size) (cwV 1 hts gwsPX12_left_0 rfl rfl rfl (by decide +kernel) ⟨by decide +kernel, by decide +kernel⟩) ⟨fun a U g mk q => by obtain ⟨q0, q1, qP, qK, qD⟩ := q; exact ⟨q0, q1, qP, va_K.moved (u := U) (U := U.calling g mk a) (Vm.Alike.refl U.vm) qK, qD⟩, va_recv hKc hPc (ci := 12) (q0 := 0) rfl rfl, fun U hU9 hW => ⟨rfl, by rw [hU9], by rw [hU9]; exact hPc, va_K.moved hW.alike hKc, hDc.weaken (fun _ _ _ _ => trivial)⟩⟩ rfl rfl hl.1 rfl (lv_room (Nat.le_of_ble_eq_true rfl)) dX12_left_7 ⟨by decide +kernel, by decide +kernel⟩) hS (fun q _ h => hFc q h) hFc (fun r7 u t H1 locs ht hvm hw hB hz1 hk1 hS => ?_)
  obtain ⟨hP1, hK1, hD1⟩ := hB
  rw [ht] at hP1
  have hK1 := va_K.moved hvm.symm hK1
  obtain ⟨hP, hD⟩ := va_join (wr := []) (w1 := [(h0, .inr (12, fM ((mUp v 0 (.int 0)))))]) hP hD [0] [] rfl rfl (by decide) (by decide) hk1 hFc hP1 hD1
  generalize H1 = H at hP hS ⊢
  have hP : va_P (dC, dI) vwCl [(h0, .inr (12, fM ((mUp v 0 (.int 0)))))] H := hP
  have hD : va_D A [(h0, .inr (12, fM ((mUp v 0 (.int 0)))))] := hD
  obtain rfl := hw
  refine lv_if_ne (tgt := 15) hx hb dX12_left_10 (by decide) (fun c9 => absurd c9 (by decide)) (fun _ => ?_)
  refine lv_iconst (v := (-1)) hx hb dX12_left_13 (by decide) ?_
  refine W.widen (k := 0) (n := 0) (by decide +kernel) (by decide +kernel) ?_
  exact W.iret (v := (-1)) hx hb hr (fun t ht hW => ⟨⟨(-1), (mUp v 0 (.int 0)), rfl, by (refine ⟨?_, ?_⟩ <;> (first | rfl | assumption | trivial | omega | (simp []; done) | (simp; omega))), by rw [ht]; exact hP.sub [0] rfl, va_K.moved hW.alike (hK.sub [] rfl), hD.sub [0] (by decide) rfl⟩, hS.F ht⟩) hS.2.2 dX12_left_14
theorem dX12_reason_0 : decode cX12_reason 0 = .ok (.aload_n 0, 1) := by decide +kernel
theorem dX12_reason_1 : decode cX12_reason 1 = .ok (.iconst 0, 1) := by decide +kernel
theorem dX12_reason_2 : decode cX12_reason 2 = .ok (.putfield 348, 3) := by decide +kernel
theorem dX12_reason_5 : decode cX12_reason 5 = .ok (.aload_n 0, 1) := by decide +kernel
theorem dX12_reason_6 : decode cX12_reason 6 = .ok (.iload_n 1, 1) := by decide +kernel
theorem dX12_reason_7 : decode cX12_reason 7 = .ok (.invokevirtual 984, 3) := by decide +kernel
theorem dX12_reason_10 : decode cX12_reason 10 = .ok (.ifCond .eq 26, 3) := by decide +kernel
theorem dX12_reason_36 : decode cX12_reason 36 = .ok (.iconst (-1), 1) := by decide +kernel
theorem dX12_reason_37 : decode cX12_reason 37 = .ok (.ireturn, 1) := by decide +kernel
def wsPX12_reason : List Cond := .code yX12_reason cX12_reason 4 (some .int) :: ([.fieldLink RX12 348 "OptimaWorksModel" "thrown" "I"] ++ wsX120 ++ (wsV RX12 984 RX12 yX12_isHolder wsPX12_isHolder))
theorem iwsPX12_reason_in12 : ∀ w ∈ wsX120, w ∈ wsPX12_reason := fun _ h => List.mem_cons_of_mem _ (List.mem_append_left _ (List.mem_append_right _ h))
theorem gwsPX12_reason_0 : GoodIn wsPX12_reason (wsV RX12 984 RX12 yX12_isHolder wsPX12_isHolder) := goodIn_sub (fun _ h => List.mem_cons_of_mem _ (List.mem_append_right _ h)) (by decide +kernel)
set_option maxHeartbeats 4000000 in
set_option maxRecDepth 100000 in
/-- reason(h, v) -/
theorem p_X12_reason (l : Launch) (dC : Nat → ClassId) (dI : Nat → Nat → Nat) (h0 : Nat) (v : Nat → Value) (h_holders : v 128 = .int 0) (qh : Int32) (qv : Int32) (sz : Nat) : Met l yX12_reason wsPX12_reason ({ frames := 1, cells := 0, slots := 0, locals := 21 }) (va_Pc [.ref h0, .int qh, .int qv] (fun U => U.heap.size = sz ∧ va_P (dC, dI) vwCl [(h0, .inr (12, fM v))] U.heap ∧ va_K (dC, dI) vwCl [] U ∧ va_D (fun _ => True) [(h0, .inr (12, fM v))])) (va_Qi (fun (r : Int32) (u : Nat → Value) => r = (-1) ∧ (u 0 = .int 0)) (fun (u : Nat → Value) t => va_P (dC, dI) vwCl [(h0, .inr (12, fM u))] t.heap ∧ va_K (dC, dI) vwCl [] t ∧ va_D (va_A [(h0, .inr (12, fM v))] sz) [(h0, .inr (12, fM u))]) (va_A [(h0, .inr (12, fM v))] sz)) 0 0 (va_A [(h0, .inr (12, fM v))] sz) := by
  refine Met.ofW (cc := cX12_reason) (maxL := 4) (ret := (some .int)) (by decide) rfl ?_
  intro p e s m args below meth c s₁ B hml hv
  obtain ⟨rfl, hsz, hP, hK, hD0⟩ := hv
  have hx := B.exec
  have hb := B.bytes
  have hr := B.returns
  have hts := atoms_spec (ws := wsPX12_reason) B.pre
  have hown : s.vm.findClass RX12 = some m.cls := findClass_of_methodNamed B.named
  have hlocks := B.notSynchronized
  subst hsz
  have hD := hD0.self (sz := s.heap.size)
  generalize hAe : va_A [(h0, .inr (12, fM v))] s.heap.size = A at hD ⊢
  have hA : ∀ q : Nat, s.heap.size ≤ q → A q := fun q h => by rw [← hAe]; exact Or.inr h
  have hS : va_S A s.heap s.heap [] := va_S.rf
  have hP : va_P (dC, dI) vwCl [(h0, .inr (12, fM v))] s.heap := hP
  have hl := lv_entry ([.ref h0, .int qh, .int qv]) (n := 4) (Nat.le_of_ble_eq_true rfl)
  rw [lg_entry_eq]
  generalize (lg_sl ([.ref h0, .int qh, .int qv]) ++ List.replicate (4 - (lg_sl ([.ref h0, .int qh, .int qv])).length) Slot.unset).toArray = ls at hl ⊢
  have hl : lv_has ls 4 [(0, .ref h0), (1, .int qh), (2, .int qv)] := hl
  refine lv_aload_n hx hb dX12_reason_0 rfl (lv_at hl 0 rfl) ?_
  refine lv_iconst (v := 0) hx hb dX12_reason_1 (by decide) ?_
  refine va_put (D := (dC, dI)) (ci := 12) (v := .int 0) (ty := .int) (C := RX12) (T := TX12) (N := 163) hx hb hts iwsPX12_reason_in12 tyX12 tyX12_ok nmX12 hown hK hP hD hS 0 rfl rfl 0 (by decide) (hts (.fieldLink RX12 348 "OptimaWorksModel" "thrown" "I") (by decide +kernel)) (fun _ h9 => h9) rfl (by decide +kernel) rfl rfl (Nat.le_of_ble_eq_true rfl) dX12_reason_2 (fun H locs hP hD hS => ?_)
  have hP : va_P (dC, dI) vwCl [(h0, .inr (12, fM (mUp v 0 (.int 0))))] H := hP
  have hD : va_D A [(h0, .inr (12, fM (mUp v 0 (.int 0))))] := hD
  refine lv_aload_n hx hb dX12_reason_5 rfl (lv_at hl 0 rfl) ?_
  refine lv_iload_n hx hb dX12_reason_6 rfl (lv_at hl 1 rfl) ?_
  have hPc := hP.sub (ws' := [(h0, .inr (12, fM (mUp v 0 (.int 0))))]) [0] rfl
  have hDc := hD.sub (ws' := [(h0, .inr (12, fM (mUp v 0 (.int 0))))]) [0] (by decide) rfl
  have hKc := hK.sub (tys' := []) [] rfl
  have hFc := va_free (wc := [(h0, .inr (12, fM (mUp v 0 (.int 0))))]) hD hS hA [0] rfl
  refine va_calli (va_runV (As := [.int qh]) (rest := []) ⟨hx, hb, hml, hown, hts⟩ (p_X12_isHolder l dC dI h0 (mUp v 0 (.int 0)) (h_holders) qh H.size) (cwV 1 hts gwsPX12_reason_0 rfl rfl rfl (by decide +kernel) ⟨by decide +kernel, by decide +kernel⟩) ⟨fun a U g mk q => by obtain ⟨q0, q1, qP, qK, qD⟩ := q; exact ⟨q0, q1, qP, va_K.moved (u := U) (U := U.calling g mk a) (Vm.Alike.refl U.vm) qK, qD⟩, va_recv hKc hPc (ci := 12) (q0 := 0) rfl rfl, fun U hU9 hW => ⟨rfl, by rw [hU9], by rw [hU9]; exact hPc, va_K.moved hW.alike hKc, hDc.weaken (fun _ _ _ _ => trivial)⟩⟩ rfl rfl hl.1 rfl (lv_room (Nat.le_of_ble_eq_true rfl)) dX12_reason_7 ⟨by decide +kernel, by decide +kernel⟩) hS (fun q _ h => hFc q h) hFc (fun r7 u t H1 locs ht hvm hw hB hz1 hk1 hS => ?_)
  obtain ⟨hP1, hK1, hD1⟩ := hB
  rw [ht] at hP1
  have hK1 := va_K.moved hvm.symm hK1
  obtain ⟨hP, hD⟩ := va_join (wr := []) (w1 := [(h0, .inr (12, fM ((mUp v 0 (.int 0)))))]) hP hD [0] [] rfl rfl (by decide) (by decide) hk1 hFc hP1 hD1
  generalize H1 = H at hP hS ⊢
  have hP : va_P (dC, dI) vwCl [(h0, .inr (12, fM ((mUp v 0 (.int 0)))))] H := hP
  have hD : va_D A [(h0, .inr (12, fM ((mUp v 0 (.int 0)))))] := hD
  obtain rfl := hw
  refine lv_if_eq (tgt := 36) hx hb dX12_reason_10 (by decide) (fun _ => ?_) (fun c9 => absurd (by decide) c9)
  refine lv_iconst (v := (-1)) hx hb dX12_reason_36 (by decide) ?_
  refine W.widen (k := 0) (n := 0) (by decide +kernel) (by decide +kernel) ?_
  exact W.iret (v := (-1)) hx hb hr (fun t ht hW => ⟨⟨(-1), (mUp v 0 (.int 0)), rfl, by (refine ⟨?_, ?_⟩ <;> (first | rfl | assumption | trivial | omega | (simp []; done) | (simp; omega))), by rw [ht]; exact hP.sub [0] rfl, va_K.moved hW.alike (hK.sub [] rfl), hD.sub [0] (by decide) rfl⟩, hS.F ht⟩) hS.2.2 dX12_reason_37
theorem dX12_clear_0 : decode cX12_clear 0 = .ok (.aload_n 0, 1) := by decide +kernel
theorem dX12_clear_1 : decode cX12_clear 1 = .ok (.iconst 0, 1) := by decide +kernel
theorem dX12_clear_2 : decode cX12_clear 2 = .ok (.putfield 348, 3) := by decide +kernel
theorem dX12_clear_5 : decode cX12_clear 5 = .ok (.aload_n 0, 1) := by decide +kernel
theorem dX12_clear_6 : decode cX12_clear 6 = .ok (.iconst 0, 1) := by decide +kernel
theorem dX12_clear_7 : decode cX12_clear 7 = .ok (.putfield 978, 3) := by decide +kernel
theorem dX12_clear_10 : decode cX12_clear 10 = .ok (.aload_n 0, 1) := by decide +kernel
theorem dX12_clear_11 : decode cX12_clear 11 = .ok (.iconst 0, 1) := by decide +kernel
theorem dX12_clear_12 : decode cX12_clear 12 = .ok (.putfield 990, 3) := by decide +kernel
theorem dX12_clear_15 : decode cX12_clear 15 = .ok (.aload_n 0, 1) := by decide +kernel
theorem dX12_clear_16 : decode cX12_clear 16 = .ok (.iconst (-1), 1) := by decide +kernel
theorem dX12_clear_17 : decode cX12_clear 17 = .ok (.putfield 300, 3) := by decide +kernel
theorem dX12_clear_20 : decode cX12_clear 20 = .ok (.return_, 1) := by decide +kernel
def wsPX12_clear : List Cond := .code yX12_clear cX12_clear 1 none :: ([.fieldLink RX12 348 "OptimaWorksModel" "thrown" "I", .fieldLink RX12 978 "OptimaWorksModel" "holders" "I", .fieldLink RX12 990 "OptimaWorksModel" "rules" "I", .fieldLink RX12 300 "OptimaWorksModel" "listedMany" "I"] ++ wsX120)
theorem iwsPX12_clear_in12 : ∀ w ∈ wsX120, w ∈ wsPX12_clear := fun _ h => List.mem_cons_of_mem _ (List.mem_append_right _ h)
set_option maxHeartbeats 4000000 in
set_option maxRecDepth 100000 in
/-- clear() -/
theorem p_X12_clear (l : Launch) (dC : Nat → ClassId) (dI : Nat → Nat → Nat) (h0 : Nat) (v : Nat → Value) (sz : Nat) : Met l yX12_clear wsPX12_clear ({ frames := 0, cells := 0, slots := 0, locals := 0 }) (va_Pc [.ref h0] (fun U => U.heap.size = sz ∧ va_P (dC, dI) vwCl [(h0, .inr (12, fM v))] U.heap ∧ va_K (dC, dI) vwCl [] U ∧ va_D (fun _ => True) [(h0, .inr (12, fM v))])) (va_Qv (fun (u : Nat → Value) => (u 0 = .int 0)) (fun (u : Nat → Value) t => va_P (dC, dI) vwCl [(h0, .inr (12, fM u))] t.heap ∧ va_K (dC, dI) vwCl [] t ∧ va_D (va_A [(h0, .inr (12, fM v))] sz) [(h0, .inr (12, fM u))]) (va_A [(h0, .inr (12, fM v))] sz)) 0 0 (va_A [(h0, .inr (12, fM v))] sz) := by
  refine Met.ofW (cc := cX12_clear) (maxL := 1) (ret := none) (by decide) rfl ?_
  intro p e s m args below meth c s₁ B hml hv
  obtain ⟨rfl, hsz, hP, hK, hD0⟩ := hv
  have hx := B.exec
  have hb := B.bytes
  have hr := B.returns
  have hts := atoms_spec (ws := wsPX12_clear) B.pre
  have hown : s.vm.findClass RX12 = some m.cls := findClass_of_methodNamed B.named
  have hlocks := B.notSynchronized
  subst hsz
  have hD := hD0.self (sz := s.heap.size)
  generalize hAe : va_A [(h0, .inr (12, fM v))] s.heap.size = A at hD ⊢
  have hA : ∀ q : Nat, s.heap.size ≤ q → A q := fun q h => by rw [← hAe]; exact Or.inr h
  have hS : va_S A s.heap s.heap [] := va_S.rf
  have hP : va_P (dC, dI) vwCl [(h0, .inr (12, fM v))] s.heap := hP
  have hl := lv_entry ([.ref h0]) (n := 1) (Nat.le_of_ble_eq_true rfl)
  rw [lg_entry_eq]
  generalize (lg_sl ([.ref h0]) ++ List.replicate (1 - (lg_sl ([.ref h0])).length) Slot.unset).toArray = ls at hl ⊢
  have hl : lv_has ls 1 [(0, .ref h0)] := hl
  refine lv_aload_n hx hb dX12_clear_0 rfl (lv_at hl 0 rfl) ?_
  refine lv_iconst (v := 0) hx hb dX12_clear_1 (by decide) ?_
  refine va_put (D := (dC, dI)) (ci := 12) (v := .int 0) (ty := .int) (C := RX12) (T := TX12) (N := 163) hx hb hts iwsPX12_clear_in12 tyX12 tyX12_ok nmX12 hown hK hP hD hS 0 rfl rfl 0 (by decide) (hts (.fieldLink RX12 348 "OptimaWorksModel" "thrown" "I") (by decide +kernel)) (fun _ h9 => h9) rfl (by decide +kernel) rfl rfl (Nat.le_of_ble_eq_true rfl) dX12_clear_2 (fun H locs hP hD hS => ?_)
  have hP : va_P (dC, dI) vwCl [(h0, .inr (12, fM (mUp v 0 (.int 0))))] H := hP
  have hD : va_D A [(h0, .inr (12, fM (mUp v 0 (.int 0))))] := hD
  refine lv_aload_n hx hb dX12_clear_5 rfl (lv_at hl 0 rfl) ?_
  refine lv_iconst (v := 0) hx hb dX12_clear_6 (by decide) ?_
  refine va_put (D := (dC, dI)) (ci := 12) (v := .int 0) (ty := .int) (C := RX12) (T := TX12) (N := 163) hx hb hts iwsPX12_clear_in12 tyX12 tyX12_ok nmX12 hown hK hP hD hS 0 rfl rfl 128 (by decide) (hts (.fieldLink RX12 978 "OptimaWorksModel" "holders" "I") (by decide +kernel)) (fun _ h9 => h9) rfl (by decide +kernel) rfl rfl (Nat.le_of_ble_eq_true rfl) dX12_clear_7 (fun H locs hP hD hS => ?_)
  have hP : va_P (dC, dI) vwCl [(h0, .inr (12, fM (mUp (mUp v 0 (.int 0)) 128 (.int 0))))] H := hP
  have hD : va_D A [(h0, .inr (12, fM (mUp (mUp v 0 (.int 0)) 128 (.int 0))))] := hD
  refine lv_aload_n hx hb dX12_clear_10 rfl (lv_at hl 0 rfl) ?_
  refine lv_iconst (v := 0) hx hb dX12_clear_11 (by decide) ?_
  refine va_put (D := (dC, dI)) (ci := 12) (v := .int 0) (ty := .int) (C := RX12) (T := TX12) (N := 163) hx hb hts iwsPX12_clear_in12 tyX12 tyX12_ok nmX12 hown hK hP hD hS 0 rfl rfl 129 (by decide) (hts (.fieldLink RX12 990 "OptimaWorksModel" "rules" "I") (by decide +kernel)) (fun _ h9 => h9) rfl (by decide +kernel) rfl rfl (Nat.le_of_ble_eq_true rfl) dX12_clear_12 (fun H locs hP hD hS => ?_)
  have hP : va_P (dC, dI) vwCl [(h0, .inr (12, fM (mUp (mUp (mUp v 0 (.int 0)) 128 (.int 0)) 129 (.int 0))))] H := hP
  have hD : va_D A [(h0, .inr (12, fM (mUp (mUp (mUp v 0 (.int 0)) 128 (.int 0)) 129 (.int 0))))] := hD
  refine lv_aload_n hx hb dX12_clear_15 rfl (lv_at hl 0 rfl) ?_
  refine lv_iconst (v := (-1)) hx hb dX12_clear_16 (by decide) ?_
  refine va_put (D := (dC, dI)) (ci := 12) (v := .int (-1)) (ty := .int) (C := RX12) (T := TX12) (N := 163) hx hb hts iwsPX12_clear_in12 tyX12 tyX12_ok nmX12 hown hK hP hD hS 0 rfl rfl 145 (by decide) (hts (.fieldLink RX12 300 "OptimaWorksModel" "listedMany" "I") (by decide +kernel)) (fun _ h9 => h9) rfl (by decide +kernel) rfl rfl (Nat.le_of_ble_eq_true rfl) dX12_clear_17 (fun H locs hP hD hS => ?_)
  have hP : va_P (dC, dI) vwCl [(h0, .inr (12, fM (mUp (mUp (mUp (mUp v 0 (.int 0)) 128 (.int 0)) 129 (.int 0)) 145 (.int (-1)))))] H := hP
  have hD : va_D A [(h0, .inr (12, fM (mUp (mUp (mUp (mUp v 0 (.int 0)) 128 (.int 0)) 129 (.int 0)) 145 (.int (-1)))))] := hD
  refine W.widen (k := 0) (n := 0) (by decide +kernel) (by decide +kernel) ?_
  exact W.vret hx hb hr (fun t ht hW => ⟨⟨(mUp (mUp (mUp (mUp v 0 (.int 0)) 128 (.int 0)) 129 (.int 0)) 145 (.int (-1))), rfl, by (first | rfl | assumption | trivial | omega | (simp []; done) | (simp; omega)), by rw [ht]; exact hP.sub [0] rfl, va_K.moved hW.alike (hK.sub [] rfl), hD.sub [0] (by decide) rfl⟩, hS.F ht⟩) hS.2.2 dX12_clear_20
theorem dX12_list_0 : decode cX12_list 0 = .ok (.iconst 0, 1) := by decide +kernel
theorem dX12_list_1 : decode cX12_list 1 = .ok (.istore_n 1, 1) := by decide +kernel
theorem dX12_list_2 : decode cX12_list 2 = .ok (.iload_n 1, 1) := by decide +kernel
theorem dX12_list_3 : decode cX12_list 3 = .ok (.aload_n 0, 1) := by decide +kernel
theorem dX12_list_4 : decode cX12_list 4 = .ok (.getfield 978, 3) := by decide +kernel
theorem dX12_list_7 : decode cX12_list 7 = .ok (.if_icmp .ge 27, 3) := by decide +kernel
theorem dX12_list_34 : decode cX12_list 34 = .ok (.iconst 0, 1) := by decide +kernel
theorem dX12_list_35 : decode cX12_list 35 = .ok (.istore_n 1, 1) := by decide +kernel
theorem dX12_list_36 : decode cX12_list 36 = .ok (.iconst 1, 1) := by decide +kernel
theorem dX12_list_37 : decode cX12_list 37 = .ok (.istore_n 2, 1) := by decide +kernel
theorem dX12_list_38 : decode cX12_list 38 = .ok (.iload_n 2, 1) := by decide +kernel
theorem dX12_list_39 : decode cX12_list 39 = .ok (.ifCond .eq 181, 3) := by decide +kernel
theorem dX12_list_42 : decode cX12_list 42 = .ok (.iload_n 1, 1) := by decide +kernel
theorem dX12_list_43 : decode cX12_list 43 = .ok (.sipush 5000, 3) := by decide +kernel
theorem dX12_list_46 : decode cX12_list 46 = .ok (.if_icmp .ge 174, 3) := by decide +kernel
theorem dX12_list_49 : decode cX12_list 49 = .ok (.iconst 1, 1) := by decide +kernel
theorem dX12_list_50 : decode cX12_list 50 = .ok (.istore_n 3, 1) := by decide +kernel
theorem dX12_list_51 : decode cX12_list 51 = .ok (.iconst 0, 1) := by decide +kernel
theorem dX12_list_52 : decode cX12_list 52 = .ok (.istore 4, 2) := by decide +kernel
theorem dX12_list_54 : decode cX12_list 54 = .ok (.iload 4, 2) := by decide +kernel
theorem dX12_list_56 : decode cX12_list 56 = .ok (.aload_n 0, 1) := by decide +kernel
theorem dX12_list_57 : decode cX12_list 57 = .ok (.getfield 990, 3) := by decide +kernel
theorem dX12_list_60 : decode cX12_list 60 = .ok (.if_icmp .ge 20, 3) := by decide +kernel
theorem dX12_list_80 : decode cX12_list 80 = .ok (.iconst 0, 1) := by decide +kernel
theorem dX12_list_81 : decode cX12_list 81 = .ok (.istore 4, 2) := by decide +kernel
theorem dX12_list_83 : decode cX12_list 83 = .ok (.iload 4, 2) := by decide +kernel
theorem dX12_list_85 : decode cX12_list 85 = .ok (.aload_n 0, 1) := by decide +kernel
theorem dX12_list_86 : decode cX12_list 86 = .ok (.getfield 978, 3) := by decide +kernel
theorem dX12_list_89 : decode cX12_list 89 = .ok (.if_icmp .ge 32, 3) := by decide +kernel
theorem dX12_list_121 : decode cX12_list 121 = .ok (.iload_n 1, 1) := by decide +kernel
theorem dX12_list_122 : decode cX12_list 122 = .ok (.iload_n 3, 1) := by decide +kernel
theorem dX12_list_123 : decode cX12_list 123 = .ok (.ifCond .eq 7, 3) := by decide +kernel
theorem dX12_list_126 : decode cX12_list 126 = .ok (.iconst 1, 1) := by decide +kernel
theorem dX12_list_127 : decode cX12_list 127 = .ok (.goto 4, 3) := by decide +kernel
theorem dX12_list_131 : decode cX12_list 131 = .ok (.iadd, 1) := by decide +kernel
theorem dX12_list_132 : decode cX12_list 132 = .ok (.istore_n 1, 1) := by decide +kernel
theorem dX12_list_133 : decode cX12_list 133 = .ok (.iconst 0, 1) := by decide +kernel
theorem dX12_list_134 : decode cX12_list 134 = .ok (.istore_n 2, 1) := by decide +kernel
theorem dX12_list_135 : decode cX12_list 135 = .ok (.aload_n 0, 1) := by decide +kernel
theorem dX12_list_136 : decode cX12_list 136 = .ok (.getfield 978, 3) := by decide +kernel
theorem dX12_list_139 : decode cX12_list 139 = .ok (.iconst 1, 1) := by decide +kernel
theorem dX12_list_140 : decode cX12_list 140 = .ok (.isub, 1) := by decide +kernel
theorem dX12_list_141 : decode cX12_list 141 = .ok (.istore 4, 2) := by decide +kernel
theorem dX12_list_143 : decode cX12_list 143 = .ok (.iload 4, 2) := by decide +kernel
theorem dX12_list_145 : decode cX12_list 145 = .ok (.ifCond .lt 72, 3) := by decide +kernel
theorem dX12_list_217 : decode cX12_list 217 = .ok (.goto (-179), 3) := by decide +kernel
theorem dX12_list_220 : decode cX12_list 220 = .ok (.iload_n 1, 1) := by decide +kernel
theorem dX12_list_221 : decode cX12_list 221 = .ok (.ireturn, 1) := by decide +kernel
def wsPX12_list : List Cond := .code yX12_list cX12_list 5 (some .int) :: ([.fieldLink RX12 978 "OptimaWorksModel" "holders" "I", .fieldLink RX12 990 "OptimaWorksModel" "rules" "I"] ++ wsX120)
theorem iwsPX12_list_in12 : ∀ w ∈ wsX120, w ∈ wsPX12_list := fun _ h => List.mem_cons_of_mem _ (List.mem_append_right _ h)
set_option maxHeartbeats 4000000 in
set_option maxRecDepth 100000 in
/-- list() without holders -/
theorem p_X12_list (l : Launch) (dC : Nat → ClassId) (dI : Nat → Nat → Nat) (h0 : Nat) (v : Nat → Value) (h_holders : v 128 = .int 0) (h_rules : v 129 = .int 0) (sz : Nat) : Met l yX12_list wsPX12_list ({ frames := 0, cells := 0, slots := 0, locals := 0 }) (va_Pc [.ref h0] (fun U => U.heap.size = sz ∧ va_P (dC, dI) vwCl [(h0, .inr (12, fM v))] U.heap ∧ va_K (dC, dI) vwCl [] U ∧ va_D (fun _ => True) [(h0, .inr (12, fM v))])) (va_Qi (fun (r : Int32) (u : Unit) => r = 1) (fun (u : Unit) t => va_P (dC, dI) vwCl [(h0, .inr (12, fM v))] t.heap ∧ va_K (dC, dI) vwCl [] t ∧ va_D (va_A [(h0, .inr (12, fM v))] sz) [(h0, .inr (12, fM v))]) (va_A [(h0, .inr (12, fM v))] sz)) 0 0 (va_A [(h0, .inr (12, fM v))] sz) := by
  refine Met.ofW (cc := cX12_list) (maxL := 5) (ret := (some .int)) (by decide) rfl ?_
  intro p e s m args below meth c s₁ B hml hv
  obtain ⟨rfl, hsz, hP, hK, hD0⟩ := hv
  have hx := B.exec
  have hb := B.bytes
  have hr := B.returns
  have hts := atoms_spec (ws := wsPX12_list) B.pre
  have hown : s.vm.findClass RX12 = some m.cls := findClass_of_methodNamed B.named
  have hlocks := B.notSynchronized
  subst hsz
  have hD := hD0.self (sz := s.heap.size)
  generalize hAe : va_A [(h0, .inr (12, fM v))] s.heap.size = A at hD ⊢
  have hA : ∀ q : Nat, s.heap.size ≤ q → A q := fun q h => by rw [← hAe]; exact Or.inr h
  have hS : va_S A s.heap s.heap [] := va_S.rf
  have hP : va_P (dC, dI) vwCl [(h0, .inr (12, fM v))] s.heap := hP
  have hl := lv_entry ([.ref h0]) (n := 5) (Nat.le_of_ble_eq_true rfl)
  rw [lg_entry_eq]
  generalize (lg_sl ([.ref h0]) ++ List.replicate (5 - (lg_sl ([.ref h0])).length) Slot.unset).toArray = ls at hl ⊢
  have hl : lv_has ls 5 [(0, .ref h0)] := hl
  refine lv_iconst (v := 0) hx hb dX12_list_0 (by decide) ?_
  refine lv_istore_n (lv' := [(1, .int 0), (0, .ref h0)]) hx hb dX12_list_1 rfl hl (by decide) rfl (fun ls hl => ?_)
  refine lv_iload_n hx hb dX12_list_2 rfl (lv_at hl 0 rfl) ?_
  refine lv_aload_n hx hb dX12_list_3 rfl (lv_at hl 1 rfl) ?_
  refine va_get (D := (dC, dI)) (ci := 12) (v := .int 0) (C := RX12) (T := TX12) (N := 163) hx hb hts iwsPX12_list_in12 hown hK hP 0 rfl rfl 128 (by decide) (hts (.fieldLink RX12 978 "OptimaWorksModel" "holders" "I") (by decide +kernel)) (fun _ h9 => h9) (congrArg some h_holders) dX12_list_4 ?_
  refine lv_icmp_ge (tgt := 34) hx hb dX12_list_7 (by decide) (fun _ => ?_) (fun c9 => absurd (by decide) c9)
  refine lv_iconst (v := 0) hx hb dX12_list_34 (by decide) ?_
  refine lv_istore_n (lv' := [(1, .int 0), (0, .ref h0)]) hx hb dX12_list_35 rfl hl (by decide) rfl (fun ls hl => ?_)
  refine lv_iconst (v := 1) hx hb dX12_list_36 (by decide) ?_
  refine lv_istore_n (lv' := [(2, .int 1), (1, .int 0), (0, .ref h0)]) hx hb dX12_list_37 rfl hl (by decide) rfl (fun ls hl => ?_)
  refine lv_iload_n hx hb dX12_list_38 rfl (lv_at hl 0 rfl) ?_
  refine lv_if_eq (tgt := 220) hx hb dX12_list_39 (by decide) (fun c9 => absurd c9 (by decide)) (fun _ => ?_)
  refine lv_iload_n hx hb dX12_list_42 rfl (lv_at hl 1 rfl) ?_
  refine lv_sipush (v := 5000) hx hb dX12_list_43 (by decide) ?_
  refine lv_icmp_ge (tgt := 220) hx hb dX12_list_46 (by decide) (fun c9 => absurd c9 (by decide)) (fun _ => ?_)
  refine lv_iconst (v := 1) hx hb dX12_list_49 (by decide) ?_
  refine lv_istore_n (lv' := [(3, .int 1), (2, .int 1), (1, .int 0), (0, .ref h0)]) hx hb dX12_list_50 rfl hl (by decide) rfl (fun ls hl => ?_)
  refine lv_iconst (v := 0) hx hb dX12_list_51 (by decide) ?_
  refine lv_istore (lv' := [(4, .int 0), (3, .int 1), (2, .int 1), (1, .int 0), (0, .ref h0)]) hx hb dX12_list_52 hl (by decide) rfl (fun ls hl => ?_)
  refine lv_iload hx hb dX12_list_54 (lv_at hl 0 rfl) ?_
  refine lv_aload_n hx hb dX12_list_56 rfl (lv_at hl 4 rfl) ?_
  refine va_get (D := (dC, dI)) (ci := 12) (v := .int 0) (C := RX12) (T := TX12) (N := 163) hx hb hts iwsPX12_list_in12 hown hK hP 0 rfl rfl 129 (by decide) (hts (.fieldLink RX12 990 "OptimaWorksModel" "rules" "I") (by decide +kernel)) (fun _ h9 => h9) (congrArg some h_rules) dX12_list_57 ?_
  refine lv_icmp_ge (tgt := 80) hx hb dX12_list_60 (by decide) (fun _ => ?_) (fun c9 => absurd (by decide) c9)
  refine lv_iconst (v := 0) hx hb dX12_list_80 (by decide) ?_
  refine lv_istore (lv' := [(4, .int 0), (3, .int 1), (2, .int 1), (1, .int 0), (0, .ref h0)]) hx hb dX12_list_81 hl (by decide) rfl (fun ls hl => ?_)
  refine lv_iload hx hb dX12_list_83 (lv_at hl 0 rfl) ?_
  refine lv_aload_n hx hb dX12_list_85 rfl (lv_at hl 4 rfl) ?_
  refine va_get (D := (dC, dI)) (ci := 12) (v := .int 0) (C := RX12) (T := TX12) (N := 163) hx hb hts iwsPX12_list_in12 hown hK hP 0 rfl rfl 128 (by decide) (hts (.fieldLink RX12 978 "OptimaWorksModel" "holders" "I") (by decide +kernel)) (fun _ h9 => h9) (congrArg some h_holders) dX12_list_86 ?_
  refine lv_icmp_ge (tgt := 121) hx hb dX12_list_89 (by decide) (fun _ => ?_) (fun c9 => absurd (by decide) c9)
  refine lv_iload_n hx hb dX12_list_121 rfl (lv_at hl 3 rfl) ?_
  refine lv_iload_n hx hb dX12_list_122 rfl (lv_at hl 1 rfl) ?_
  refine lv_if_eq (tgt := 130) hx hb dX12_list_123 (by decide) (fun c9 => absurd c9 (by decide)) (fun _ => ?_)
  refine lv_iconst (v := 1) hx hb dX12_list_126 (by decide) ?_
  refine lv_goto (tgt := 131) hx hb dX12_list_127 (by decide) ?_
  refine lv_iadd hx hb dX12_list_131 ?_
  refine lv_topi (fun y1 hy1 => ?_)
  obtain rfl : 1 = y1 := (hy1.trans (by decide)).symm
  refine lv_istore_n (lv' := [(1, .int 1), (4, .int 0), (3, .int 1), (2, .int 1), (0, .ref h0)]) hx hb dX12_list_132 rfl hl (by decide) rfl (fun ls hl => ?_)
  refine lv_iconst (v := 0) hx hb dX12_list_133 (by decide) ?_
  refine lv_istore_n (lv' := [(2, .int 0), (1, .int 1), (4, .int 0), (3, .int 1), (0, .ref h0)]) hx hb dX12_list_134 rfl hl (by decide) rfl (fun ls hl => ?_)
  refine lv_aload_n hx hb dX12_list_135 rfl (lv_at hl 4 rfl) ?_
  refine va_get (D := (dC, dI)) (ci := 12) (v := .int 0) (C := RX12) (T := TX12) (N := 163) hx hb hts iwsPX12_list_in12 hown hK hP 0 rfl rfl 128 (by decide) (hts (.fieldLink RX12 978 "OptimaWorksModel" "holders" "I") (by decide +kernel)) (fun _ h9 => h9) (congrArg some h_holders) dX12_list_136 ?_
  refine lv_iconst (v := 1) hx hb dX12_list_139 (by decide) ?_
  refine lv_isub hx hb dX12_list_140 ?_
  refine lv_topi (fun y2 hy2 => ?_)
  obtain rfl : (-1) = y2 := (hy2.trans (by decide)).symm
  refine lv_istore (lv' := [(4, .int (-1)), (2, .int 0), (1, .int 1), (3, .int 1), (0, .ref h0)]) hx hb dX12_list_141 hl (by decide) rfl (fun ls hl => ?_)
  refine lv_iload hx hb dX12_list_143 (lv_at hl 0 rfl) ?_
  refine lv_if_lt (tgt := 217) hx hb dX12_list_145 (by decide) (fun _ => ?_) (fun c9 => absurd (by decide) c9)
  refine lv_goto (tgt := 38) hx hb dX12_list_217 (by decide) ?_
  refine lv_iload_n hx hb dX12_list_38 rfl (lv_at hl 1 rfl) ?_
  refine lv_if_eq (tgt := 220) hx hb dX12_list_39 (by decide) (fun _ => ?_) (fun c9 => absurd (by decide) c9)
  refine lv_iload_n hx hb dX12_list_220 rfl (lv_at hl 2 rfl) ?_
  refine W.widen (k := 0) (n := 0) (by decide +kernel) (by decide +kernel) ?_
  exact W.iret (v := 1) hx hb hr (fun t ht hW => ⟨⟨1, (), rfl, by (first | rfl | assumption | trivial | omega | (simp []; done) | (simp; omega)), by rw [ht]; exact hP.sub [0] rfl, va_K.moved hW.alike (hK.sub [] rfl), hD.sub [0] (by decide) rfl⟩, hS.F ht⟩) hS.2.2 dX12_list_221
theorem dX12_listing_0 : decode cX12_listing 0 = .ok (.aload_n 0, 1) := by decide +kernel
theorem dX12_listing_1 : decode cX12_listing 1 = .ok (.iconst 0, 1) := by decide +kernel
theorem dX12_listing_2 : decode cX12_listing 2 = .ok (.putfield 348, 3) := by decide +kernel
theorem dX12_listing_5 : decode cX12_listing 5 = .ok (.lconst 1, 1) := by decide +kernel
theorem dX12_listing_6 : decode cX12_listing 6 = .ok (.lstore_n 1, 1) := by decide +kernel
theorem dX12_listing_7 : decode cX12_listing 7 = .ok (.iconst 0, 1) := by decide +kernel
theorem dX12_listing_8 : decode cX12_listing 8 = .ok (.istore_n 3, 1) := by decide +kernel
theorem dX12_listing_9 : decode cX12_listing 9 = .ok (.iload_n 3, 1) := by decide +kernel
theorem dX12_listing_10 : decode cX12_listing 10 = .ok (.aload_n 0, 1) := by decide +kernel
theorem dX12_listing_11 : decode cX12_listing 11 = .ok (.getfield 978, 3) := by decide +kernel
theorem dX12_listing_14 : decode cX12_listing 14 = .ok (.if_icmp .ge 22, 3) := by decide +kernel
theorem dX12_listing_36 : decode cX12_listing 36 = .ok (.lload_n 1, 1) := by decide +kernel
theorem dX12_listing_37 : decode cX12_listing 37 = .ok (.ldc2_w 1043, 3) := by decide +kernel
theorem dX12_listing_40 : decode cX12_listing 40 = .ok (.lcmp, 1) := by decide +kernel
theorem dX12_listing_41 : decode cX12_listing 41 = .ok (.ifCond .le 5, 3) := by decide +kernel
theorem dX12_listing_46 : decode cX12_listing 46 = .ok (.aload_n 0, 1) := by decide +kernel
theorem dX12_listing_47 : decode cX12_listing 47 = .ok (.getfield 300, 3) := by decide +kernel
theorem dX12_listing_50 : decode cX12_listing 50 = .ok (.iconst (-1), 1) := by decide +kernel
theorem dX12_listing_51 : decode cX12_listing 51 = .ok (.if_icmp .ne 11, 3) := by decide +kernel
theorem dX12_listing_54 : decode cX12_listing 54 = .ok (.aload_n 0, 1) := by decide +kernel
theorem dX12_listing_55 : decode cX12_listing 55 = .ok (.aload_n 0, 1) := by decide +kernel
theorem dX12_listing_56 : decode cX12_listing 56 = .ok (.invokevirtual 1045, 3) := by decide +kernel
theorem dX12_listing_59 : decode cX12_listing 59 = .ok (.putfield 300, 3) := by decide +kernel
theorem dX12_listing_62 : decode cX12_listing 62 = .ok (.aload_n 0, 1) := by decide +kernel
theorem dX12_listing_63 : decode cX12_listing 63 = .ok (.getfield 300, 3) := by decide +kernel
theorem dX12_listing_66 : decode cX12_listing 66 = .ok (.ireturn, 1) := by decide +kernel
def wsPX12_listing : List Cond := .code yX12_listing cX12_listing 4 (some .int) :: ([.fieldLink RX12 348 "OptimaWorksModel" "thrown" "I", .fieldLink RX12 978 "OptimaWorksModel" "holders" "I", .constantLong RX12 1043 20000, .fieldLink RX12 300 "OptimaWorksModel" "listedMany" "I"] ++ wsX120 ++ (wsV RX12 1045 RX12 yX12_list wsPX12_list))
theorem iwsPX12_listing_in12 : ∀ w ∈ wsX120, w ∈ wsPX12_listing := fun _ h => List.mem_cons_of_mem _ (List.mem_append_left _ (List.mem_append_right _ h))
theorem gwsPX12_listing_0 : GoodIn wsPX12_listing (wsV RX12 1045 RX12 yX12_list wsPX12_list) := goodIn_sub (fun _ h => List.mem_cons_of_mem _ (List.mem_append_right _ h)) (by decide +kernel)
set_option maxHeartbeats 4000000 in
set_option maxRecDepth 100000 in
/-- listing() -/
theorem p_X12_listing (l : Launch) (dC : Nat → ClassId) (dI : Nat → Nat → Nat) (h0 : Nat) (v : Nat → Value) (h_holders : v 128 = .int 0) (h_rules : v 129 = .int 0) (h_listedMany : v 145 = .int (-1)) (sz : Nat) : Met l yX12_listing wsPX12_listing ({ frames := 1, cells := 0, slots := 0, locals := 24 }) (va_Pc [.ref h0] (fun U => U.heap.size = sz ∧ va_P (dC, dI) vwCl [(h0, .inr (12, fM v))] U.heap ∧ va_K (dC, dI) vwCl [] U ∧ va_D (fun _ => True) [(h0, .inr (12, fM v))])) (va_Qi (fun (r : Int32) (u : Nat → Value) => r = 1 ∧ (u 0 = .int 0)) (fun (u : Nat → Value) t => va_P (dC, dI) vwCl [(h0, .inr (12, fM u))] t.heap ∧ va_K (dC, dI) vwCl [] t ∧ va_D (va_A [(h0, .inr (12, fM v))] sz) [(h0, .inr (12, fM u))]) (va_A [(h0, .inr (12, fM v))] sz)) 0 0 (va_A [(h0, .inr (12, fM v))] sz) := by
  refine Met.ofW (cc := cX12_listing) (maxL := 4) (ret := (some .int)) (by decide) rfl ?_
  intro p e s m args below meth c s₁ B hml hv
  obtain ⟨rfl, hsz, hP, hK, hD0⟩ := hv
  have hx := B.exec
  have hb := B.bytes
  have hr := B.returns
  have hts := atoms_spec (ws := wsPX12_listing) B.pre
  have hown : s.vm.findClass RX12 = some m.cls := findClass_of_methodNamed B.named
  have hlocks := B.notSynchronized
  subst hsz
  have hD := hD0.self (sz := s.heap.size)
  generalize hAe : va_A [(h0, .inr (12, fM v))] s.heap.size = A at hD ⊢
  have hA : ∀ q : Nat, s.heap.size ≤ q → A q := fun q h => by rw [← hAe]; exact Or.inr h
  have hS : va_S A s.heap s.heap [] := va_S.rf
  have hP : va_P (dC, dI) vwCl [(h0, .inr (12, fM v))] s.heap := hP
  have hl := lv_entry ([.ref h0]) (n := 4) (Nat.le_of_ble_eq_true rfl)
  rw [lg_entry_eq]
  generalize (lg_sl ([.ref h0]) ++ List.replicate (4 - (lg_sl ([.ref h0])).length) Slot.unset).toArray = ls at hl ⊢
  have hl : lv_has ls 4 [(0, .ref h0)] := hl
  refine lv_aload_n hx hb dX12_listing_0 rfl (lv_at hl 0 rfl) ?_
  refine lv_iconst (v := 0) hx hb dX12_listing_1 (by decide) ?_
  refine va_put (D := (dC, dI)) (ci := 12) (v := .int 0) (ty := .int) (C := RX12) (T := TX12) (N := 163) hx hb hts iwsPX12_listing_in12 tyX12 tyX12_ok nmX12 hown hK hP hD hS 0 rfl rfl 0 (by decide) (hts (.fieldLink RX12 348 "OptimaWorksModel" "thrown" "I") (by decide +kernel)) (fun _ h9 => h9) rfl (by decide +kernel) rfl rfl (Nat.le_of_ble_eq_true rfl) dX12_listing_2 (fun H locs hP hD hS => ?_)
  have hP : va_P (dC, dI) vwCl [(h0, .inr (12, fM (mUp v 0 (.int 0))))] H := hP
  have hD : va_D A [(h0, .inr (12, fM (mUp v 0 (.int 0))))] := hD
  refine lv_lconst (v := 1) hx hb dX12_listing_5 (by decide) ?_
  refine lv_lstore_n (lv' := [(1, .long 1), (0, .ref h0)]) hx hb dX12_listing_6 rfl hl (by decide) rfl (fun ls hl => ?_)
  refine lv_iconst (v := 0) hx hb dX12_listing_7 (by decide) ?_
  refine lv_istore_n (lv' := [(3, .int 0), (1, .long 1), (0, .ref h0)]) hx hb dX12_listing_8 rfl hl (by decide) rfl (fun ls hl => ?_)
  refine lv_iload_n hx hb dX12_listing_9 rfl (lv_at hl 0 rfl) ?_
  refine lv_aload_n hx hb dX12_listing_10 rfl (lv_at hl 2 rfl) ?_
  refine va_get (D := (dC, dI)) (ci := 12) (v := .int 0) (C := RX12) (T := TX12) (N := 163) hx hb hts iwsPX12_listing_in12 hown hK hP 0 rfl rfl 128 (by decide) (hts (.fieldLink RX12 978 "OptimaWorksModel" "holders" "I") (by decide +kernel)) (fun _ h9 => h9) (congrArg some h_holders) dX12_listing_11 ?_
  refine lv_icmp_ge (tgt := 36) hx hb dX12_listing_14 (by decide) (fun _ => ?_) (fun c9 => absurd (by decide) c9)
  refine lv_lload_n hx hb dX12_listing_36 rfl (lv_at hl 1 rfl) ?_
  refine lv_ldc2 (v := 20000) hx hb hown (hts (.constantLong RX12 1043 20000) (by decide +kernel)) dX12_listing_37 ?_
  refine W.lcmp hx hb dX12_listing_40 ?_
  refine lv_topi (fun y1 hy1 => ?_)
  obtain rfl : (-1) = y1 := (hy1.trans (by decide)).symm
  refine lv_if_le (tgt := 46) hx hb dX12_listing_41 (by decide) (fun _ => ?_) (fun c9 => absurd (by decide) c9)
  refine lv_aload_n hx hb dX12_listing_46 rfl (lv_at hl 2 rfl) ?_
  refine va_get (D := (dC, dI)) (ci := 12) (v := .int (-1)) (C := RX12) (T := TX12) (N := 163) hx hb hts iwsPX12_listing_in12 hown hK hP 0 rfl rfl 145 (by decide) (hts (.fieldLink RX12 300 "OptimaWorksModel" "listedMany" "I") (by decide +kernel)) (fun _ h9 => h9) (congrArg some h_listedMany) dX12_listing_47 ?_
  refine lv_iconst (v := (-1)) hx hb dX12_listing_50 (by decide) ?_
  refine lv_icmp_ne (tgt := 62) hx hb dX12_listing_51 (by decide) (fun c9 => absurd c9 (by decide)) (fun _ => ?_)
  refine lv_aload_n hx hb dX12_listing_54 rfl (lv_at hl 2 rfl) ?_
  refine lv_aload_n hx hb dX12_listing_55 rfl (lv_at hl 2 rfl) ?_
  have hPc := hP.sub (ws' := [(h0, .inr (12, fM (mUp v 0 (.int 0))))]) [0] rfl
  have hDc := hD.sub (ws' := [(h0, .inr (12, fM (mUp v 0 (.int 0))))]) [0] (by decide) rfl
  have hKc := hK.sub (tys' := []) [] rfl
  have hFc := va_free (wc := [(h0, .inr (12, fM (mUp v 0 (.int 0))))]) hD hS hA [0] rfl
  refine va_calli (va_runV (As := []) (rest := [.ref h0]) ⟨hx, hb, hml, hown, hts⟩ (p_X12_list l dC dI h0 (mUp v 0 (.int 0)) (h_holders) (h_rules) H.size) (cwV 0 hts gwsPX12_listing_0 rfl rfl rfl (by decide +kernel) ⟨by decide +kernel, by decide +kernel⟩) ⟨fun a U g mk q => by obtain ⟨q0, q1, qP, qK, qD⟩ := q; exact ⟨q0, q1, qP, va_K.moved (u := U) (U := U.calling g mk a) (Vm.Alike.refl U.vm) qK, qD⟩, va_recv hKc hPc (ci := 12) (q0 := 0) rfl rfl, fun U hU9 hW => ⟨rfl, by rw [hU9], by rw [hU9]; exact hPc, va_K.moved hW.alike hKc, hDc.weaken (fun _ _ _ _ => trivial)⟩⟩ rfl rfl hl.1 rfl (lv_room (Nat.le_of_ble_eq_true rfl)) dX12_listing_56 ⟨by decide +kernel, by decide +kernel⟩) hS (fun q _ h => hFc q h) hFc (fun r56 u t H1 locs ht hvm hw hB hz1 hk1 hS => ?_)
  obtain ⟨hP1, hK1, hD1⟩ := hB
  rw [ht] at hP1
  have hK1 := va_K.moved hvm.symm hK1
  obtain ⟨hP, hD⟩ := va_join (wr := []) (w1 := [(h0, .inr (12, fM ((mUp v 0 (.int 0)))))]) hP hD [0] [] rfl rfl (by decide) (by decide) hk1 hFc hP1 hD1
  generalize H1 = H at hP hS ⊢
  have hP : va_P (dC, dI) vwCl [(h0, .inr (12, fM ((mUp v 0 (.int 0)))))] H := hP
  have hD : va_D A [(h0, .inr (12, fM ((mUp v 0 (.int 0)))))] := hD
  obtain rfl := hw
  refine va_put (D := (dC, dI)) (ci := 12) (v := .int 1) (ty := .int) (C := RX12) (T := TX12) (N := 163) hx hb hts iwsPX12_listing_in12 tyX12 tyX12_ok nmX12 hown hK hP hD hS 0 rfl rfl 145 (by decide) (hts (.fieldLink RX12 300 "OptimaWorksModel" "listedMany" "I") (by decide +kernel)) (fun _ h9 => h9) rfl (by decide +kernel) rfl rfl (Nat.le_of_ble_eq_true rfl) dX12_listing_59 (fun H locs hP hD hS => ?_)
  have hP : va_P (dC, dI) vwCl [(h0, .inr (12, fM (mUp ((mUp v 0 (.int 0))) 145 (.int 1))))] H := hP
  have hD : va_D A [(h0, .inr (12, fM (mUp ((mUp v 0 (.int 0))) 145 (.int 1))))] := hD
  refine lv_aload_n hx hb dX12_listing_62 rfl (lv_at hl 2 rfl) ?_
  refine va_get (D := (dC, dI)) (ci := 12) (v := .int 1) (C := RX12) (T := TX12) (N := 163) hx hb hts iwsPX12_listing_in12 hown hK hP 0 rfl rfl 145 (by decide) (hts (.fieldLink RX12 300 "OptimaWorksModel" "listedMany" "I") (by decide +kernel)) (fun _ h9 => h9) rfl dX12_listing_63 ?_
  refine W.widen (k := 0) (n := 0) (by decide +kernel) (by decide +kernel) ?_
  exact W.iret (v := 1) hx hb hr (fun t ht hW => ⟨⟨1, (mUp ((mUp v 0 (.int 0))) 145 (.int 1)), rfl, by (refine ⟨?_, ?_⟩ <;> (first | rfl | assumption | trivial | omega | (simp []; done) | (simp; omega))), by rw [ht]; exact hP.sub [0] rfl, va_K.moved hW.alike (hK.sub [] rfl), hD.sub [0] (by decide) rfl⟩, hS.F ht⟩) hS.2.2 dX12_listing_66
theorem dX12_listed_0 : decode cX12_listed 0 = .ok (.aload_n 0, 1) := by decide +kernel
theorem dX12_listed_1 : decode cX12_listed 1 = .ok (.iconst 0, 1) := by decide +kernel
theorem dX12_listed_2 : decode cX12_listed 2 = .ok (.putfield 348, 3) := by decide +kernel
theorem dX12_listed_5 : decode cX12_listed 5 = .ok (.aload_n 0, 1) := by decide +kernel
theorem dX12_listed_6 : decode cX12_listed 6 = .ok (.iload_n 2, 1) := by decide +kernel
theorem dX12_listed_7 : decode cX12_listed 7 = .ok (.invokevirtual 984, 3) := by decide +kernel
theorem dX12_listed_10 : decode cX12_listed 10 = .ok (.ifCond .eq 15, 3) := by decide +kernel
theorem dX12_listed_25 : decode cX12_listed 25 = .ok (.iconst (-1), 1) := by decide +kernel
theorem dX12_listed_26 : decode cX12_listed 26 = .ok (.goto 14, 3) := by decide +kernel
theorem dX12_listed_40 : decode cX12_listed 40 = .ok (.ireturn, 1) := by decide +kernel
def wsPX12_listed : List Cond := .code yX12_listed cX12_listed 3 (some .int) :: ([.fieldLink RX12 348 "OptimaWorksModel" "thrown" "I"] ++ wsX120 ++ (wsV RX12 984 RX12 yX12_isHolder wsPX12_isHolder))
theorem iwsPX12_listed_in12 : ∀ w ∈ wsX120, w ∈ wsPX12_listed := fun _ h => List.mem_cons_of_mem _ (List.mem_append_left _ (List.mem_append_right _ h))
theorem gwsPX12_listed_0 : GoodIn wsPX12_listed (wsV RX12 984 RX12 yX12_isHolder wsPX12_isHolder) := goodIn_sub (fun _ h => List.mem_cons_of_mem _ (List.mem_append_right _ h)) (by decide +kernel)
set_option maxHeartbeats 4000000 in
set_option maxRecDepth 100000 in
/-- listed(k, h) -/
theorem p_X12_listed (l : Launch) (dC : Nat → ClassId) (dI : Nat → Nat → Nat) (h0 : Nat) (v : Nat → Value) (h_holders : v 128 = .int 0) (qk : Int32) (qh : Int32) (sz : Nat) : Met l yX12_listed wsPX12_listed ({ frames := 1, cells := 0, slots := 0, locals := 21 }) (va_Pc [.ref h0, .int qk, .int qh] (fun U => U.heap.size = sz ∧ va_P (dC, dI) vwCl [(h0, .inr (12, fM v))] U.heap ∧ va_K (dC, dI) vwCl [] U ∧ va_D (fun _ => True) [(h0, .inr (12, fM v))])) (va_Qi (fun (r : Int32) (u : Nat → Value) => r = (-1) ∧ (u 0 = .int 0)) (fun (u : Nat → Value) t => va_P (dC, dI) vwCl [(h0, .inr (12, fM u))] t.heap ∧ va_K (dC, dI) vwCl [] t ∧ va_D (va_A [(h0, .inr (12, fM v))] sz) [(h0, .inr (12, fM u))]) (va_A [(h0, .inr (12, fM v))] sz)) 0 0 (va_A [(h0, .inr (12, fM v))] sz) := by
  refine Met.ofW (cc := cX12_listed) (maxL := 3) (ret := (some .int)) (by decide) rfl ?_
  intro p e s m args below meth c s₁ B hml hv
  obtain ⟨rfl, hsz, hP, hK, hD0⟩ := hv
  have hx := B.exec
  have hb := B.bytes
  have hr := B.returns
  have hts := atoms_spec (ws := wsPX12_listed) B.pre
  have hown : s.vm.findClass RX12 = some m.cls := findClass_of_methodNamed B.named
  have hlocks := B.notSynchronized
  subst hsz
  have hD := hD0.self (sz := s.heap.size)
  generalize hAe : va_A [(h0, .inr (12, fM v))] s.heap.size = A at hD ⊢
  have hA : ∀ q : Nat, s.heap.size ≤ q → A q := fun q h => by rw [← hAe]; exact Or.inr h
  have hS : va_S A s.heap s.heap [] := va_S.rf
  have hP : va_P (dC, dI) vwCl [(h0, .inr (12, fM v))] s.heap := hP
  have hl := lv_entry ([.ref h0, .int qk, .int qh]) (n := 3) (Nat.le_of_ble_eq_true rfl)
  rw [lg_entry_eq]
  generalize (lg_sl ([.ref h0, .int qk, .int qh]) ++ List.replicate (3 - (lg_sl ([.ref h0, .int qk, .int qh])).length) Slot.unset).toArray = ls at hl ⊢
  have hl : lv_has ls 3 [(0, .ref h0), (1, .int qk), (2, .int qh)] := hl
  refine lv_aload_n hx hb dX12_listed_0 rfl (lv_at hl 0 rfl) ?_
  refine lv_iconst (v := 0) hx hb dX12_listed_1 (by decide) ?_
  refine va_put (D := (dC, dI)) (ci := 12) (v := .int 0) (ty := .int) (C := RX12) (T := TX12) (N := 163) hx hb hts iwsPX12_listed_in12 tyX12 tyX12_ok nmX12 hown hK hP hD hS 0 rfl rfl 0 (by decide) (hts (.fieldLink RX12 348 "OptimaWorksModel" "thrown" "I") (by decide +kernel)) (fun _ h9 => h9) rfl (by decide +kernel) rfl rfl (Nat.le_of_ble_eq_true rfl) dX12_listed_2 (fun H locs hP hD hS => ?_)
  have hP : va_P (dC, dI) vwCl [(h0, .inr (12, fM (mUp v 0 (.int 0))))] H := hP
  have hD : va_D A [(h0, .inr (12, fM (mUp v 0 (.int 0))))] := hD
  refine lv_aload_n hx hb dX12_listed_5 rfl (lv_at hl 0 rfl) ?_
  refine lv_iload_n hx hb dX12_listed_6 rfl (lv_at hl 2 rfl) ?_
  have hPc := hP.sub (ws' := [(h0, .inr (12, fM (mUp v 0 (.int 0))))]) [0] rfl
  have hDc := hD.sub (ws' := [(h0, .inr (12, fM (mUp v 0 (.int 0))))]) [0] (by decide) rfl
  have hKc := hK.sub (tys' := []) [] rfl
  have hFc := va_free (wc := [(h0, .inr (12, fM (mUp v 0 (.int 0))))]) hD hS hA [0] rfl
  refine va_calli (va_runV (As := [.int qh]) (rest := []) ⟨hx, hb, hml, hown, hts⟩ (p_X12_isHolder l dC dI h0 (mUp v 0 (.int 0)) (h_holders) qh H.size) (cwV 1 hts gwsPX12_listed_0 rfl rfl rfl (by decide +kernel) ⟨by decide +kernel, by decide +kernel⟩) ⟨fun a U g mk q => by obtain ⟨q0, q1, qP, qK, qD⟩ := q; exact ⟨q0, q1, qP, va_K.moved (u := U) (U := U.calling g mk a) (Vm.Alike.refl U.vm) qK, qD⟩, va_recv hKc hPc (ci := 12) (q0 := 0) rfl rfl, fun U hU9 hW => ⟨rfl, by rw [hU9], by rw [hU9]; exact hPc, va_K.moved hW.alike hKc, hDc.weaken (fun _ _ _ _ => trivial)⟩⟩ rfl rfl hl.1 rfl (lv_room (Nat.le_of_ble_eq_true rfl)) dX12_listed_7 ⟨by decide +kernel, by decide +kernel⟩) hS (fun q _ h => hFc q h) hFc (fun r7 u t H1 locs ht hvm hw hB hz1 hk1 hS => ?_)
  obtain ⟨hP1, hK1, hD1⟩ := hB
  rw [ht] at hP1
  have hK1 := va_K.moved hvm.symm hK1
  obtain ⟨hP, hD⟩ := va_join (wr := []) (w1 := [(h0, .inr (12, fM ((mUp v 0 (.int 0)))))]) hP hD [0] [] rfl rfl (by decide) (by decide) hk1 hFc hP1 hD1
  generalize H1 = H at hP hS ⊢
  have hP : va_P (dC, dI) vwCl [(h0, .inr (12, fM ((mUp v 0 (.int 0)))))] H := hP
  have hD : va_D A [(h0, .inr (12, fM ((mUp v 0 (.int 0)))))] := hD
  obtain rfl := hw
  refine lv_if_eq (tgt := 25) hx hb dX12_listed_10 (by decide) (fun _ => ?_) (fun c9 => absurd (by decide) c9)
  refine lv_iconst (v := (-1)) hx hb dX12_listed_25 (by decide) ?_
  refine lv_goto (tgt := 40) hx hb dX12_listed_26 (by decide) ?_
  refine W.widen (k := 0) (n := 0) (by decide +kernel) (by decide +kernel) ?_
  exact W.iret (v := (-1)) hx hb hr (fun t ht hW => ⟨⟨(-1), (mUp v 0 (.int 0)), rfl, by (refine ⟨?_, ?_⟩ <;> (first | rfl | assumption | trivial | omega | (simp []; done) | (simp; omega))), by rw [ht]; exact hP.sub [0] rfl, va_K.moved hW.alike (hK.sub [] rfl), hD.sub [0] (by decide) rfl⟩, hS.F ht⟩) hS.2.2 dX12_listed_40
theorem dX12_clause_0 : decode cX12_clause 0 = .ok (.iload_n 1, 1) := by decide +kernel
theorem dX12_clause_1 : decode cX12_clause 1 = .ok (.ifCond .lt 48, 3) := by decide +kernel
theorem dX12_clause_4 : decode cX12_clause 4 = .ok (.iload_n 1, 1) := by decide +kernel
theorem dX12_clause_5 : decode cX12_clause 5 = .ok (.sipush 4096, 3) := by decide +kernel
theorem dX12_clause_8 : decode cX12_clause 8 = .ok (.if_icmp .ge 41, 3) := by decide +kernel
theorem dX12_clause_11 : decode cX12_clause 11 = .ok (.iload_n 2, 1) := by decide +kernel
theorem dX12_clause_12 : decode cX12_clause 12 = .ok (.ifCond .lt 37, 3) := by decide +kernel
theorem dX12_clause_15 : decode cX12_clause 15 = .ok (.iload_n 2, 1) := by decide +kernel
theorem dX12_clause_16 : decode cX12_clause 16 = .ok (.sipush 4096, 3) := by decide +kernel
theorem dX12_clause_19 : decode cX12_clause 19 = .ok (.if_icmp .ge 30, 3) := by decide +kernel
theorem dX12_clause_22 : decode cX12_clause 22 = .ok (.iload_n 1, 1) := by decide +kernel
theorem dX12_clause_23 : decode cX12_clause 23 = .ok (.iload_n 2, 1) := by decide +kernel
theorem dX12_clause_24 : decode cX12_clause 24 = .ok (.ior, 1) := by decide +kernel
theorem dX12_clause_25 : decode cX12_clause 25 = .ok (.ifCond .eq 24, 3) := by decide +kernel
theorem dX12_clause_28 : decode cX12_clause 28 = .ok (.iload_n 1, 1) := by decide +kernel
theorem dX12_clause_29 : decode cX12_clause 29 = .ok (.iload_n 2, 1) := by decide +kernel
theorem dX12_clause_30 : decode cX12_clause 30 = .ok (.iand, 1) := by decide +kernel
theorem dX12_clause_31 : decode cX12_clause 31 = .ok (.ifCond .ne 18, 3) := by decide +kernel
theorem dX12_clause_34 : decode cX12_clause 34 = .ok (.iload_n 3, 1) := by decide +kernel
theorem dX12_clause_35 : decode cX12_clause 35 = .ok (.ifCond .lt 14, 3) := by decide +kernel
theorem dX12_clause_38 : decode cX12_clause 38 = .ok (.iload_n 3, 1) := by decide +kernel
theorem dX12_clause_39 : decode cX12_clause 39 = .ok (.sipush 1000, 3) := by decide +kernel
theorem dX12_clause_42 : decode cX12_clause 42 = .ok (.if_icmp .gt 7, 3) := by decide +kernel
theorem dX12_clause_45 : decode cX12_clause 45 = .ok (.iconst 1, 1) := by decide +kernel
theorem dX12_clause_46 : decode cX12_clause 46 = .ok (.goto 4, 3) := by decide +kernel
theorem dX12_clause_49 : decode cX12_clause 49 = .ok (.iconst 0, 1) := by decide +kernel
theorem dX12_clause_50 : decode cX12_clause 50 = .ok (.istore 4, 2) := by decide +kernel
theorem dX12_clause_52 : decode cX12_clause 52 = .ok (.aload_n 0, 1) := by decide +kernel
theorem dX12_clause_53 : decode cX12_clause 53 = .ok (.iload 4, 2) := by decide +kernel
theorem dX12_clause_55 : decode cX12_clause 55 = .ok (.ifCond .ne 7, 3) := by decide +kernel
theorem dX12_clause_58 : decode cX12_clause 58 = .ok (.iconst 1, 1) := by decide +kernel
theorem dX12_clause_59 : decode cX12_clause 59 = .ok (.goto 17, 3) := by decide +kernel
theorem dX12_clause_62 : decode cX12_clause 62 = .ok (.aload_n 0, 1) := by decide +kernel
theorem dX12_clause_63 : decode cX12_clause 63 = .ok (.getfield 1051, 3) := by decide +kernel
theorem dX12_clause_66 : decode cX12_clause 66 = .ok (.bipush 24, 2) := by decide +kernel
theorem dX12_clause_68 : decode cX12_clause 68 = .ok (.if_icmp .ne 7, 3) := by decide +kernel
theorem dX12_clause_75 : decode cX12_clause 75 = .ok (.iconst 0, 1) := by decide +kernel
theorem dX12_clause_76 : decode cX12_clause 76 = .ok (.putfield 348, 3) := by decide +kernel
theorem dX12_clause_79 : decode cX12_clause 79 = .ok (.aload_n 0, 1) := by decide +kernel
theorem dX12_clause_80 : decode cX12_clause 80 = .ok (.getfield 348, 3) := by decide +kernel
theorem dX12_clause_83 : decode cX12_clause 83 = .ok (.ifCond .le 5, 3) := by decide +kernel
theorem dX12_clause_86 : decode cX12_clause 86 = .ok (.iconst 0, 1) := by decide +kernel
theorem dX12_clause_87 : decode cX12_clause 87 = .ok (.ireturn, 1) := by decide +kernel
theorem dX12_clause_88 : decode cX12_clause 88 = .ok (.aload_n 0, 1) := by decide +kernel
theorem dX12_clause_89 : decode cX12_clause 89 = .ok (.getfield 303, 3) := by decide +kernel
theorem dX12_clause_92 : decode cX12_clause 92 = .ok (.aload_n 0, 1) := by decide +kernel
theorem dX12_clause_93 : decode cX12_clause 93 = .ok (.getfield 1051, 3) := by decide +kernel
theorem dX12_clause_96 : decode cX12_clause 96 = .ok (.iload_n 1, 1) := by decide +kernel
theorem dX12_clause_97 : decode cX12_clause 97 = .ok (.iastore, 1) := by decide +kernel
theorem dX12_clause_98 : decode cX12_clause 98 = .ok (.aload_n 0, 1) := by decide +kernel
theorem dX12_clause_99 : decode cX12_clause 99 = .ok (.getfield 306, 3) := by decide +kernel
theorem dX12_clause_102 : decode cX12_clause 102 = .ok (.aload_n 0, 1) := by decide +kernel
theorem dX12_clause_103 : decode cX12_clause 103 = .ok (.getfield 1051, 3) := by decide +kernel
theorem dX12_clause_106 : decode cX12_clause 106 = .ok (.iload_n 2, 1) := by decide +kernel
theorem dX12_clause_107 : decode cX12_clause 107 = .ok (.iastore, 1) := by decide +kernel
theorem dX12_clause_108 : decode cX12_clause 108 = .ok (.aload_n 0, 1) := by decide +kernel
theorem dX12_clause_109 : decode cX12_clause 109 = .ok (.getfield 309, 3) := by decide +kernel
theorem dX12_clause_112 : decode cX12_clause 112 = .ok (.aload_n 0, 1) := by decide +kernel
theorem dX12_clause_113 : decode cX12_clause 113 = .ok (.getfield 1051, 3) := by decide +kernel
theorem dX12_clause_116 : decode cX12_clause 116 = .ok (.iload_n 3, 1) := by decide +kernel
theorem dX12_clause_117 : decode cX12_clause 117 = .ok (.iastore, 1) := by decide +kernel
theorem dX12_clause_118 : decode cX12_clause 118 = .ok (.aload_n 0, 1) := by decide +kernel
theorem dX12_clause_119 : decode cX12_clause 119 = .ok (.dup, 1) := by decide +kernel
theorem dX12_clause_120 : decode cX12_clause 120 = .ok (.getfield 1051, 3) := by decide +kernel
theorem dX12_clause_123 : decode cX12_clause 123 = .ok (.iconst 1, 1) := by decide +kernel
theorem dX12_clause_124 : decode cX12_clause 124 = .ok (.iadd, 1) := by decide +kernel
theorem dX12_clause_125 : decode cX12_clause 125 = .ok (.putfield 1051, 3) := by decide +kernel
theorem dX12_clause_128 : decode cX12_clause 128 = .ok (.aload_n 0, 1) := by decide +kernel
theorem dX12_clause_129 : decode cX12_clause 129 = .ok (.getfield 1051, 3) := by decide +kernel
theorem dX12_clause_132 : decode cX12_clause 132 = .ok (.iconst 1, 1) := by decide +kernel
theorem dX12_clause_133 : decode cX12_clause 133 = .ok (.isub, 1) := by decide +kernel
theorem dX12_clause_134 : decode cX12_clause 134 = .ok (.ireturn, 1) := by decide +kernel
def wsPX12_clause : List Cond := .code yX12_clause cX12_clause 5 (some .int) :: ([.fieldLink RX12 348 "OptimaWorksModel" "thrown" "I", .fieldLink RX12 1051 "OptimaWorksModel" "clauses" "I", .fieldLink RX12 303 "OptimaWorksModel" "wants" "[I", .fieldLink RX12 306 "OptimaWorksModel" "wantsNot" "[I", .fieldLink RX12 309 "OptimaWorksModel" "weights" "[I"] ++ wsX120)
theorem iwsPX12_clause_in12 : ∀ w ∈ wsX120, w ∈ wsPX12_clause := fun _ h => List.mem_cons_of_mem _ (List.mem_append_right _ h)
set_option maxHeartbeats 4000000 in
set_option maxRecDepth 100000 in
/-- clause(yes, no, weight) -/
theorem p_X12_clause (l : Launch) (dC : Nat → ClassId) (dI : Nat → Nat → Nat) (h0 : Nat) (v : Nat → Value) (h_clauses : v 146 = .int 0) (b_wants : Nat) (h_wants : v 147 = .ref b_wants) (k_wants : ClassId) (r_wants : Nat → Int32) (b_wantsNot : Nat) (h_wantsNot : v 148 = .ref b_wantsNot) (k_wantsNot : ClassId) (r_wantsNot : Nat → Int32) (b_weights : Nat) (h_weights : v 149 = .ref b_weights) (k_weights : ClassId) (r_weights : Nat → Int32) (qy : Int32) (qn : Int32) (qw : Int32) (sz : Nat) : Met l yX12_clause wsPX12_clause ({ frames := 0, cells := 0, slots := 0, locals := 0 }) (va_Pc [.ref h0, .int qy, .int qn, .int qw] (fun U => U.heap.size = sz ∧ va_P (dC, dI) vwCl [(h0, .inr (12, fM v)), (b_wants, .inl (k_wants, 24, .inl r_wants)), (b_wantsNot, .inl (k_wantsNot, 24, .inl r_wantsNot)), (b_weights, .inl (k_weights, 24, .inl r_weights))] U.heap ∧ va_K (dC, dI) vwCl [(k_wants, .int), (k_wantsNot, .int), (k_weights, .int)] U ∧ va_D (fun _ => True) [(h0, .inr (12, fM v)), (b_wants, .inl (k_wants, 24, .inl r_wants)), (b_wantsNot, .inl (k_wantsNot, 24, .inl r_wantsNot)), (b_weights, .inl (k_weights, 24, .inl r_weights))])) (va_Qi (fun (r : Int32) (u : Nat → Value) => (r = 0 ∧ (0 ≤ (qy).toInt ∧ (qy).toInt < 4096 ∧ 0 ≤ (qn).toInt ∧ (qn).toInt < 4096 ∧ ¬ (qy ||| qn).toInt = 0 ∧ (qy &&& qn).toInt = 0 ∧ 0 ≤ (qw).toInt ∧ (qw).toInt ≤ 1000) ∧ (u 0 = .int 0)) ∨ (r = 0 ∧ ((qy).toInt < 0 ∨ 4096 ≤ (qy).toInt ∨ (qn).toInt < 0 ∨ 4096 ≤ (qn).toInt ∨ (qy ||| qn).toInt = 0 ∨ ¬ (qy &&& qn).toInt = 0 ∨ (qw).toInt < 0 ∨ 1000 < (qw).toInt) ∧ (u 0 = .int 1))) (fun (u : Nat → Value) t => va_P (dC, dI) vwCl [(h0, .inr (12, fM u))] t.heap ∧ va_K (dC, dI) vwCl [] t ∧ va_D (va_A [(h0, .inr (12, fM v)), (b_wants, .inl (k_wants, 24, .inl r_wants)), (b_wantsNot, .inl (k_wantsNot, 24, .inl r_wantsNot)), (b_weights, .inl (k_weights, 24, .inl r_weights))] sz) [(h0, .inr (12, fM u))]) (va_A [(h0, .inr (12, fM v)), (b_wants, .inl (k_wants, 24, .inl r_wants)), (b_wantsNot, .inl (k_wantsNot, 24, .inl r_wantsNot)), (b_weights, .inl (k_weights, 24, .inl r_weights))] sz)) 0 0 (va_A [(h0, .inr (12, fM v)), (b_wants, .inl (k_wants, 24, .inl r_wants)), (b_wantsNot, .inl (k_wantsNot, 24, .inl r_wantsNot)), (b_weights, .inl (k_weights, 24, .inl r_weights))] sz) := by
  refine Met.ofW (cc := cX12_clause) (maxL := 5) (ret := (some .int)) (by decide) rfl ?_
  intro p e s m args below meth c s₁ B hml hv
  obtain ⟨rfl, hsz, hP, hK, hD0⟩ := hv
  have hx := B.exec
  have hb := B.bytes
  have hr := B.returns
  have hts := atoms_spec (ws := wsPX12_clause) B.pre
  have hown : s.vm.findClass RX12 = some m.cls := findClass_of_methodNamed B.named
  have hlocks := B.notSynchronized
  subst hsz
  have hD := hD0.self (sz := s.heap.size)
  generalize hAe : va_A [(h0, .inr (12, fM v)), (b_wants, .inl (k_wants, 24, .inl r_wants)), (b_wantsNot, .inl (k_wantsNot, 24, .inl r_wantsNot)), (b_weights, .inl (k_weights, 24, .inl r_weights))] s.heap.size = A at hD ⊢
  have hA : ∀ q : Nat, s.heap.size ≤ q → A q := fun q h => by rw [← hAe]; exact Or.inr h
  have hS : va_S A s.heap s.heap [] := va_S.rf
  have hP : va_P (dC, dI) vwCl [(h0, .inr (12, fM v)), (b_wants, .inl (k_wants, 24, .inl r_wants)), (b_wantsNot, .inl (k_wantsNot, 24, .inl r_wantsNot)), (b_weights, .inl (k_weights, 24, .inl r_weights))] s.heap := hP
  have hl := lv_entry ([.ref h0, .int qy, .int qn, .int qw]) (n := 5) (Nat.le_of_ble_eq_true rfl)
  rw [lg_entry_eq]
  generalize (lg_sl ([.ref h0, .int qy, .int qn, .int qw]) ++ List.replicate (5 - (lg_sl ([.ref h0, .int qy, .int qn, .int qw])).length) Slot.unset).toArray = ls at hl ⊢
  have hl : lv_has ls 5 [(0, .ref h0), (1, .int qy), (2, .int qn), (3, .int qw)] := hl
  refine lv_iload_n hx hb dX12_clause_0 rfl (lv_at hl 1 rfl) ?_
  refine lv_if_lt (tgt := 49) hx hb dX12_clause_1 (by decide) (fun c_1 => ?_) (fun c_1 => ?_)
  · have t_1 : (qy).toInt < 0 := toI_lt c_1 rfl (by decide)
    refine lv_iconst (v := 0) hx hb dX12_clause_49 (by decide) ?_
    refine lv_istore (lv' := [(4, .int 0), (0, .ref h0), (1, .int qy), (2, .int qn), (3, .int qw)]) hx hb dX12_clause_50 hl (by decide) rfl (fun ls hl => ?_)
    refine lv_aload_n hx hb dX12_clause_52 rfl (lv_at hl 1 rfl) ?_
    refine lv_iload hx hb dX12_clause_53 (lv_at hl 0 rfl) ?_
    refine lv_if_ne (tgt := 62) hx hb dX12_clause_55 (by decide) (fun c9 => absurd c9 (by decide)) (fun _ => ?_)
    refine lv_iconst (v := 1) hx hb dX12_clause_58 (by decide) ?_
    refine lv_goto (tgt := 76) hx hb dX12_clause_59 (by decide) ?_
    refine va_put (D := (dC, dI)) (ci := 12) (v := .int 1) (ty := .int) (C := RX12) (T := TX12) (N := 163) hx hb hts iwsPX12_clause_in12 tyX12 tyX12_ok nmX12 hown hK hP hD hS 0 rfl rfl 0 (by decide) (hts (.fieldLink RX12 348 "OptimaWorksModel" "thrown" "I") (by decide +kernel)) (fun _ h9 => h9) rfl (by decide +kernel) rfl rfl (Nat.le_of_ble_eq_true rfl) dX12_clause_76 (fun H locs hP hD hS => ?_)
    have hP : va_P (dC, dI) vwCl [(h0, .inr (12, fM (mUp v 0 (.int 1)))), (b_wants, .inl (k_wants, 24, .inl r_wants)), (b_wantsNot, .inl (k_wantsNot, 24, .inl r_wantsNot)), (b_weights, .inl (k_weights, 24, .inl r_weights))] H := hP
    have hD : va_D A [(h0, .inr (12, fM (mUp v 0 (.int 1)))), (b_wants, .inl (k_wants, 24, .inl r_wants)), (b_wantsNot, .inl (k_wantsNot, 24, .inl r_wantsNot)), (b_weights, .inl (k_weights, 24, .inl r_weights))] := hD
    refine lv_aload_n hx hb dX12_clause_79 rfl (lv_at hl 1 rfl) ?_
    refine va_get (D := (dC, dI)) (ci := 12) (v := .int 1) (C := RX12) (T := TX12) (N := 163) hx hb hts iwsPX12_clause_in12 hown hK hP 0 rfl rfl 0 (by decide) (hts (.fieldLink RX12 348 "OptimaWorksModel" "thrown" "I") (by decide +kernel)) (fun _ h9 => h9) rfl dX12_clause_80 ?_
    refine lv_if_le (tgt := 88) hx hb dX12_clause_83 (by decide) (fun c9 => absurd c9 (by decide)) (fun _ => ?_)
    refine lv_iconst (v := 0) hx hb dX12_clause_86 (by decide) ?_
    refine W.widen (k := 0) (n := 0) (by decide +kernel) (by decide +kernel) ?_
    exact W.iret (v := 0) hx hb hr (fun t ht hW => ⟨⟨0, (mUp v 0 (.int 1)), rfl, by first | (left; (refine ⟨?_, ?_, ?_⟩ <;> (first | rfl | assumption | trivial | omega | (simp [c_1]; done) | (simp; omega)))) | (right; (refine ⟨?_, ?_, ?_⟩ <;> (first | rfl | assumption | trivial | omega | (simp [c_1]; done) | (simp; omega)))), by rw [ht]; exact hP.sub [0] rfl, va_K.moved hW.alike (hK.sub [] rfl), hD.sub [0] (by decide) rfl⟩, hS.F ht⟩) hS.2.2 dX12_clause_87
  · have t_1 : ¬ (qy).toInt < 0 := toI_nlt c_1 rfl (by decide)
    refine lv_iload_n hx hb dX12_clause_4 rfl (lv_at hl 1 rfl) ?_
    refine lv_sipush (v := 4096) hx hb dX12_clause_5 (by decide) ?_
    refine lv_icmp_ge (tgt := 49) hx hb dX12_clause_8 (by decide) (fun c_8 => ?_) (fun c_8 => ?_)
    · have t_8 : (qy).toInt ≥ 4096 := toI_ge c_8 rfl (by decide)
      refine lv_iconst (v := 0) hx hb dX12_clause_49 (by decide) ?_
      refine lv_istore (lv' := [(4, .int 0), (0, .ref h0), (1, .int qy), (2, .int qn), (3, .int qw)]) hx hb dX12_clause_50 hl (by decide) rfl (fun ls hl => ?_)
      refine lv_aload_n hx hb dX12_clause_52 rfl (lv_at hl 1 rfl) ?_
      refine lv_iload hx hb dX12_clause_53 (lv_at hl 0 rfl) ?_
      refine lv_if_ne (tgt := 62) hx hb dX12_clause_55 (by decide) (fun c9 => absurd c9 (by decide)) (fun _ => ?_)
      refine lv_iconst (v := 1) hx hb dX12_clause_58 (by decide) ?_
      refine lv_goto (tgt := 76) hx hb dX12_clause_59 (by decide) ?_
      refine va_put (D := (dC, dI)) (ci := 12) (v := .int 1) (ty := .int) (C := RX12) (T := TX12) (N := 163) hx hb hts iwsPX12_clause_in12 tyX12 tyX12_ok nmX12 hown hK hP hD hS 0 rfl rfl 0 (by decide) (hts (.fieldLink RX12 348 "OptimaWorksModel" "thrown" "I") (by decide +kernel)) (fun _ h9 => h9) rfl (by decide +kernel) rfl rfl (Nat.le_of_ble_eq_true rfl) dX12_clause_76 (fun H locs hP hD hS => ?_)
      have hP : va_P (dC, dI) vwCl [(h0, .inr (12, fM (mUp v 0 (.int 1)))), (b_wants, .inl (k_wants, 24, .inl r_wants)), (b_wantsNot, .inl (k_wantsNot, 24, .inl r_wantsNot)), (b_weights, .inl (k_weights, 24, .inl r_weights))] H := hP
      have hD : va_D A [(h0, .inr (12, fM (mUp v 0 (.int 1)))), (b_wants, .inl (k_wants, 24, .inl r_wants)), (b_wantsNot, .inl (k_wantsNot, 24, .inl r_wantsNot)), (b_weights, .inl (k_weights, 24, .inl r_weights))] := hD
      refine lv_aload_n hx hb dX12_clause_79 rfl (lv_at hl 1 rfl) ?_
      refine va_get (D := (dC, dI)) (ci := 12) (v := .int 1) (C := RX12) (T := TX12) (N := 163) hx hb hts iwsPX12_clause_in12 hown hK hP 0 rfl rfl 0 (by decide) (hts (.fieldLink RX12 348 "OptimaWorksModel" "thrown" "I") (by decide +kernel)) (fun _ h9 => h9) rfl dX12_clause_80 ?_
      refine lv_if_le (tgt := 88) hx hb dX12_clause_83 (by decide) (fun c9 => absurd c9 (by decide)) (fun _ => ?_)
      refine lv_iconst (v := 0) hx hb dX12_clause_86 (by decide) ?_
      refine W.widen (k := 0) (n := 0) (by decide +kernel) (by decide +kernel) ?_
      exact W.iret (v := 0) hx hb hr (fun t ht hW => ⟨⟨0, (mUp v 0 (.int 1)), rfl, by first | (left; (refine ⟨?_, ?_, ?_⟩ <;> (first | rfl | assumption | trivial | omega | (simp [c_1, c_8]; done) | (simp; omega)))) | (right; (refine ⟨?_, ?_, ?_⟩ <;> (first | rfl | assumption | trivial | omega | (simp [c_1, c_8]; done) | (simp; omega)))), by rw [ht]; exact hP.sub [0] rfl, va_K.moved hW.alike (hK.sub [] rfl), hD.sub [0] (by decide) rfl⟩, hS.F ht⟩) hS.2.2 dX12_clause_87
    · have t_8 : ¬ (qy).toInt ≥ 4096 := toI_nge c_8 rfl (by decide)
      refine lv_iload_n hx hb dX12_clause_11 rfl (lv_at hl 2 rfl) ?_
      refine lv_if_lt (tgt := 49) hx hb dX12_clause_12 (by decide) (fun c_12 => ?_) (fun c_12 => ?_)
      · have t_12 : (qn).toInt < 0 := toI_lt c_12 rfl (by decide)
        refine lv_iconst (v := 0) hx hb dX12_clause_49 (by decide) ?_
        refine lv_istore (lv' := [(4, .int 0), (0, .ref h0), (1, .int qy), (2, .int qn), (3, .int qw)]) hx hb dX12_clause_50 hl (by decide) rfl (fun ls hl => ?_)
        refine lv_aload_n hx hb dX12_clause_52 rfl (lv_at hl 1 rfl) ?_
        refine lv_iload hx hb dX12_clause_53 (lv_at hl 0 rfl) ?_
        refine lv_if_ne (tgt := 62) hx hb dX12_clause_55 (by decide) (fun c9 => absurd c9 (by decide)) (fun _ => ?_)
        refine lv_iconst (v := 1) hx hb dX12_clause_58 (by decide) ?_
        refine lv_goto (tgt := 76) hx hb dX12_clause_59 (by decide) ?_
        refine va_put (D := (dC, dI)) (ci := 12) (v := .int 1) (ty := .int) (C := RX12) (T := TX12) (N := 163) hx hb hts iwsPX12_clause_in12 tyX12 tyX12_ok nmX12 hown hK hP hD hS 0 rfl rfl 0 (by decide) (hts (.fieldLink RX12 348 "OptimaWorksModel" "thrown" "I") (by decide +kernel)) (fun _ h9 => h9) rfl (by decide +kernel) rfl rfl (Nat.le_of_ble_eq_true rfl) dX12_clause_76 (fun H locs hP hD hS => ?_)
        have hP : va_P (dC, dI) vwCl [(h0, .inr (12, fM (mUp v 0 (.int 1)))), (b_wants, .inl (k_wants, 24, .inl r_wants)), (b_wantsNot, .inl (k_wantsNot, 24, .inl r_wantsNot)), (b_weights, .inl (k_weights, 24, .inl r_weights))] H := hP
        have hD : va_D A [(h0, .inr (12, fM (mUp v 0 (.int 1)))), (b_wants, .inl (k_wants, 24, .inl r_wants)), (b_wantsNot, .inl (k_wantsNot, 24, .inl r_wantsNot)), (b_weights, .inl (k_weights, 24, .inl r_weights))] := hD
        refine lv_aload_n hx hb dX12_clause_79 rfl (lv_at hl 1 rfl) ?_
        refine va_get (D := (dC, dI)) (ci := 12) (v := .int 1) (C := RX12) (T := TX12) (N := 163) hx hb hts iwsPX12_clause_in12 hown hK hP 0 rfl rfl 0 (by decide) (hts (.fieldLink RX12 348 "OptimaWorksModel" "thrown" "I") (by decide +kernel)) (fun _ h9 => h9) rfl dX12_clause_80 ?_
        refine lv_if_le (tgt := 88) hx hb dX12_clause_83 (by decide) (fun c9 => absurd c9 (by decide)) (fun _ => ?_)
        refine lv_iconst (v := 0) hx hb dX12_clause_86 (by decide) ?_
        refine W.widen (k := 0) (n := 0) (by decide +kernel) (by decide +kernel) ?_
        exact W.iret (v := 0) hx hb hr (fun t ht hW => ⟨⟨0, (mUp v 0 (.int 1)), rfl, by first | (left; (refine ⟨?_, ?_, ?_⟩ <;> (first | rfl | assumption | trivial | omega | (simp [c_1, c_8, c_12]; done) | (simp; omega)))) | (right; (refine ⟨?_, ?_, ?_⟩ <;> (first | rfl | assumption | trivial | omega | (simp [c_1, c_8, c_12]; done) | (simp; omega)))), by rw [ht]; exact hP.sub [0] rfl, va_K.moved hW.alike (hK.sub [] rfl), hD.sub [0] (by decide) rfl⟩, hS.F ht⟩) hS.2.2 dX12_clause_87
      · have t_12 : ¬ (qn).toInt < 0 := toI_nlt c_12 rfl (by decide)
        refine lv_iload_n hx hb dX12_clause_15 rfl (lv_at hl 2 rfl) ?_
        refine lv_sipush (v := 4096) hx hb dX12_clause_16 (by decide) ?_
        refine lv_icmp_ge (tgt := 49) hx hb dX12_clause_19 (by decide) (fun c_19 => ?_) (fun c_19 => ?_)
        · have t_19 : (qn).toInt ≥ 4096 := toI_ge c_19 rfl (by decide)
          refine lv_iconst (v := 0) hx hb dX12_clause_49 (by decide) ?_
          refine lv_istore (lv' := [(4, .int 0), (0, .ref h0), (1, .int qy), (2, .int qn), (3, .int qw)]) hx hb dX12_clause_50 hl (by decide) rfl (fun ls hl => ?_)
          refine lv_aload_n hx hb dX12_clause_52 rfl (lv_at hl 1 rfl) ?_
          refine lv_iload hx hb dX12_clause_53 (lv_at hl 0 rfl) ?_
          refine lv_if_ne (tgt := 62) hx hb dX12_clause_55 (by decide) (fun c9 => absurd c9 (by decide)) (fun _ => ?_)
          refine lv_iconst (v := 1) hx hb dX12_clause_58 (by decide) ?_
          refine lv_goto (tgt := 76) hx hb dX12_clause_59 (by decide) ?_
          refine va_put (D := (dC, dI)) (ci := 12) (v := .int 1) (ty := .int) (C := RX12) (T := TX12) (N := 163) hx hb hts iwsPX12_clause_in12 tyX12 tyX12_ok nmX12 hown hK hP hD hS 0 rfl rfl 0 (by decide) (hts (.fieldLink RX12 348 "OptimaWorksModel" "thrown" "I") (by decide +kernel)) (fun _ h9 => h9) rfl (by decide +kernel) rfl rfl (Nat.le_of_ble_eq_true rfl) dX12_clause_76 (fun H locs hP hD hS => ?_)
          have hP : va_P (dC, dI) vwCl [(h0, .inr (12, fM (mUp v 0 (.int 1)))), (b_wants, .inl (k_wants, 24, .inl r_wants)), (b_wantsNot, .inl (k_wantsNot, 24, .inl r_wantsNot)), (b_weights, .inl (k_weights, 24, .inl r_weights))] H := hP
          have hD : va_D A [(h0, .inr (12, fM (mUp v 0 (.int 1)))), (b_wants, .inl (k_wants, 24, .inl r_wants)), (b_wantsNot, .inl (k_wantsNot, 24, .inl r_wantsNot)), (b_weights, .inl (k_weights, 24, .inl r_weights))] := hD
          refine lv_aload_n hx hb dX12_clause_79 rfl (lv_at hl 1 rfl) ?_
          refine va_get (D := (dC, dI)) (ci := 12) (v := .int 1) (C := RX12) (T := TX12) (N := 163) hx hb hts iwsPX12_clause_in12 hown hK hP 0 rfl rfl 0 (by decide) (hts (.fieldLink RX12 348 "OptimaWorksModel" "thrown" "I") (by decide +kernel)) (fun _ h9 => h9) rfl dX12_clause_80 ?_
          refine lv_if_le (tgt := 88) hx hb dX12_clause_83 (by decide) (fun c9 => absurd c9 (by decide)) (fun _ => ?_)
          refine lv_iconst (v := 0) hx hb dX12_clause_86 (by decide) ?_
          refine W.widen (k := 0) (n := 0) (by decide +kernel) (by decide +kernel) ?_
          exact W.iret (v := 0) hx hb hr (fun t ht hW => ⟨⟨0, (mUp v 0 (.int 1)), rfl, by first | (left; (refine ⟨?_, ?_, ?_⟩ <;> (first | rfl | assumption | trivial | omega | (simp [c_1, c_8, c_12, c_19]; done) | (simp; omega)))) | (right; (refine ⟨?_, ?_, ?_⟩ <;> (first | rfl | assumption | trivial | omega | (simp [c_1, c_8, c_12, c_19]; done) | (simp; omega)))), by rw [ht]; exact hP.sub [0] rfl, va_K.moved hW.alike (hK.sub [] rfl), hD.sub [0] (by decide) rfl⟩, hS.F ht⟩) hS.2.2 dX12_clause_87
        · have t_19 : ¬ (qn).toInt ≥ 4096 := toI_nge c_19 rfl (by decide)
          refine lv_iload_n hx hb dX12_clause_22 rfl (lv_at hl 1 rfl) ?_
          refine lv_iload_n hx hb dX12_clause_23 rfl (lv_at hl 2 rfl) ?_
          refine lv_ior hx hb dX12_clause_24 ?_
          refine lv_if_eq (tgt := 49) hx hb dX12_clause_25 (by decide) (fun c_25 => ?_) (fun c_25 => ?_)
          · have t_25 : ((qy ||| qn)).toInt = 0 := toI_eq c_25 rfl (by decide)
            refine lv_iconst (v := 0) hx hb dX12_clause_49 (by decide) ?_
            refine lv_istore (lv' := [(4, .int 0), (0, .ref h0), (1, .int qy), (2, .int qn), (3, .int qw)]) hx hb dX12_clause_50 hl (by decide) rfl (fun ls hl => ?_)
            refine lv_aload_n hx hb dX12_clause_52 rfl (lv_at hl 1 rfl) ?_
            refine lv_iload hx hb dX12_clause_53 (lv_at hl 0 rfl) ?_
            refine lv_if_ne (tgt := 62) hx hb dX12_clause_55 (by decide) (fun c9 => absurd c9 (by decide)) (fun _ => ?_)
            refine lv_iconst (v := 1) hx hb dX12_clause_58 (by decide) ?_
            refine lv_goto (tgt := 76) hx hb dX12_clause_59 (by decide) ?_
            refine va_put (D := (dC, dI)) (ci := 12) (v := .int 1) (ty := .int) (C := RX12) (T := TX12) (N := 163) hx hb hts iwsPX12_clause_in12 tyX12 tyX12_ok nmX12 hown hK hP hD hS 0 rfl rfl 0 (by decide) (hts (.fieldLink RX12 348 "OptimaWorksModel" "thrown" "I") (by decide +kernel)) (fun _ h9 => h9) rfl (by decide +kernel) rfl rfl (Nat.le_of_ble_eq_true rfl) dX12_clause_76 (fun H locs hP hD hS => ?_)
            have hP : va_P (dC, dI) vwCl [(h0, .inr (12, fM (mUp v 0 (.int 1)))), (b_wants, .inl (k_wants, 24, .inl r_wants)), (b_wantsNot, .inl (k_wantsNot, 24, .inl r_wantsNot)), (b_weights, .inl (k_weights, 24, .inl r_weights))] H := hP
            have hD : va_D A [(h0, .inr (12, fM (mUp v 0 (.int 1)))), (b_wants, .inl (k_wants, 24, .inl r_wants)), (b_wantsNot, .inl (k_wantsNot, 24, .inl r_wantsNot)), (b_weights, .inl (k_weights, 24, .inl r_weights))] := hD
            refine lv_aload_n hx hb dX12_clause_79 rfl (lv_at hl 1 rfl) ?_
            refine va_get (D := (dC, dI)) (ci := 12) (v := .int 1) (C := RX12) (T := TX12) (N := 163) hx hb hts iwsPX12_clause_in12 hown hK hP 0 rfl rfl 0 (by decide) (hts (.fieldLink RX12 348 "OptimaWorksModel" "thrown" "I") (by decide +kernel)) (fun _ h9 => h9) rfl dX12_clause_80 ?_
            refine lv_if_le (tgt := 88) hx hb dX12_clause_83 (by decide) (fun c9 => absurd c9 (by decide)) (fun _ => ?_)
            refine lv_iconst (v := 0) hx hb dX12_clause_86 (by decide) ?_
            refine W.widen (k := 0) (n := 0) (by decide +kernel) (by decide +kernel) ?_
            exact W.iret (v := 0) hx hb hr (fun t ht hW => ⟨⟨0, (mUp v 0 (.int 1)), rfl, by first | (left; (refine ⟨?_, ?_, ?_⟩ <;> (first | rfl | assumption | trivial | omega | (simp [c_1, c_8, c_12, c_19, c_25]; done) | (simp; omega)))) | (right; (refine ⟨?_, ?_, ?_⟩ <;> (first | rfl | assumption | trivial | omega | (simp [c_1, c_8, c_12, c_19, c_25]; done) | (simp; omega)))), by rw [ht]; exact hP.sub [0] rfl, va_K.moved hW.alike (hK.sub [] rfl), hD.sub [0] (by decide) rfl⟩, hS.F ht⟩) hS.2.2 dX12_clause_87
          · have t_25 : ¬ ((qy ||| qn)).toInt = 0 := toI_neq c_25 rfl (by decide)
            refine lv_iload_n hx hb dX12_clause_28 rfl (lv_at hl 1 rfl) ?_
            refine lv_iload_n hx hb dX12_clause_29 rfl (lv_at hl 2 rfl) ?_
            refine lv_iand hx hb dX12_clause_30 ?_
            refine lv_if_ne (tgt := 49) hx hb dX12_clause_31 (by decide) (fun c_31 => ?_) (fun c_31 => ?_)
            · have t_31 : ((qy &&& qn)).toInt ≠ 0 := toI_ne c_31 rfl (by decide)
              refine lv_iconst (v := 0) hx hb dX12_clause_49 (by decide) ?_
              refine lv_istore (lv' := [(4, .int 0), (0, .ref h0), (1, .int qy), (2, .int qn), (3, .int qw)]) hx hb dX12_clause_50 hl (by decide) rfl (fun ls hl => ?_)
              refine lv_aload_n hx hb dX12_clause_52 rfl (lv_at hl 1 rfl) ?_
              refine lv_iload hx hb dX12_clause_53 (lv_at hl 0 rfl) ?_
              refine lv_if_ne (tgt := 62) hx hb dX12_clause_55 (by decide) (fun c9 => absurd c9 (by decide)) (fun _ => ?_)
              refine lv_iconst (v := 1) hx hb dX12_clause_58 (by decide) ?_
              refine lv_goto (tgt := 76) hx hb dX12_clause_59 (by decide) ?_
              refine va_put (D := (dC, dI)) (ci := 12) (v := .int 1) (ty := .int) (C := RX12) (T := TX12) (N := 163) hx hb hts iwsPX12_clause_in12 tyX12 tyX12_ok nmX12 hown hK hP hD hS 0 rfl rfl 0 (by decide) (hts (.fieldLink RX12 348 "OptimaWorksModel" "thrown" "I") (by decide +kernel)) (fun _ h9 => h9) rfl (by decide +kernel) rfl rfl (Nat.le_of_ble_eq_true rfl) dX12_clause_76 (fun H locs hP hD hS => ?_)
              have hP : va_P (dC, dI) vwCl [(h0, .inr (12, fM (mUp v 0 (.int 1)))), (b_wants, .inl (k_wants, 24, .inl r_wants)), (b_wantsNot, .inl (k_wantsNot, 24, .inl r_wantsNot)), (b_weights, .inl (k_weights, 24, .inl r_weights))] H := hP
              have hD : va_D A [(h0, .inr (12, fM (mUp v 0 (.int 1)))), (b_wants, .inl (k_wants, 24, .inl r_wants)), (b_wantsNot, .inl (k_wantsNot, 24, .inl r_wantsNot)), (b_weights, .inl (k_weights, 24, .inl r_weights))] := hD
              refine lv_aload_n hx hb dX12_clause_79 rfl (lv_at hl 1 rfl) ?_
              refine va_get (D := (dC, dI)) (ci := 12) (v := .int 1) (C := RX12) (T := TX12) (N := 163) hx hb hts iwsPX12_clause_in12 hown hK hP 0 rfl rfl 0 (by decide) (hts (.fieldLink RX12 348 "OptimaWorksModel" "thrown" "I") (by decide +kernel)) (fun _ h9 => h9) rfl dX12_clause_80 ?_
              refine lv_if_le (tgt := 88) hx hb dX12_clause_83 (by decide) (fun c9 => absurd c9 (by decide)) (fun _ => ?_)
              refine lv_iconst (v := 0) hx hb dX12_clause_86 (by decide) ?_
              refine W.widen (k := 0) (n := 0) (by decide +kernel) (by decide +kernel) ?_
              exact W.iret (v := 0) hx hb hr (fun t ht hW => ⟨⟨0, (mUp v 0 (.int 1)), rfl, by first | (left; (refine ⟨?_, ?_, ?_⟩ <;> (first | rfl | assumption | trivial | omega | (simp [c_1, c_8, c_12, c_19, c_25, c_31]; done) | (simp; omega)))) | (right; (refine ⟨?_, ?_, ?_⟩ <;> (first | rfl | assumption | trivial | omega | (simp [c_1, c_8, c_12, c_19, c_25, c_31]; done) | (simp; omega)))), by rw [ht]; exact hP.sub [0] rfl, va_K.moved hW.alike (hK.sub [] rfl), hD.sub [0] (by decide) rfl⟩, hS.F ht⟩) hS.2.2 dX12_clause_87
            · have t_31 : ((qy &&& qn)).toInt = 0 := toI_nne c_31 rfl (by decide)
              refine lv_iload_n hx hb dX12_clause_34 rfl (lv_at hl 3 rfl) ?_
              refine lv_if_lt (tgt := 49) hx hb dX12_clause_35 (by decide) (fun c_35 => ?_) (fun c_35 => ?_)
              · have t_35 : (qw).toInt < 0 := toI_lt c_35 rfl (by decide)
                refine lv_iconst (v := 0) hx hb dX12_clause_49 (by decide) ?_
                refine lv_istore (lv' := [(4, .int 0), (0, .ref h0), (1, .int qy), (2, .int qn), (3, .int qw)]) hx hb dX12_clause_50 hl (by decide) rfl (fun ls hl => ?_)
                refine lv_aload_n hx hb dX12_clause_52 rfl (lv_at hl 1 rfl) ?_
                refine lv_iload hx hb dX12_clause_53 (lv_at hl 0 rfl) ?_
                refine lv_if_ne (tgt := 62) hx hb dX12_clause_55 (by decide) (fun c9 => absurd c9 (by decide)) (fun _ => ?_)
                refine lv_iconst (v := 1) hx hb dX12_clause_58 (by decide) ?_
                refine lv_goto (tgt := 76) hx hb dX12_clause_59 (by decide) ?_
                refine va_put (D := (dC, dI)) (ci := 12) (v := .int 1) (ty := .int) (C := RX12) (T := TX12) (N := 163) hx hb hts iwsPX12_clause_in12 tyX12 tyX12_ok nmX12 hown hK hP hD hS 0 rfl rfl 0 (by decide) (hts (.fieldLink RX12 348 "OptimaWorksModel" "thrown" "I") (by decide +kernel)) (fun _ h9 => h9) rfl (by decide +kernel) rfl rfl (Nat.le_of_ble_eq_true rfl) dX12_clause_76 (fun H locs hP hD hS => ?_)
                have hP : va_P (dC, dI) vwCl [(h0, .inr (12, fM (mUp v 0 (.int 1)))), (b_wants, .inl (k_wants, 24, .inl r_wants)), (b_wantsNot, .inl (k_wantsNot, 24, .inl r_wantsNot)), (b_weights, .inl (k_weights, 24, .inl r_weights))] H := hP
                have hD : va_D A [(h0, .inr (12, fM (mUp v 0 (.int 1)))), (b_wants, .inl (k_wants, 24, .inl r_wants)), (b_wantsNot, .inl (k_wantsNot, 24, .inl r_wantsNot)), (b_weights, .inl (k_weights, 24, .inl r_weights))] := hD
                refine lv_aload_n hx hb dX12_clause_79 rfl (lv_at hl 1 rfl) ?_
                refine va_get (D := (dC, dI)) (ci := 12) (v := .int 1) (C := RX12) (T := TX12) (N := 163) hx hb hts iwsPX12_clause_in12 hown hK hP 0 rfl rfl 0 (by decide) (hts (.fieldLink RX12 348 "OptimaWorksModel" "thrown" "I") (by decide +kernel)) (fun _ h9 => h9) rfl dX12_clause_80 ?_
                refine lv_if_le (tgt := 88) hx hb dX12_clause_83 (by decide) (fun c9 => absurd c9 (by decide)) (fun _ => ?_)
                refine lv_iconst (v := 0) hx hb dX12_clause_86 (by decide) ?_
                refine W.widen (k := 0) (n := 0) (by decide +kernel) (by decide +kernel) ?_
                exact W.iret (v := 0) hx hb hr (fun t ht hW => ⟨⟨0, (mUp v 0 (.int 1)), rfl, by first | (left; (refine ⟨?_, ?_, ?_⟩ <;> (first | rfl | assumption | trivial | omega | (simp [c_1, c_8, c_12, c_19, c_25, c_31, c_35]; done) | (simp; omega)))) | (right; (refine ⟨?_, ?_, ?_⟩ <;> (first | rfl | assumption | trivial | omega | (simp [c_1, c_8, c_12, c_19, c_25, c_31, c_35]; done) | (simp; omega)))), by rw [ht]; exact hP.sub [0] rfl, va_K.moved hW.alike (hK.sub [] rfl), hD.sub [0] (by decide) rfl⟩, hS.F ht⟩) hS.2.2 dX12_clause_87
              · have t_35 : ¬ (qw).toInt < 0 := toI_nlt c_35 rfl (by decide)
                refine lv_iload_n hx hb dX12_clause_38 rfl (lv_at hl 3 rfl) ?_
                refine lv_sipush (v := 1000) hx hb dX12_clause_39 (by decide) ?_
                refine lv_icmp_gt (tgt := 49) hx hb dX12_clause_42 (by decide) (fun c_42 => ?_) (fun c_42 => ?_)
                · have t_42 : (qw).toInt > 1000 := toI_gt c_42 rfl (by decide)
                  refine lv_iconst (v := 0) hx hb dX12_clause_49 (by decide) ?_
                  refine lv_istore (lv' := [(4, .int 0), (0, .ref h0), (1, .int qy), (2, .int qn), (3, .int qw)]) hx hb dX12_clause_50 hl (by decide) rfl (fun ls hl => ?_)
                  refine lv_aload_n hx hb dX12_clause_52 rfl (lv_at hl 1 rfl) ?_
                  refine lv_iload hx hb dX12_clause_53 (lv_at hl 0 rfl) ?_
                  refine lv_if_ne (tgt := 62) hx hb dX12_clause_55 (by decide) (fun c9 => absurd c9 (by decide)) (fun _ => ?_)
                  refine lv_iconst (v := 1) hx hb dX12_clause_58 (by decide) ?_
                  refine lv_goto (tgt := 76) hx hb dX12_clause_59 (by decide) ?_
                  refine va_put (D := (dC, dI)) (ci := 12) (v := .int 1) (ty := .int) (C := RX12) (T := TX12) (N := 163) hx hb hts iwsPX12_clause_in12 tyX12 tyX12_ok nmX12 hown hK hP hD hS 0 rfl rfl 0 (by decide) (hts (.fieldLink RX12 348 "OptimaWorksModel" "thrown" "I") (by decide +kernel)) (fun _ h9 => h9) rfl (by decide +kernel) rfl rfl (Nat.le_of_ble_eq_true rfl) dX12_clause_76 (fun H locs hP hD hS => ?_)
                  have hP : va_P (dC, dI) vwCl [(h0, .inr (12, fM (mUp v 0 (.int 1)))), (b_wants, .inl (k_wants, 24, .inl r_wants)), (b_wantsNot, .inl (k_wantsNot, 24, .inl r_wantsNot)), (b_weights, .inl (k_weights, 24, .inl r_weights))] H := hP
                  have hD : va_D A [(h0, .inr (12, fM (mUp v 0 (.int 1)))), (b_wants, .inl (k_wants, 24, .inl r_wants)), (b_wantsNot, .inl (k_wantsNot, 24, .inl r_wantsNot)), (b_weights, .inl (k_weights, 24, .inl r_weights))] := hD
                  refine lv_aload_n hx hb dX12_clause_79 rfl (lv_at hl 1 rfl) ?_
                  refine va_get (D := (dC, dI)) (ci := 12) (v := .int 1) (C := RX12) (T := TX12) (N := 163) hx hb hts iwsPX12_clause_in12 hown hK hP 0 rfl rfl 0 (by decide) (hts (.fieldLink RX12 348 "OptimaWorksModel" "thrown" "I") (by decide +kernel)) (fun _ h9 => h9) rfl dX12_clause_80 ?_
                  refine lv_if_le (tgt := 88) hx hb dX12_clause_83 (by decide) (fun c9 => absurd c9 (by decide)) (fun _ => ?_)
                  refine lv_iconst (v := 0) hx hb dX12_clause_86 (by decide) ?_
                  refine W.widen (k := 0) (n := 0) (by decide +kernel) (by decide +kernel) ?_
                  exact W.iret (v := 0) hx hb hr (fun t ht hW => ⟨⟨0, (mUp v 0 (.int 1)), rfl, by first | (left; (refine ⟨?_, ?_, ?_⟩ <;> (first | rfl | assumption | trivial | omega | (simp [c_1, c_8, c_12, c_19, c_25, c_31, c_35, c_42]; done) | (simp; omega)))) | (right; (refine ⟨?_, ?_, ?_⟩ <;> (first | rfl | assumption | trivial | omega | (simp [c_1, c_8, c_12, c_19, c_25, c_31, c_35, c_42]; done) | (simp; omega)))), by rw [ht]; exact hP.sub [0] rfl, va_K.moved hW.alike (hK.sub [] rfl), hD.sub [0] (by decide) rfl⟩, hS.F ht⟩) hS.2.2 dX12_clause_87
                · have t_42 : ¬ (qw).toInt > 1000 := toI_ngt c_42 rfl (by decide)
                  refine lv_iconst (v := 1) hx hb dX12_clause_45 (by decide) ?_
                  refine lv_goto (tgt := 50) hx hb dX12_clause_46 (by decide) ?_
                  refine lv_istore (lv' := [(4, .int 1), (0, .ref h0), (1, .int qy), (2, .int qn), (3, .int qw)]) hx hb dX12_clause_50 hl (by decide) rfl (fun ls hl => ?_)
                  refine lv_aload_n hx hb dX12_clause_52 rfl (lv_at hl 1 rfl) ?_
                  refine lv_iload hx hb dX12_clause_53 (lv_at hl 0 rfl) ?_
                  refine lv_if_ne (tgt := 62) hx hb dX12_clause_55 (by decide) (fun _ => ?_) (fun c9 => absurd c9 (by decide))
                  refine lv_aload_n hx hb dX12_clause_62 rfl (lv_at hl 1 rfl) ?_
                  refine va_get (D := (dC, dI)) (ci := 12) (v := .int 0) (C := RX12) (T := TX12) (N := 163) hx hb hts iwsPX12_clause_in12 hown hK hP 0 rfl rfl 146 (by decide) (hts (.fieldLink RX12 1051 "OptimaWorksModel" "clauses" "I") (by decide +kernel)) (fun _ h9 => h9) (congrArg some h_clauses) dX12_clause_63 ?_
                  refine lv_bipush (v := 24) hx hb dX12_clause_66 (by decide) ?_
                  refine lv_icmp_ne (tgt := 75) hx hb dX12_clause_68 (by decide) (fun _ => ?_) (fun c9 => absurd c9 (by decide))
                  refine lv_iconst (v := 0) hx hb dX12_clause_75 (by decide) ?_
                  refine va_put (D := (dC, dI)) (ci := 12) (v := .int 0) (ty := .int) (C := RX12) (T := TX12) (N := 163) hx hb hts iwsPX12_clause_in12 tyX12 tyX12_ok nmX12 hown hK hP hD hS 0 rfl rfl 0 (by decide) (hts (.fieldLink RX12 348 "OptimaWorksModel" "thrown" "I") (by decide +kernel)) (fun _ h9 => h9) rfl (by decide +kernel) rfl rfl (Nat.le_of_ble_eq_true rfl) dX12_clause_76 (fun H locs hP hD hS => ?_)
                  have hP : va_P (dC, dI) vwCl [(h0, .inr (12, fM (mUp v 0 (.int 0)))), (b_wants, .inl (k_wants, 24, .inl r_wants)), (b_wantsNot, .inl (k_wantsNot, 24, .inl r_wantsNot)), (b_weights, .inl (k_weights, 24, .inl r_weights))] H := hP
                  have hD : va_D A [(h0, .inr (12, fM (mUp v 0 (.int 0)))), (b_wants, .inl (k_wants, 24, .inl r_wants)), (b_wantsNot, .inl (k_wantsNot, 24, .inl r_wantsNot)), (b_weights, .inl (k_weights, 24, .inl r_weights))] := hD
                  refine lv_aload_n hx hb dX12_clause_79 rfl (lv_at hl 1 rfl) ?_
                  refine va_get (D := (dC, dI)) (ci := 12) (v := .int 0) (C := RX12) (T := TX12) (N := 163) hx hb hts iwsPX12_clause_in12 hown hK hP 0 rfl rfl 0 (by decide) (hts (.fieldLink RX12 348 "OptimaWorksModel" "thrown" "I") (by decide +kernel)) (fun _ h9 => h9) rfl dX12_clause_80 ?_
                  refine lv_if_le (tgt := 88) hx hb dX12_clause_83 (by decide) (fun _ => ?_) (fun c9 => absurd (by decide) c9)
                  refine lv_aload_n hx hb dX12_clause_88 rfl (lv_at hl 1 rfl) ?_
                  refine va_get (D := (dC, dI)) (ci := 12) (v := .ref b_wants) (C := RX12) (T := TX12) (N := 163) hx hb hts iwsPX12_clause_in12 hown hK hP 0 rfl rfl 147 (by decide) (hts (.fieldLink RX12 303 "OptimaWorksModel" "wants" "[I") (by decide +kernel)) (fun _ h9 => h9) (congrArg some h_wants) dX12_clause_89 ?_
                  refine lv_aload_n hx hb dX12_clause_92 rfl (lv_at hl 1 rfl) ?_
                  refine va_get (D := (dC, dI)) (ci := 12) (v := .int 0) (C := RX12) (T := TX12) (N := 163) hx hb hts iwsPX12_clause_in12 hown hK hP 0 rfl rfl 146 (by decide) (hts (.fieldLink RX12 1051 "OptimaWorksModel" "clauses" "I") (by decide +kernel)) (fun _ h9 => h9) (congrArg some h_clauses) dX12_clause_93 ?_
                  refine lv_iload_n hx hb dX12_clause_96 rfl (lv_at hl 2 rfl) ?_
                  refine va_iast hx hb hK hP hD hS 1 0 rfl rfl (show ¬ ((0 : Int32) < 0 ∨ 24 ≤ (0 : Int32).toNatClampNeg) by decide) dX12_clause_97 (fun H locs hP hD hS => ?_)
                  have hP : va_P (dC, dI) vwCl [(h0, .inr (12, fM (mUp v 0 (.int 0)))), (b_wants, .inl (k_wants, 24, .inl (upd r_wants (0 : Int32).toNatClampNeg qy))), (b_wantsNot, .inl (k_wantsNot, 24, .inl r_wantsNot)), (b_weights, .inl (k_weights, 24, .inl r_weights))] H := hP
                  have hD : va_D A [(h0, .inr (12, fM (mUp v 0 (.int 0)))), (b_wants, .inl (k_wants, 24, .inl (upd r_wants (0 : Int32).toNatClampNeg qy))), (b_wantsNot, .inl (k_wantsNot, 24, .inl r_wantsNot)), (b_weights, .inl (k_weights, 24, .inl r_weights))] := hD
                  refine lv_aload_n hx hb dX12_clause_98 rfl (lv_at hl 1 rfl) ?_
                  refine va_get (D := (dC, dI)) (ci := 12) (v := .ref b_wantsNot) (C := RX12) (T := TX12) (N := 163) hx hb hts iwsPX12_clause_in12 hown hK hP 0 rfl rfl 148 (by decide) (hts (.fieldLink RX12 306 "OptimaWorksModel" "wantsNot" "[I") (by decide +kernel)) (fun _ h9 => h9) (congrArg some h_wantsNot) dX12_clause_99 ?_
                  refine lv_aload_n hx hb dX12_clause_102 rfl (lv_at hl 1 rfl) ?_
                  refine va_get (D := (dC, dI)) (ci := 12) (v := .int 0) (C := RX12) (T := TX12) (N := 163) hx hb hts iwsPX12_clause_in12 hown hK hP 0 rfl rfl 146 (by decide) (hts (.fieldLink RX12 1051 "OptimaWorksModel" "clauses" "I") (by decide +kernel)) (fun _ h9 => h9) (congrArg some h_clauses) dX12_clause_103 ?_
                  refine lv_iload_n hx hb dX12_clause_106 rfl (lv_at hl 3 rfl) ?_
                  refine va_iast hx hb hK hP hD hS 2 1 rfl rfl (show ¬ ((0 : Int32) < 0 ∨ 24 ≤ (0 : Int32).toNatClampNeg) by decide) dX12_clause_107 (fun H locs hP hD hS => ?_)
                  have hP : va_P (dC, dI) vwCl [(h0, .inr (12, fM (mUp v 0 (.int 0)))), (b_wants, .inl (k_wants, 24, .inl (upd r_wants (0 : Int32).toNatClampNeg qy))), (b_wantsNot, .inl (k_wantsNot, 24, .inl (upd r_wantsNot (0 : Int32).toNatClampNeg qn))), (b_weights, .inl (k_weights, 24, .inl r_weights))] H := hP
                  have hD : va_D A [(h0, .inr (12, fM (mUp v 0 (.int 0)))), (b_wants, .inl (k_wants, 24, .inl (upd r_wants (0 : Int32).toNatClampNeg qy))), (b_wantsNot, .inl (k_wantsNot, 24, .inl (upd r_wantsNot (0 : Int32).toNatClampNeg qn))), (b_weights, .inl (k_weights, 24, .inl r_weights))] := hD
                  refine lv_aload_n hx hb dX12_clause_108 rfl (lv_at hl 1 rfl) ?_
                  refine va_get (D := (dC, dI)) (ci := 12) (v := .ref b_weights) (C := RX12) (T := TX12) (N := 163) hx hb hts iwsPX12_clause_in12 hown hK hP 0 rfl rfl 149 (by decide) (hts (.fieldLink RX12 309 "OptimaWorksModel" "weights" "[I") (by decide +kernel)) (fun _ h9 => h9) (congrArg some h_weights) dX12_clause_109 ?_
                  refine lv_aload_n hx hb dX12_clause_112 rfl (lv_at hl 1 rfl) ?_
                  refine va_get (D := (dC, dI)) (ci := 12) (v := .int 0) (C := RX12) (T := TX12) (N := 163) hx hb hts iwsPX12_clause_in12 hown hK hP 0 rfl rfl 146 (by decide) (hts (.fieldLink RX12 1051 "OptimaWorksModel" "clauses" "I") (by decide +kernel)) (fun _ h9 => h9) (congrArg some h_clauses) dX12_clause_113 ?_
                  refine lv_iload_n hx hb dX12_clause_116 rfl (lv_at hl 4 rfl) ?_
                  refine va_iast hx hb hK hP hD hS 3 2 rfl rfl (show ¬ ((0 : Int32) < 0 ∨ 24 ≤ (0 : Int32).toNatClampNeg) by decide) dX12_clause_117 (fun H locs hP hD hS => ?_)
                  have hP : va_P (dC, dI) vwCl [(h0, .inr (12, fM (mUp v 0 (.int 0)))), (b_wants, .inl (k_wants, 24, .inl (upd r_wants (0 : Int32).toNatClampNeg qy))), (b_wantsNot, .inl (k_wantsNot, 24, .inl (upd r_wantsNot (0 : Int32).toNatClampNeg qn))), (b_weights, .inl (k_weights, 24, .inl (upd r_weights (0 : Int32).toNatClampNeg qw)))] H := hP
                  have hD : va_D A [(h0, .inr (12, fM (mUp v 0 (.int 0)))), (b_wants, .inl (k_wants, 24, .inl (upd r_wants (0 : Int32).toNatClampNeg qy))), (b_wantsNot, .inl (k_wantsNot, 24, .inl (upd r_wantsNot (0 : Int32).toNatClampNeg qn))), (b_weights, .inl (k_weights, 24, .inl (upd r_weights (0 : Int32).toNatClampNeg qw)))] := hD
                  refine lv_aload_n hx hb dX12_clause_118 rfl (lv_at hl 1 rfl) ?_
                  refine lv_dup hx hb dX12_clause_119 rfl ?_
                  refine va_get (D := (dC, dI)) (ci := 12) (v := .int 0) (C := RX12) (T := TX12) (N := 163) hx hb hts iwsPX12_clause_in12 hown hK hP 0 rfl rfl 146 (by decide) (hts (.fieldLink RX12 1051 "OptimaWorksModel" "clauses" "I") (by decide +kernel)) (fun _ h9 => h9) (congrArg some h_clauses) dX12_clause_120 ?_
                  refine lv_iconst (v := 1) hx hb dX12_clause_123 (by decide) ?_
                  refine lv_iadd hx hb dX12_clause_124 ?_
                  refine lv_topi (fun y1 hy1 => ?_)
                  obtain rfl : 1 = y1 := (hy1.trans (by decide)).symm
                  refine va_put (D := (dC, dI)) (ci := 12) (v := .int 1) (ty := .int) (C := RX12) (T := TX12) (N := 163) hx hb hts iwsPX12_clause_in12 tyX12 tyX12_ok nmX12 hown hK hP hD hS 0 rfl rfl 146 (by decide) (hts (.fieldLink RX12 1051 "OptimaWorksModel" "clauses" "I") (by decide +kernel)) (fun _ h9 => h9) rfl (by decide +kernel) rfl rfl (Nat.le_of_ble_eq_true rfl) dX12_clause_125 (fun H locs hP hD hS => ?_)
                  have hP : va_P (dC, dI) vwCl [(h0, .inr (12, fM (mUp (mUp v 0 (.int 0)) 146 (.int 1)))), (b_wants, .inl (k_wants, 24, .inl (upd r_wants (0 : Int32).toNatClampNeg qy))), (b_wantsNot, .inl (k_wantsNot, 24, .inl (upd r_wantsNot (0 : Int32).toNatClampNeg qn))), (b_weights, .inl (k_weights, 24, .inl (upd r_weights (0 : Int32).toNatClampNeg qw)))] H := hP
                  have hD : va_D A [(h0, .inr (12, fM (mUp (mUp v 0 (.int 0)) 146 (.int 1)))), (b_wants, .inl (k_wants, 24, .inl (upd r_wants (0 : Int32).toNatClampNeg qy))), (b_wantsNot, .inl (k_wantsNot, 24, .inl (upd r_wantsNot (0 : Int32).toNatClampNeg qn))), (b_weights, .inl (k_weights, 24, .inl (upd r_weights (0 : Int32).toNatClampNeg qw)))] := hD
                  refine lv_aload_n hx hb dX12_clause_128 rfl (lv_at hl 1 rfl) ?_
                  refine va_get (D := (dC, dI)) (ci := 12) (v := .int 1) (C := RX12) (T := TX12) (N := 163) hx hb hts iwsPX12_clause_in12 hown hK hP 0 rfl rfl 146 (by decide) (hts (.fieldLink RX12 1051 "OptimaWorksModel" "clauses" "I") (by decide +kernel)) (fun _ h9 => h9) rfl dX12_clause_129 ?_
                  refine lv_iconst (v := 1) hx hb dX12_clause_132 (by decide) ?_
                  refine lv_isub hx hb dX12_clause_133 ?_
                  refine lv_topi (fun y2 hy2 => ?_)
                  obtain rfl : 0 = y2 := (hy2.trans (by decide)).symm
                  refine W.widen (k := 0) (n := 0) (by decide +kernel) (by decide +kernel) ?_
                  exact W.iret (v := 0) hx hb hr (fun t ht hW => ⟨⟨0, (mUp (mUp v 0 (.int 0)) 146 (.int 1)), rfl, by first | (left; (refine ⟨?_, ?_, ?_⟩ <;> (first | rfl | assumption | trivial | omega | (simp [c_1, c_8, c_12, c_19, c_25, c_31, c_35, c_42]; done) | (simp; omega)))) | (right; (refine ⟨?_, ?_, ?_⟩ <;> (first | rfl | assumption | trivial | omega | (simp [c_1, c_8, c_12, c_19, c_25, c_31, c_35, c_42]; done) | (simp; omega)))), by rw [ht]; exact hP.sub [0] rfl, va_K.moved hW.alike (hK.sub [] rfl), hD.sub [0] (by decide) rfl⟩, hS.F ht⟩) hS.2.2 dX12_clause_134

theorem dX8_setLong_0 : decode cX8_setLong 0 = .ok (.aload_n 0, 1) := dk_42 (by decide +kernel)
theorem dX8_setLong_1 : decode cX8_setLong 1 = .ok (.lload_n 1, 1) := dk_31 (by decide +kernel)
theorem dX8_setLong_2 : decode cX8_setLong 2 = .ok (.lconst 0, 1) := dk_9 (by decide +kernel)
theorem dX8_setLong_3 : decode cX8_setLong 3 = .ok (.lcmp, 1) := dk_148 (by decide +kernel)
theorem dX8_setLong_4 : decode cX8_setLong 4 = .ok (.ifCond .ge 7, 3) := dk_156 (by decide +kernel)
theorem dX8_setLong_7 : decode cX8_setLong 7 = .ok (.iconst 1, 1) := dk_4 (by decide +kernel)
theorem dX8_setLong_8 : decode cX8_setLong 8 = .ok (.goto 4, 3) := dk_167 (by decide +kernel)
theorem dX8_setLong_11 : decode cX8_setLong 11 = .ok (.iconst 0, 1) := dk_3 (by decide +kernel)
theorem dX8_setLong_12 : decode cX8_setLong 12 = .ok (.putfield 13, 3) := dk_181 (by decide +kernel)
theorem dX8_setLong_15 : decode cX8_setLong 15 = .ok (.aload_n 0, 1) := dk_42 (by decide +kernel)
theorem dX8_setLong_16 : decode cX8_setLong 16 = .ok (.iconst 0, 1) := dk_3 (by decide +kernel)
theorem dX8_setLong_17 : decode cX8_setLong 17 = .ok (.putfield 17, 3) := dk_181 (by decide +kernel)
theorem dX8_setLong_20 : decode cX8_setLong 20 = .ok (.aload_n 0, 1) := dk_42 (by decide +kernel)
theorem dX8_setLong_21 : decode cX8_setLong 21 = .ok (.getfield 13, 3) := dk_180 (by decide +kernel)
theorem dX8_setLong_24 : decode cX8_setLong 24 = .ok (.ifCond .eq 8, 3) := dk_153 (by decide +kernel)
theorem dX8_setLong_27 : decode cX8_setLong 27 = .ok (.lload_n 1, 1) := dk_31 (by decide +kernel)
theorem dX8_setLong_28 : decode cX8_setLong 28 = .ok (.lneg, 1) := dk_117 (by decide +kernel)
theorem dX8_setLong_29 : decode cX8_setLong 29 = .ok (.goto 4, 3) := dk_167 (by decide +kernel)
theorem dX8_setLong_32 : decode cX8_setLong 32 = .ok (.lload_n 1, 1) := dk_31 (by decide +kernel)
theorem dX8_setLong_33 : decode cX8_setLong 33 = .ok (.lstore_n 3, 1) := dk_66 (by decide +kernel)
theorem dX8_setLong_34 : decode cX8_setLong 34 = .ok (.iconst 0, 1) := dk_3 (by decide +kernel)
theorem dX8_setLong_35 : decode cX8_setLong 35 = .ok (.istore 5, 2) := dk_54 (by decide +kernel)
theorem dX8_setLong_37 : decode cX8_setLong 37 = .ok (.iload 5, 2) := dk_21 (by decide +kernel)
theorem dX8_setLong_39 : decode cX8_setLong 39 = .ok (.iconst 3, 1) := dk_6 (by decide +kernel)
theorem dX8_setLong_40 : decode cX8_setLong 40 = .ok (.if_icmp .ge 40, 3) := dk_162 (by decide +kernel)
theorem dX8_setLong_43 : decode cX8_setLong 43 = .ok (.lload_n 3, 1) := dk_33 (by decide +kernel)
theorem dX8_setLong_44 : decode cX8_setLong 44 = .ok (.lconst 0, 1) := dk_9 (by decide +kernel)
theorem dX8_setLong_45 : decode cX8_setLong 45 = .ok (.lcmp, 1) := dk_148 (by decide +kernel)
theorem dX8_setLong_46 : decode cX8_setLong 46 = .ok (.ifCond .eq 34, 3) := dk_153 (by decide +kernel)
theorem dX8_setLong_49 : decode cX8_setLong 49 = .ok (.aload_n 0, 1) := dk_42 (by decide +kernel)
theorem dX8_setLong_50 : decode cX8_setLong 50 = .ok (.getfield 9, 3) := dk_180 (by decide +kernel)
theorem dX8_setLong_53 : decode cX8_setLong 53 = .ok (.iload 5, 2) := dk_21 (by decide +kernel)
theorem dX8_setLong_55 : decode cX8_setLong 55 = .ok (.lload_n 3, 1) := dk_33 (by decide +kernel)
theorem dX8_setLong_56 : decode cX8_setLong 56 = .ok (.ldc2_w 21, 3) := dk_20 (by decide +kernel)
theorem dX8_setLong_59 : decode cX8_setLong 59 = .ok (.land, 1) := dk_127 (by decide +kernel)
theorem dX8_setLong_60 : decode cX8_setLong 60 = .ok (.lastore, 1) := dk_80 (by decide +kernel)
theorem dX8_setLong_61 : decode cX8_setLong 61 = .ok (.lload_n 3, 1) := dk_33 (by decide +kernel)
theorem dX8_setLong_62 : decode cX8_setLong 62 = .ok (.bipush 30, 2) := dk_16 (by decide +kernel)
theorem dX8_setLong_64 : decode cX8_setLong 64 = .ok (.lushr, 1) := dk_125 (by decide +kernel)
theorem dX8_setLong_65 : decode cX8_setLong 65 = .ok (.lstore_n 3, 1) := dk_66 (by decide +kernel)
theorem dX8_setLong_66 : decode cX8_setLong 66 = .ok (.aload_n 0, 1) := dk_42 (by decide +kernel)
theorem dX8_setLong_67 : decode cX8_setLong 67 = .ok (.iload 5, 2) := dk_21 (by decide +kernel)
theorem dX8_setLong_69 : decode cX8_setLong 69 = .ok (.iconst 1, 1) := dk_4 (by decide +kernel)
theorem dX8_setLong_70 : decode cX8_setLong 70 = .ok (.iadd, 1) := dk_96 (by decide +kernel)
theorem dX8_setLong_71 : decode cX8_setLong 71 = .ok (.putfield 17, 3) := dk_181 (by decide +kernel)
theorem dX8_setLong_74 : decode cX8_setLong 74 = .ok (.iinc 5 1, 3) := dk_132 (by decide +kernel)
theorem dX8_setLong_77 : decode cX8_setLong 77 = .ok (.goto (-40), 3) := dk_167 (by decide +kernel)
theorem dX8_setLong_80 : decode cX8_setLong 80 = .ok (.return_, 1) := dk_177 (by decide +kernel)
def wsMX8_setLong : List Cond := .code yX8_setLong cX8_setLong 6 none :: ([.fieldLink RX8 13 "OptimaWorks$Whole" "below" "Z", .fieldLink RX8 17 "OptimaWorks$Whole" "length" "I", .fieldLink RX8 9 "OptimaWorks$Whole" "limb" "[J", .constantLong RX8 21 1073741823] ++ wsX80)
theorem iwsMX8_setLong_in8 : ∀ w ∈ wsX80, w ∈ wsMX8_setLong := fun _ h => List.mem_cons_of_mem _ (List.mem_append_right _ h)
theorem gdwsMX8_setLong : wsMX8_setLong.all goodWord = true := gdC rfl (gdA (by decide +kernel : ([.fieldLink RX8 13 "OptimaWorks$Whole" "below" "Z", .fieldLink RX8 17 "OptimaWorks$Whole" "length" "I", .fieldLink RX8 9 "OptimaWorks$Whole" "limb" "[J", .constantLong RX8 21 1073741823] : List Cond).all goodWord = true) gdwsX80)
set_option maxHeartbeats 4000000 in
set_option maxRecDepth 100000 in
/-- a long -/
theorem m_X8_setLong (l : Launch) (dC : Nat → ClassId) (dI : Nat → Nat → Nat) (nW : Nat) (hw : Nat → Nat) (lw : Nat → Nat) (kw : ClassId) (wl : Nat → Int32) (wb : Nat → Int32) (wG : Nat → Nat → Int64) (tt : Nat) (xv : Int64) (b_wl : ∀ q : Nat, 0 ≤ (wl q).toInt ∧ (wl q).toInt ≤ 14) (b_wb : ∀ q : Nat, 0 ≤ (wb q).toInt ∧ (wb q).toInt ≤ 1) (htt : tt < nW) (sz : Nat) : Met l yX8_setLong wsMX8_setLong ({ frames := 0, cells := 0, slots := 0, locals := 0 }) (va_Pc [.ref (hw tt), .long xv] (fun U => U.heap.size = sz ∧ va_P (dC, dI) vwCl (WW nW hw lw kw wl wb wG) U.heap ∧ va_K (dC, dI) vwCl (tW kw) U ∧ va_D (fun _ => True) (WW nW hw lw kw wl wb wG))) (va_Qv (fun (u : (Nat → Int32) × (Nat → Int32) × (Nat → Nat → Int64)) => (∀ q : Nat, 0 ≤ ((u.1) q).toInt ∧ ((u.1) q).toInt ≤ 14) ∧ (∀ q : Nat, 0 ≤ ((u.2.1) q).toInt ∧ ((u.2.1) q).toInt ≤ 1)) (fun (u : (Nat → Int32) × (Nat → Int32) × (Nat → Nat → Int64)) t => va_P (dC, dI) vwCl (WW nW hw lw kw (u.1) (u.2.1) (u.2.2)) t.heap ∧ va_D (va_A (WW nW hw lw kw wl wb wG) sz) (WW nW hw lw kw (u.1) (u.2.1) (u.2.2))) (va_A (WW nW hw lw kw wl wb wG) sz)) 0 0 (va_A (WW nW hw lw kw wl wb wG) sz) := by
  refine Met.ofW (cc := cX8_setLong) (maxL := 6) (ret := none) (by decide) rfl ?_
  intro p e s m args below meth c s₁ B hml hv
  obtain ⟨rfl, hsz, hP, hK, hD0⟩ := hv
  have hx := B.exec
  have hb := B.bytes
  have hr := B.returns
  have hts := atoms_spec (ws := wsMX8_setLong) B.pre
  have hown : s.vm.findClass RX8 = some m.cls := findClass_of_methodNamed B.named
  have hlocks := B.notSynchronized
  subst hsz
  have hD := hD0.self (sz := s.heap.size)
  generalize hAe : va_A (WW nW hw lw kw wl wb wG) s.heap.size = A at hD ⊢
  have hA : ∀ q : Nat, s.heap.size ≤ q → A q := fun q h => by rw [← hAe]; exact Or.inr h
  have hS : va_S A s.heap s.heap [] := va_S.rf
  have hl := lv_entry ([.ref (hw tt), .long xv]) (n := 6) (Nat.le_of_ble_eq_true rfl)
  rw [lg_entry_eq]
  generalize (lg_sl ([.ref (hw tt), .long xv]) ++ List.replicate (6 - (lg_sl ([.ref (hw tt), .long xv])).length) Slot.unset).toArray = ls at hl ⊢
  have hl : lv_has ls 6 [(0, .ref (hw tt)), (1, .long xv)] := hl
  refine lv_aload_n hx hb dX8_setLong_0 rfl (lv_at hl 0 rfl) ?_
  refine lv_lload_n hx hb dX8_setLong_1 rfl (lv_at hl 1 rfl) ?_
  refine lv_lconst (v := 0) hx hb dX8_setLong_2 (by decide) ?_
  refine W.lcmp hx hb dX8_setLong_3 ?_
  refine W.cut (pc := 12) (fun H locs ls stk => ∃ (k0_j5 : Int32), (0 ≤ k0_j5.toInt ∧ k0_j5.toInt ≤ 1) ∧  stk = [.int k0_j5, .ref (hw tt)] ∧ va_P (dC, dI) vwCl (WW nW hw lw kw wl wb wG) H ∧ va_D A (WW nW hw lw kw wl wb wG) ∧ va_S A s.heap H locs ∧ lv_has ls 6 [(0, .ref (hw tt)), (1, .long xv)]) (fun join5 => ?_) ?_
  · refine lv_if_ge (tgt := 11) hx hb dX8_setLong_4 (by decide) (fun c_4 => ?_) (fun c_4 => ?_)
    · have t_4 : xv.toInt ≥ 0 := toL_ge c_4 rfl (by decide : (0 : Int64).toInt = 0)
      refine lv_iconst (v := 0) hx hb dX8_setLong_11 (by decide) ?_
      have hl : lv_has _ _ ([(0, .ref (hw tt)), (1, .long xv)]) := lv_sub hl [0, 1] rfl
      exact join5 _ _ _ _ ⟨0, (show 0 ≤ (0 : Int32).toInt ∧ (0 : Int32).toInt ≤ 1 from by decide), rfl, hP, hD, hS, hl⟩
    · have t_4 : ¬ xv.toInt ≥ 0 := toL_nge c_4 rfl (by decide : (0 : Int64).toInt = 0)
      refine lv_iconst (v := 1) hx hb dX8_setLong_7 (by decide) ?_
      refine lv_goto (tgt := 12) hx hb dX8_setLong_8 (by decide) ?_
      have hl : lv_has _ _ ([(0, .ref (hw tt)), (1, .long xv)]) := lv_sub hl [0, 1] rfl
      exact join5 _ _ _ _ ⟨1, (show 0 ≤ (1 : Int32).toInt ∧ (1 : Int32).toInt ≤ 1 from by decide), rfl, hP, hD, hS, hl⟩
  · rintro H locs ls stk ⟨k0_j5, b_k0_j5, rfl, hP, hD, hS, hl⟩
    refine va_put (D := (dC, dI)) (ci := 8) (v := .int k0_j5) (ty := .boolean) (C := RX8) (T := TX8) (N := 3) hx hb hts iwsMX8_setLong_in8 tyX8 tyX8_ok nmX8 hown hK hP hD hS (tt) (WW_o (by omega)) rfl 2 (by decide) (hts (.fieldLink RX8 13 "OptimaWorks$Whole" "below" "Z") (by decide +kernel)) (fun _ h9 => h9) rfl (by decide +kernel) (by rcases z01 (x := k0_j5) (b_k0_j5) with h9 | h9 <;> rw [h9] <;> rfl) (by rcases z01 (x := k0_j5) (b_k0_j5) with h9 | h9 <;> rw [h9] <;> rfl) (Nat.le_of_ble_eq_true rfl) dX8_setLong_12 (fun H locs hP hD hS => ?_)
    obtain ⟨u1, hu1⟩ : ∃ f9, f9 = fT wb tt k0_j5 := ⟨_, rfl⟩
    have hP : va_P (dC, dI) vwCl (WW nW hw lw kw wl u1 wG) H := by rw [hu1]; exact Eq.mp (congrArg (fun z9 => va_P (dC, dI) vwCl z9 H) (WW_sb (by omega) k0_j5)) hP
    have hD : va_D A (WW nW hw lw kw wl u1 wG) := by rw [hu1]; exact Eq.mp (congrArg (fun z9 => va_D A z9) (WW_sb (by omega) k0_j5)) hD
    have b_u1 : ∀ q : Nat, 0 ≤ (u1 q).toInt ∧ (u1 q).toInt ≤ 1 := by rw [hu1]; exact fT_r b_wb (b_k0_j5)
    have q_u1 : (u1 tt).toInt = k0_j5.toInt := by rw [hu1, fT_eq]
    clear hu1
    refine lv_aload_n hx hb dX8_setLong_15 rfl (lv_at hl 0 rfl) ?_
    refine lv_iconst (v := 0) hx hb dX8_setLong_16 (by decide) ?_
    refine va_put (D := (dC, dI)) (ci := 8) (v := .int 0) (ty := .int) (C := RX8) (T := TX8) (N := 3) hx hb hts iwsMX8_setLong_in8 tyX8 tyX8_ok nmX8 hown hK hP hD hS (tt) (WW_o (by omega)) rfl 1 (by decide) (hts (.fieldLink RX8 17 "OptimaWorks$Whole" "length" "I") (by decide +kernel)) (fun _ h9 => h9) rfl (by decide +kernel) rfl rfl (Nat.le_of_ble_eq_true rfl) dX8_setLong_17 (fun H locs hP hD hS => ?_)
    obtain ⟨u2, hu2⟩ : ∃ f9, f9 = fT wl tt (0 : Int32) := ⟨_, rfl⟩
    have hP : va_P (dC, dI) vwCl (WW nW hw lw kw u2 u1 wG) H := by rw [hu2]; exact Eq.mp (congrArg (fun z9 => va_P (dC, dI) vwCl z9 H) (WW_sl (by omega) (0 : Int32))) hP
    have hD : va_D A (WW nW hw lw kw u2 u1 wG) := by rw [hu2]; exact Eq.mp (congrArg (fun z9 => va_D A z9) (WW_sl (by omega) (0 : Int32))) hD
    have b_u2 : ∀ q : Nat, 0 ≤ (u2 q).toInt ∧ (u2 q).toInt ≤ 14 := by rw [hu2]; exact fT_r b_wl (show 0 ≤ (0 : Int32).toInt ∧ (0 : Int32).toInt ≤ 14 from by decide)
    have q_u2 : (u2 tt).toInt = 0 := by rw [hu2, fT_eq]; exact (by decide : (0 : Int32).toInt = 0)
    clear hu2
    refine lv_aload_n hx hb dX8_setLong_20 rfl (lv_at hl 0 rfl) ?_
    refine va_get (D := (dC, dI)) (ci := 8) (v := .int (u1 tt)) (C := RX8) (T := TX8) (N := 3) hx hb hts iwsMX8_setLong_in8 hown hK hP (tt) (WW_o (by omega)) rfl 2 (by decide) (hts (.fieldLink RX8 13 "OptimaWorks$Whole" "below" "Z") (by decide +kernel)) (fun _ h9 => h9) rfl dX8_setLong_21 ?_
    have br21 := b_u1 tt
    refine W.cut (pc := 33) (fun H locs ls stk => ∃ (k0_j6 : Int64),  stk = [.long k0_j6] ∧ va_P (dC, dI) vwCl (WW nW hw lw kw u2 u1 wG) H ∧ va_D A (WW nW hw lw kw u2 u1 wG) ∧ va_S A s.heap H locs ∧ lv_has ls 6 [(0, .ref (hw tt)), (1, .long xv)]) (fun join6 => ?_) ?_
    · refine lv_if_eq (tgt := 32) hx hb dX8_setLong_24 (by decide) (fun c_24 => ?_) (fun c_24 => ?_)
      · have t_24 : (u1 tt).toInt = 0 := toI_eq c_24 rfl (by decide : (0 : Int32).toInt = 0)
        refine lv_lload_n hx hb dX8_setLong_32 rfl (lv_at hl 1 rfl) ?_
        have hl : lv_has _ _ ([(0, .ref (hw tt)), (1, .long xv)]) := lv_sub hl [0, 1] rfl
        exact join6 _ _ _ _ ⟨xv, rfl, hP, hD, hS, hl⟩
      · have t_24 : ¬ (u1 tt).toInt = 0 := toI_neq c_24 rfl (by decide : (0 : Int32).toInt = 0)
        refine lv_lload_n hx hb dX8_setLong_27 rfl (lv_at hl 1 rfl) ?_
        refine lv_lneg hx hb dX8_setLong_28 ?_
        refine lv_topl (fun v4 hv4 => ?_)
        clear hv4
        refine lv_goto (tgt := 33) hx hb dX8_setLong_29 (by decide) ?_
        have hl : lv_has _ _ ([(0, .ref (hw tt)), (1, .long xv)]) := lv_sub hl [0, 1] rfl
        exact join6 _ _ _ _ ⟨v4, rfl, hP, hD, hS, hl⟩
    · rintro H locs ls stk ⟨k0_j6, rfl, hP, hD, hS, hl⟩
      refine lv_lstore_n hx hb dX8_setLong_33 rfl hl (by decide) rfl (fun ls (hl : lv_has ls _ ([(3, .long k0_j6), (0, .ref (hw tt)), (1, .long xv)])) => ?_)
      refine lv_iconst (v := 0) hx hb dX8_setLong_34 (by decide) ?_
      refine lv_istore hx hb dX8_setLong_35 hl (by decide) rfl (fun ls (hl : lv_has ls _ ([(5, .int 0), (3, .long k0_j6), (0, .ref (hw tt)), (1, .long xv)])) => ?_)
      have hl : lv_has _ _ ([(5, .int 0), (3, .long k0_j6), (0, .ref (hw tt)), (1, .long xv)]) := lv_sub hl [0, 1, 2, 3] rfl
      refine (fun (loop : ∀ (n9 : Nat) (wl_x37 : Nat → Int32) (wG_x37 : Nat → Nat → Int64) (l5_x37 : Int32) (l3_x37 : Int64) (H : Heap) (locs : List Loc) (ls : Array Slot), (∀ q : Nat, 0 ≤ (wl_x37 q).toInt ∧ (wl_x37 q).toInt ≤ 14) → (0 ≤ l5_x37.toInt ∧ l5_x37.toInt ≤ 3) → (3 - l5_x37.toInt < ((n9 : Nat) : Int)) → va_P (dC, dI) vwCl (WW nW hw lw kw wl_x37 u1 wG_x37) H → va_D A (WW nW hw lw kw wl_x37 u1 wG_x37) → va_S A s.heap H locs → lv_has ls 6 [(5, .int l5_x37), (3, .long l3_x37), (0, .ref (hw tt)), (1, .long xv)] → W p l e _ s m _ below meth c H locs 0 0 _ (F0 m 37 ls [])) => loop (4) u2 wG 0 k0_j6 _ _ _ b_u2 (show 0 ≤ (0 : Int32).toInt ∧ (0 : Int32).toInt ≤ 3 from by decide) ((by have e9 : (0 : Int32).toInt = 0 := (by decide : (0 : Int32).toInt = 0); omega)) hP hD hS hl) ?_
      intro n9
      induction n9 with
      | zero => intro wl_x37 wG_x37 l5_x37 l3_x37 H locs ls b_wl_x37 b_l5_x37 hf9; exact False.elim (by omega)
      | succ n9 ihx37 =>
        intro wl_x37 wG_x37 l5_x37 l3_x37 H locs ls b_wl_x37 b_l5_x37 hfx37 hP hD hS hl
        refine lv_iload hx hb dX8_setLong_37 (lv_at hl 0 rfl) ?_
        refine lv_iconst (v := 3) hx hb dX8_setLong_39 (by decide) ?_
        refine W.cut (pc := 80) (fun H locs ls stk =>  stk = [] ∧ va_P (dC, dI) vwCl (WW nW hw lw kw wl_x37 u1 wG_x37) H ∧ va_D A (WW nW hw lw kw wl_x37 u1 wG_x37) ∧ va_S A s.heap H locs ∧ lv_has ls 6 [(5, .int l5_x37), (3, .long l3_x37), (0, .ref (hw tt)), (1, .long xv)]) (fun join8 => ?_) ?_
        · refine lv_icmp_ge (tgt := 80) hx hb dX8_setLong_40 (by decide) (fun c_40 => ?_) (fun c_40 => ?_)
          · have t_40 : l5_x37.toInt ≥ 3 := toI_ge c_40 rfl (by decide : (3 : Int32).toInt = 3)
            have hl : lv_has _ _ ([(5, .int l5_x37), (3, .long l3_x37), (0, .ref (hw tt)), (1, .long xv)]) := lv_sub hl [0, 1, 2, 3] rfl
            exact join8 _ _ _ _ ⟨rfl, hP, hD, hS, hl⟩
          · have t_40 : ¬ l5_x37.toInt ≥ 3 := toI_nge c_40 rfl (by decide : (3 : Int32).toInt = 3)
            refine lv_lload_n hx hb dX8_setLong_43 rfl (lv_at hl 1 rfl) ?_
            refine lv_lconst (v := 0) hx hb dX8_setLong_44 (by decide) ?_
            refine W.lcmp hx hb dX8_setLong_45 ?_
            refine lv_if_eq (tgt := 80) hx hb dX8_setLong_46 (by decide) (fun c_46 => ?_) (fun c_46 => ?_)
            · have t_46 : l3_x37.toInt = 0 := toL_eq c_46 rfl (by decide : (0 : Int64).toInt = 0)
              have hl : lv_has _ _ ([(5, .int l5_x37), (3, .long l3_x37), (0, .ref (hw tt)), (1, .long xv)]) := lv_sub hl [0, 1, 2, 3] rfl
              exact join8 _ _ _ _ ⟨rfl, hP, hD, hS, hl⟩
            · have t_46 : ¬ l3_x37.toInt = 0 := toL_neq c_46 rfl (by decide : (0 : Int64).toInt = 0)
              refine lv_aload_n hx hb dX8_setLong_49 rfl (lv_at hl 2 rfl) ?_
              refine va_get (D := (dC, dI)) (ci := 8) (v := .ref (lw tt)) (C := RX8) (T := TX8) (N := 3) hx hb hts iwsMX8_setLong_in8 hown hK hP (tt) (WW_o (by omega)) rfl 0 (by decide) (hts (.fieldLink RX8 9 "OptimaWorks$Whole" "limb" "[J") (by decide +kernel)) (fun _ h9 => h9) rfl dX8_setLong_50 ?_
              refine lv_iload hx hb dX8_setLong_53 (lv_at hl 0 rfl) ?_
              refine lv_lload_n hx hb dX8_setLong_55 rfl (lv_at hl 1 rfl) ?_
              refine lv_ldc2 (v := 1073741823) hx hb hown (hts (.constantLong RX8 21 1073741823) (by decide +kernel)) dX8_setLong_56 ?_
              refine lv_land hx hb dX8_setLong_59 ?_
              refine lv_topl (fun v30 hv30 => ?_)
              clear hv30
              refine va_last (cA := kw) (n := 14) (f := (wG_x37 tt)) hx hb hK hP hD hS (nW + tt) 0 (WW_a (by omega)) rfl (vp_in_iff.mpr ⟨b_l5_x37.1, (Int.lt_of_le_of_lt (b_l5_x37.2) (by decide))⟩) dX8_setLong_60 (fun H locs hP hD hS => ?_)
              obtain ⟨u31, hu31⟩ : ∃ f9, f9 = fT wG_x37 tt (vp_updL (wG_x37 tt) (l5_x37).toNatClampNeg v30) := ⟨_, rfl⟩
              have hP : va_P (dC, dI) vwCl (WW nW hw lw kw wl_x37 u1 u31) H := by rw [hu31]; exact Eq.mp (congrArg (fun z9 => va_P (dC, dI) vwCl z9 H) (WW_sg (by omega) (vp_updL (wG_x37 tt) (l5_x37).toNatClampNeg v30))) hP
              have hD : va_D A (WW nW hw lw kw wl_x37 u1 u31) := by rw [hu31]; exact Eq.mp (congrArg (fun z9 => va_D A z9) (WW_sg (by omega) (vp_updL (wG_x37 tt) (l5_x37).toNatClampNeg v30))) hD
              clear hu31
              refine lv_lload_n hx hb dX8_setLong_61 rfl (lv_at hl 1 rfl) ?_
              refine lv_bipush (v := 30) hx hb dX8_setLong_62 (by decide) ?_
              refine lv_lushr hx hb dX8_setLong_64 rfl ?_
              refine lv_topl (fun v32 hv32 => ?_)
              clear hv32
              refine lv_lstore_n hx hb dX8_setLong_65 rfl hl (by decide) rfl (fun ls (hl : lv_has ls _ ([(3, .long v32), (5, .int l5_x37), (0, .ref (hw tt)), (1, .long xv)])) => ?_)
              refine lv_aload_n hx hb dX8_setLong_66 rfl (lv_at hl 2 rfl) ?_
              refine lv_iload hx hb dX8_setLong_67 (lv_at hl 1 rfl) ?_
              refine lv_iconst (v := 1) hx hb dX8_setLong_69 (by decide) ?_
              refine lv_iadd hx hb dX8_setLong_70 ?_
              refine lv_topi (fun y33 hy33 => ?_)
              obtain rfl : (iI (l5_x37.toInt + 1)) = y33 := (hy33.trans (iI_add2 (iI_of _) (by decide : (1 : Int32) = iI 1))).symm
              refine va_put (D := (dC, dI)) (ci := 8) (v := .int (iI (l5_x37.toInt + 1))) (ty := .int) (C := RX8) (T := TX8) (N := 3) hx hb hts iwsMX8_setLong_in8 tyX8 tyX8_ok nmX8 hown hK hP hD hS (tt) (WW_o (by omega)) rfl 1 (by decide) (hts (.fieldLink RX8 17 "OptimaWorks$Whole" "length" "I") (by decide +kernel)) (fun _ h9 => h9) rfl (by decide +kernel) rfl rfl (Nat.le_of_ble_eq_true rfl) dX8_setLong_71 (fun H locs hP hD hS => ?_)
              obtain ⟨u34, hu34⟩ : ∃ f9, f9 = fT wl_x37 tt (iI (l5_x37.toInt + 1)) := ⟨_, rfl⟩
              have hP : va_P (dC, dI) vwCl (WW nW hw lw kw u34 u1 u31) H := by rw [hu34]; exact Eq.mp (congrArg (fun z9 => va_P (dC, dI) vwCl z9 H) (WW_sl (by omega) (iI (l5_x37.toInt + 1)))) hP
              have hD : va_D A (WW nW hw lw kw u34 u1 u31) := by rw [hu34]; exact Eq.mp (congrArg (fun z9 => va_D A z9) (WW_sl (by omega) (iI (l5_x37.toInt + 1)))) hD
              have b_u34 : ∀ q : Nat, 0 ≤ (u34 q).toInt ∧ (u34 q).toInt ≤ 14 := by rw [hu34]; exact fT_r b_wl_x37 (iI_rng (Int.le_trans (by decide) (Int.add_le_add (b_l5_x37.1) (Int.le_refl _))) (Int.le_trans (Int.add_le_add (b_l5_x37.2) (Int.le_refl _)) (by decide)) (by decide) (by decide))
              have q_u34 : (u34 tt).toInt = (l5_x37.toInt + 1) := by rw [hu34, fT_eq]; exact (iI_t (Int.le_trans (by decide) (Int.add_le_add (b_l5_x37.1) (Int.le_refl _))) (Int.le_trans (Int.add_le_add (b_l5_x37.2) (Int.le_refl _)) (by decide)))
              clear hu34
              refine lv_iinc (v := (iI (l5_x37.toInt + 1))) hx hb dX8_setLong_74 hl (k := 1) rfl (iI_add2 (iI_of _) (by decide : (1 : Int32) = iI 1)) (by decide) rfl (fun ls (hl : lv_has ls _ ([(5, .int (iI (l5_x37.toInt + 1))), (3, .long v32), (0, .ref (hw tt)), (1, .long xv)])) => ?_)
              refine lv_goto (tgt := 37) hx hb dX8_setLong_77 (by decide) ?_
              have hl : lv_has _ _ ([(5, .int (iI (l5_x37.toInt + 1))), (3, .long v32), (0, .ref (hw tt)), (1, .long xv)]) := lv_sub hl [0, 1, 2, 3] rfl
              exact ihx37 u34 u31 (iI (l5_x37.toInt + 1)) v32 _ _ _ b_u34 (iI_rng (Int.le_trans (by decide) (Int.add_le_add (b_l5_x37.1) (Int.le_refl _))) (by omega) (by decide) (by decide)) (by have e9 : ((iI (l5_x37.toInt + 1))).toInt = (l5_x37.toInt + 1) := (iI_t (Int.le_trans (by decide) (Int.add_le_add (b_l5_x37.1) (Int.le_refl _))) (Int.le_trans (Int.add_le_add (b_l5_x37.2) (Int.le_refl _)) (by decide))); omega) hP hD hS hl
        · rintro H locs ls stk ⟨rfl, hP, hD, hS, hl⟩
          refine W.widen (k := 0) (n := 0) (by decide +kernel) (by decide +kernel) ?_
          exact W.vret hx hb hr (fun t9_ ht hW => ⟨⟨(wl_x37, u1, wG_x37), rfl, ⟨b_wl_x37, b_u1⟩, by rw [ht]; exact hP, hD⟩, hS.F ht⟩) hS.2.2 dX8_setLong_80
theorem dX8_copy_0 : decode cX8_copy 0 = .ok (.aload_n 1, 1) := dk_43 (by decide +kernel)
theorem dX8_copy_1 : decode cX8_copy 1 = .ok (.getfield 9, 3) := dk_180 (by decide +kernel)
theorem dX8_copy_4 : decode cX8_copy 4 = .ok (.iconst 0, 1) := dk_3 (by decide +kernel)
theorem dX8_copy_5 : decode cX8_copy 5 = .ok (.aload_n 0, 1) := dk_42 (by decide +kernel)
theorem dX8_copy_6 : decode cX8_copy 6 = .ok (.getfield 9, 3) := dk_180 (by decide +kernel)
theorem dX8_copy_9 : decode cX8_copy 9 = .ok (.iconst 0, 1) := dk_3 (by decide +kernel)
theorem dX8_copy_10 : decode cX8_copy 10 = .ok (.aload_n 1, 1) := dk_43 (by decide +kernel)
theorem dX8_copy_11 : decode cX8_copy 11 = .ok (.getfield 17, 3) := dk_180 (by decide +kernel)
theorem dX8_copy_14 : decode cX8_copy 14 = .ok (.invokestatic 23, 3) := dk_184 (by decide +kernel)
theorem dX8_copy_17 : decode cX8_copy 17 = .ok (.aload_n 0, 1) := dk_42 (by decide +kernel)
theorem dX8_copy_18 : decode cX8_copy 18 = .ok (.aload_n 1, 1) := dk_43 (by decide +kernel)
theorem dX8_copy_19 : decode cX8_copy 19 = .ok (.getfield 17, 3) := dk_180 (by decide +kernel)
theorem dX8_copy_22 : decode cX8_copy 22 = .ok (.putfield 17, 3) := dk_181 (by decide +kernel)
theorem dX8_copy_25 : decode cX8_copy 25 = .ok (.aload_n 0, 1) := dk_42 (by decide +kernel)
theorem dX8_copy_26 : decode cX8_copy 26 = .ok (.aload_n 1, 1) := dk_43 (by decide +kernel)
theorem dX8_copy_27 : decode cX8_copy 27 = .ok (.getfield 13, 3) := dk_180 (by decide +kernel)
theorem dX8_copy_30 : decode cX8_copy 30 = .ok (.putfield 13, 3) := dk_181 (by decide +kernel)
theorem dX8_copy_33 : decode cX8_copy 33 = .ok (.return_, 1) := dk_177 (by decide +kernel)
def wsMX8_copy : List Cond := .code yX8_copy cX8_copy 2 none :: ([.fieldLink RX8 9 "OptimaWorks$Whole" "limb" "[J", .fieldLink RX8 17 "OptimaWorks$Whole" "length" "I", .methodLink RX8 23 arraycopyName, .native arraycopyName, .static arraycopyName, .initialized "java/lang/System", .fieldLink RX8 13 "OptimaWorks$Whole" "below" "Z"] ++ wsX80)
theorem iwsMX8_copy_in8 : ∀ w ∈ wsX80, w ∈ wsMX8_copy := fun _ h => List.mem_cons_of_mem _ (List.mem_append_right _ h)
theorem gdwsMX8_copy : wsMX8_copy.all goodWord = true := gdC rfl (gdA (by decide +kernel : ([.fieldLink RX8 9 "OptimaWorks$Whole" "limb" "[J", .fieldLink RX8 17 "OptimaWorks$Whole" "length" "I", .methodLink RX8 23 arraycopyName, .native arraycopyName, .static arraycopyName, .initialized "java/lang/System", .fieldLink RX8 13 "OptimaWorks$Whole" "below" "Z"] : List Cond).all goodWord = true) gdwsX80)
set_option maxHeartbeats 4000000 in
set_option maxRecDepth 100000 in
/-- a copy -/
theorem m_X8_copy (l : Launch) (dC : Nat → ClassId) (dI : Nat → Nat → Nat) (nW : Nat) (hw : Nat → Nat) (lw : Nat → Nat) (kw : ClassId) (wl : Nat → Int32) (wb : Nat → Int32) (wG : Nat → Nat → Int64) (tt : Nat) (ta : Nat) (b_wl : ∀ q : Nat, 0 ≤ (wl q).toInt ∧ (wl q).toInt ≤ 14) (b_wb : ∀ q : Nat, 0 ≤ (wb q).toInt ∧ (wb q).toInt ≤ 1) (htt : tt < nW) (hta : ta < nW) (sz : Nat) : Met l yX8_copy wsMX8_copy ({ frames := 1, cells := 0, slots := 0, locals := 18 }) (va_Pc [.ref (hw tt), .ref (hw ta)] (fun U => U.heap.size = sz ∧ va_P (dC, dI) vwCl (WW nW hw lw kw wl wb wG) U.heap ∧ va_K (dC, dI) vwCl (tW kw) U ∧ va_D (fun _ => True) (WW nW hw lw kw wl wb wG))) (va_Qv (fun (u : (Nat → Int32) × (Nat → Int32) × (Nat → Nat → Int64)) => (∀ q : Nat, 0 ≤ ((u.1) q).toInt ∧ ((u.1) q).toInt ≤ 14) ∧ (∀ q : Nat, 0 ≤ ((u.2.1) q).toInt ∧ ((u.2.1) q).toInt ≤ 1)) (fun (u : (Nat → Int32) × (Nat → Int32) × (Nat → Nat → Int64)) t => va_P (dC, dI) vwCl (WW nW hw lw kw (u.1) (u.2.1) (u.2.2)) t.heap ∧ va_D (va_A (WW nW hw lw kw wl wb wG) sz) (WW nW hw lw kw (u.1) (u.2.1) (u.2.2))) (va_A (WW nW hw lw kw wl wb wG) sz)) 0 0 (va_A (WW nW hw lw kw wl wb wG) sz) := by
  refine Met.ofW (cc := cX8_copy) (maxL := 2) (ret := none) (by decide) rfl ?_
  intro p e s m args below meth c s₁ B hml hv
  obtain ⟨rfl, hsz, hP, hK, hD0⟩ := hv
  have hx := B.exec
  have hb := B.bytes
  have hr := B.returns
  have hts := atoms_spec (ws := wsMX8_copy) B.pre
  have hown : s.vm.findClass RX8 = some m.cls := findClass_of_methodNamed B.named
  have hlocks := B.notSynchronized
  subst hsz
  have hD := hD0.self (sz := s.heap.size)
  generalize hAe : va_A (WW nW hw lw kw wl wb wG) s.heap.size = A at hD ⊢
  have hA : ∀ q : Nat, s.heap.size ≤ q → A q := fun q h => by rw [← hAe]; exact Or.inr h
  have hS : va_S A s.heap s.heap [] := va_S.rf
  have hl := lv_entry ([.ref (hw tt), .ref (hw ta)]) (n := 2) (Nat.le_of_ble_eq_true rfl)
  rw [lg_entry_eq]
  generalize (lg_sl ([.ref (hw tt), .ref (hw ta)]) ++ List.replicate (2 - (lg_sl ([.ref (hw tt), .ref (hw ta)])).length) Slot.unset).toArray = ls at hl ⊢
  have hl : lv_has ls 2 [(0, .ref (hw tt)), (1, .ref (hw ta))] := hl
  refine lv_aload_n hx hb dX8_copy_0 rfl (lv_at hl 1 rfl) ?_
  refine va_get (D := (dC, dI)) (ci := 8) (v := .ref (lw ta)) (C := RX8) (T := TX8) (N := 3) hx hb hts iwsMX8_copy_in8 hown hK hP (ta) (WW_o (by omega)) rfl 0 (by decide) (hts (.fieldLink RX8 9 "OptimaWorks$Whole" "limb" "[J") (by decide +kernel)) (fun _ h9 => h9) rfl dX8_copy_1 ?_
  refine lv_iconst (v := 0) hx hb dX8_copy_4 (by decide) ?_
  refine lv_aload_n hx hb dX8_copy_5 rfl (lv_at hl 0 rfl) ?_
  refine va_get (D := (dC, dI)) (ci := 8) (v := .ref (lw tt)) (C := RX8) (T := TX8) (N := 3) hx hb hts iwsMX8_copy_in8 hown hK hP (tt) (WW_o (by omega)) rfl 0 (by decide) (hts (.fieldLink RX8 9 "OptimaWorks$Whole" "limb" "[J") (by decide +kernel)) (fun _ h9 => h9) rfl dX8_copy_6 ?_
  refine lv_iconst (v := 0) hx hb dX8_copy_9 (by decide) ?_
  refine lv_aload_n hx hb dX8_copy_10 rfl (lv_at hl 1 rfl) ?_
  refine va_get (D := (dC, dI)) (ci := 8) (v := .int (wl ta)) (C := RX8) (T := TX8) (N := 3) hx hb hts iwsMX8_copy_in8 hown hK hP (ta) (WW_o (by omega)) rfl 1 (by decide) (hts (.fieldLink RX8 17 "OptimaWorks$Whole" "length" "I") (by decide +kernel)) (fun _ h9 => h9) rfl dX8_copy_11 ?_
  have br11 := b_wl ta
  refine va_copyl hx hb (by rw [hml]; exact hl.1.symm) hown (hts (.methodLink RX8 23 arraycopyName) (by decide +kernel)) (hts (.native arraycopyName) (by decide +kernel)) (hts (.static arraycopyName) (by decide +kernel)) (hts (.initialized "java/lang/System") (by decide +kernel)) hK hP hD hS (nW + ta) (nW + tt) 0 0 (WW_a (by omega)) (WW_a (by omega)) rfl rfl rfl (by decide) (by decide) (nn_i rfl (by omega)) (cp_fit (by decide : (0 : Int32).toInt = 0) rfl (by omega) (by omega) (by omega)) (cp_fit (by decide : (0 : Int32).toInt = 0) rfl (by omega) (by omega) (by omega)) (fun i9 h9 => rfl) (by decide +kernel) (Nat.le_of_ble_eq_true rfl) dX8_copy_14 (fun H locs hP hD hS => ?_)
  obtain ⟨u1, hu1⟩ : ∃ f9, f9 = fT wG tt (va_cpy (wG ta) (wG tt) (0 : Int32).toNatClampNeg (0 : Int32).toNatClampNeg ((wl ta)).toNatClampNeg) := ⟨_, rfl⟩
  have hP : va_P (dC, dI) vwCl (WW nW hw lw kw wl wb u1) H := by rw [hu1]; exact Eq.mp (congrArg (fun z9 => va_P (dC, dI) vwCl z9 H) (WW_sg (by omega) (va_cpy (wG ta) (wG tt) (0 : Int32).toNatClampNeg (0 : Int32).toNatClampNeg ((wl ta)).toNatClampNeg))) hP
  have hD : va_D A (WW nW hw lw kw wl wb u1) := by rw [hu1]; exact Eq.mp (congrArg (fun z9 => va_D A z9) (WW_sg (by omega) (va_cpy (wG ta) (wG tt) (0 : Int32).toNatClampNeg (0 : Int32).toNatClampNeg ((wl ta)).toNatClampNeg))) hD
  clear hu1
  refine lv_aload_n hx hb dX8_copy_17 rfl (lv_at hl 0 rfl) ?_
  refine lv_aload_n hx hb dX8_copy_18 rfl (lv_at hl 1 rfl) ?_
  refine va_get (D := (dC, dI)) (ci := 8) (v := .int (wl ta)) (C := RX8) (T := TX8) (N := 3) hx hb hts iwsMX8_copy_in8 hown hK hP (ta) (WW_o (by omega)) rfl 1 (by decide) (hts (.fieldLink RX8 17 "OptimaWorks$Whole" "length" "I") (by decide +kernel)) (fun _ h9 => h9) rfl dX8_copy_19 ?_
  have br19 := b_wl ta
  refine va_put (D := (dC, dI)) (ci := 8) (v := .int (wl ta)) (ty := .int) (C := RX8) (T := TX8) (N := 3) hx hb hts iwsMX8_copy_in8 tyX8 tyX8_ok nmX8 hown hK hP hD hS (tt) (WW_o (by omega)) rfl 1 (by decide) (hts (.fieldLink RX8 17 "OptimaWorks$Whole" "length" "I") (by decide +kernel)) (fun _ h9 => h9) rfl (by decide +kernel) rfl rfl (Nat.le_of_ble_eq_true rfl) dX8_copy_22 (fun H locs hP hD hS => ?_)
  obtain ⟨u2, hu2⟩ : ∃ f9, f9 = fT wl tt (wl ta) := ⟨_, rfl⟩
  have hP : va_P (dC, dI) vwCl (WW nW hw lw kw u2 wb u1) H := by rw [hu2]; exact Eq.mp (congrArg (fun z9 => va_P (dC, dI) vwCl z9 H) (WW_sl (by omega) (wl ta))) hP
  have hD : va_D A (WW nW hw lw kw u2 wb u1) := by rw [hu2]; exact Eq.mp (congrArg (fun z9 => va_D A z9) (WW_sl (by omega) (wl ta))) hD
  have b_u2 : ∀ q : Nat, 0 ≤ (u2 q).toInt ∧ (u2 q).toInt ≤ 14 := by rw [hu2]; exact fT_r b_wl (by first | assumption | exact ⟨by omega, by omega⟩)
  have q_u2 : (u2 tt).toInt = (wl ta).toInt := by rw [hu2, fT_eq]
  clear hu2
  refine lv_aload_n hx hb dX8_copy_25 rfl (lv_at hl 0 rfl) ?_
  refine lv_aload_n hx hb dX8_copy_26 rfl (lv_at hl 1 rfl) ?_
  refine va_get (D := (dC, dI)) (ci := 8) (v := .int (wb ta)) (C := RX8) (T := TX8) (N := 3) hx hb hts iwsMX8_copy_in8 hown hK hP (ta) (WW_o (by omega)) rfl 2 (by decide) (hts (.fieldLink RX8 13 "OptimaWorks$Whole" "below" "Z") (by decide +kernel)) (fun _ h9 => h9) rfl dX8_copy_27 ?_
  have br27 := b_wb ta
  refine va_put (D := (dC, dI)) (ci := 8) (v := .int (wb ta)) (ty := .boolean) (C := RX8) (T := TX8) (N := 3) hx hb hts iwsMX8_copy_in8 tyX8 tyX8_ok nmX8 hown hK hP hD hS (tt) (WW_o (by omega)) rfl 2 (by decide) (hts (.fieldLink RX8 13 "OptimaWorks$Whole" "below" "Z") (by decide +kernel)) (fun _ h9 => h9) rfl (by decide +kernel) (by rcases z01 (x := (wb ta)) (by first | assumption | exact ⟨by omega, by omega⟩) with h9 | h9 <;> rw [h9] <;> rfl) (by rcases z01 (x := (wb ta)) (by first | assumption | exact ⟨by omega, by omega⟩) with h9 | h9 <;> rw [h9] <;> rfl) (Nat.le_of_ble_eq_true rfl) dX8_copy_30 (fun H locs hP hD hS => ?_)
  obtain ⟨u3, hu3⟩ : ∃ f9, f9 = fT wb tt (wb ta) := ⟨_, rfl⟩
  have hP : va_P (dC, dI) vwCl (WW nW hw lw kw u2 u3 u1) H := by rw [hu3]; exact Eq.mp (congrArg (fun z9 => va_P (dC, dI) vwCl z9 H) (WW_sb (by omega) (wb ta))) hP
  have hD : va_D A (WW nW hw lw kw u2 u3 u1) := by rw [hu3]; exact Eq.mp (congrArg (fun z9 => va_D A z9) (WW_sb (by omega) (wb ta))) hD
  have b_u3 : ∀ q : Nat, 0 ≤ (u3 q).toInt ∧ (u3 q).toInt ≤ 1 := by rw [hu3]; exact fT_r b_wb (by first | assumption | exact ⟨by omega, by omega⟩)
  have q_u3 : (u3 tt).toInt = (wb ta).toInt := by rw [hu3, fT_eq]
  clear hu3
  refine W.widen (k := 0) (n := 0) (by decide +kernel) (by decide +kernel) ?_
  exact W.vret hx hb hr (fun t9_ ht hW => ⟨⟨(u2, u3, u1), rfl, ⟨b_u2, b_u3⟩, by rw [ht]; exact hP, hD⟩, hS.F ht⟩) hS.2.2 dX8_copy_33
theorem dX8_sign_0 : decode cX8_sign 0 = .ok (.aload_n 0, 1) := dk_42 (by decide +kernel)
theorem dX8_sign_1 : decode cX8_sign 1 = .ok (.getfield 17, 3) := dk_180 (by decide +kernel)
theorem dX8_sign_4 : decode cX8_sign 4 = .ok (.ifCond .ne 7, 3) := dk_154 (by decide +kernel)
theorem dX8_sign_7 : decode cX8_sign 7 = .ok (.iconst 0, 1) := dk_3 (by decide +kernel)
theorem dX8_sign_8 : decode cX8_sign 8 = .ok (.goto 15, 3) := dk_167 (by decide +kernel)
theorem dX8_sign_11 : decode cX8_sign 11 = .ok (.aload_n 0, 1) := dk_42 (by decide +kernel)
theorem dX8_sign_12 : decode cX8_sign 12 = .ok (.getfield 13, 3) := dk_180 (by decide +kernel)
theorem dX8_sign_15 : decode cX8_sign 15 = .ok (.ifCond .eq 7, 3) := dk_153 (by decide +kernel)
theorem dX8_sign_18 : decode cX8_sign 18 = .ok (.iconst (-1), 1) := dk_2 (by decide +kernel)
theorem dX8_sign_19 : decode cX8_sign 19 = .ok (.goto 4, 3) := dk_167 (by decide +kernel)
theorem dX8_sign_22 : decode cX8_sign 22 = .ok (.iconst 1, 1) := dk_4 (by decide +kernel)
theorem dX8_sign_23 : decode cX8_sign 23 = .ok (.ireturn, 1) := dk_172 (by decide +kernel)
def wsMX8_sign : List Cond := .code yX8_sign cX8_sign 1 (some .int) :: ([.fieldLink RX8 17 "OptimaWorks$Whole" "length" "I", .fieldLink RX8 13 "OptimaWorks$Whole" "below" "Z"] ++ wsX80)
theorem iwsMX8_sign_in8 : ∀ w ∈ wsX80, w ∈ wsMX8_sign := fun _ h => List.mem_cons_of_mem _ (List.mem_append_right _ h)
theorem gdwsMX8_sign : wsMX8_sign.all goodWord = true := gdC rfl (gdA (by decide +kernel : ([.fieldLink RX8 17 "OptimaWorks$Whole" "length" "I", .fieldLink RX8 13 "OptimaWorks$Whole" "below" "Z"] : List Cond).all goodWord = true) gdwsX80)
set_option maxHeartbeats 4000000 in
set_option maxRecDepth 100000 in
/-- the sign -/
theorem m_X8_sign (l : Launch) (dC : Nat → ClassId) (dI : Nat → Nat → Nat) (nW : Nat) (hw : Nat → Nat) (lw : Nat → Nat) (kw : ClassId) (wl : Nat → Int32) (wb : Nat → Int32) (wG : Nat → Nat → Int64) (tt : Nat) (b_wl : ∀ q : Nat, 0 ≤ (wl q).toInt ∧ (wl q).toInt ≤ 14) (b_wb : ∀ q : Nat, 0 ≤ (wb q).toInt ∧ (wb q).toInt ≤ 1) (htt : tt < nW) (sz : Nat) : Met l yX8_sign wsMX8_sign ({ frames := 0, cells := 0, slots := 0, locals := 0 }) (va_Pc [.ref (hw tt)] (fun U => U.heap.size = sz ∧ va_P (dC, dI) vwCl (WW nW hw lw kw wl wb wG) U.heap ∧ va_K (dC, dI) vwCl (tW kw) U ∧ va_D (fun _ => True) (WW nW hw lw kw wl wb wG))) (va_Qi (fun (r : Int32) (u : Unit) => ((-1) ≤ r.toInt ∧ r.toInt ≤ 1)) (fun (u : Unit) t => va_P (dC, dI) vwCl (WW nW hw lw kw wl wb wG) t.heap ∧ va_D (va_A (WW nW hw lw kw wl wb wG) sz) (WW nW hw lw kw wl wb wG)) (va_A (WW nW hw lw kw wl wb wG) sz)) 0 0 (va_A (WW nW hw lw kw wl wb wG) sz) := by
  refine Met.ofW (cc := cX8_sign) (maxL := 1) (ret := (some .int)) (by decide) rfl ?_
  intro p e s m args below meth c s₁ B hml hv
  obtain ⟨rfl, hsz, hP, hK, hD0⟩ := hv
  have hx := B.exec
  have hb := B.bytes
  have hr := B.returns
  have hts := atoms_spec (ws := wsMX8_sign) B.pre
  have hown : s.vm.findClass RX8 = some m.cls := findClass_of_methodNamed B.named
  have hlocks := B.notSynchronized
  subst hsz
  have hD := hD0.self (sz := s.heap.size)
  generalize hAe : va_A (WW nW hw lw kw wl wb wG) s.heap.size = A at hD ⊢
  have hA : ∀ q : Nat, s.heap.size ≤ q → A q := fun q h => by rw [← hAe]; exact Or.inr h
  have hS : va_S A s.heap s.heap [] := va_S.rf
  have hl := lv_entry ([.ref (hw tt)]) (n := 1) (Nat.le_of_ble_eq_true rfl)
  rw [lg_entry_eq]
  generalize (lg_sl ([.ref (hw tt)]) ++ List.replicate (1 - (lg_sl ([.ref (hw tt)])).length) Slot.unset).toArray = ls at hl ⊢
  have hl : lv_has ls 1 [(0, .ref (hw tt))] := hl
  refine lv_aload_n hx hb dX8_sign_0 rfl (lv_at hl 0 rfl) ?_
  refine va_get (D := (dC, dI)) (ci := 8) (v := .int (wl tt)) (C := RX8) (T := TX8) (N := 3) hx hb hts iwsMX8_sign_in8 hown hK hP (tt) (WW_o (by omega)) rfl 1 (by decide) (hts (.fieldLink RX8 17 "OptimaWorks$Whole" "length" "I") (by decide +kernel)) (fun _ h9 => h9) rfl dX8_sign_1 ?_
  have br1 := b_wl tt
  refine W.cut (pc := 23) (fun H locs ls stk => ∃ (k0_j2 : Int32), ((-1) ≤ k0_j2.toInt ∧ k0_j2.toInt ≤ 1) ∧  stk = [.int k0_j2] ∧ va_P (dC, dI) vwCl (WW nW hw lw kw wl wb wG) H ∧ va_D A (WW nW hw lw kw wl wb wG) ∧ va_S A s.heap H locs ∧ lv_has ls 1 [(0, .ref (hw tt))]) (fun join2 => ?_) ?_
  · refine lv_if_ne (tgt := 11) hx hb dX8_sign_4 (by decide) (fun c_4 => ?_) (fun c_4 => ?_)
    · have t_4 : (wl tt).toInt ≠ 0 := toI_ne c_4 rfl (by decide : (0 : Int32).toInt = 0)
      refine lv_aload_n hx hb dX8_sign_11 rfl (lv_at hl 0 rfl) ?_
      refine va_get (D := (dC, dI)) (ci := 8) (v := .int (wb tt)) (C := RX8) (T := TX8) (N := 3) hx hb hts iwsMX8_sign_in8 hown hK hP (tt) (WW_o (by omega)) rfl 2 (by decide) (hts (.fieldLink RX8 13 "OptimaWorks$Whole" "below" "Z") (by decide +kernel)) (fun _ h9 => h9) rfl dX8_sign_12 ?_
      have br12 := b_wb tt
      refine lv_if_eq (tgt := 22) hx hb dX8_sign_15 (by decide) (fun c_15 => ?_) (fun c_15 => ?_)
      · have t_15 : (wb tt).toInt = 0 := toI_eq c_15 rfl (by decide : (0 : Int32).toInt = 0)
        refine lv_iconst (v := 1) hx hb dX8_sign_22 (by decide) ?_
        have hl : lv_has _ _ ([(0, .ref (hw tt))]) := lv_sub hl [0] rfl
        exact join2 _ _ _ _ ⟨1, (show (-1) ≤ (1 : Int32).toInt ∧ (1 : Int32).toInt ≤ 1 from by decide), rfl, hP, hD, hS, hl⟩
      · have t_15 : ¬ (wb tt).toInt = 0 := toI_neq c_15 rfl (by decide : (0 : Int32).toInt = 0)
        refine lv_iconst (v := (-1)) hx hb dX8_sign_18 (by decide) ?_
        refine lv_goto (tgt := 23) hx hb dX8_sign_19 (by decide) ?_
        have hl : lv_has _ _ ([(0, .ref (hw tt))]) := lv_sub hl [0] rfl
        exact join2 _ _ _ _ ⟨(-1), (show (-1) ≤ ((-1) : Int32).toInt ∧ ((-1) : Int32).toInt ≤ 1 from by decide), rfl, hP, hD, hS, hl⟩
    · have t_4 : (wl tt).toInt = 0 := toI_nne c_4 rfl (by decide : (0 : Int32).toInt = 0)
      refine lv_iconst (v := 0) hx hb dX8_sign_7 (by decide) ?_
      refine lv_goto (tgt := 23) hx hb dX8_sign_8 (by decide) ?_
      have hl : lv_has _ _ ([(0, .ref (hw tt))]) := lv_sub hl [0] rfl
      exact join2 _ _ _ _ ⟨0, (show (-1) ≤ (0 : Int32).toInt ∧ (0 : Int32).toInt ≤ 1 from by decide), rfl, hP, hD, hS, hl⟩
  · rintro H locs ls stk ⟨k0_j2, b_k0_j2, rfl, hP, hD, hS, hl⟩
    refine W.widen (k := 0) (n := 0) (by decide +kernel) (by decide +kernel) ?_
    exact W.iret (v := k0_j2) hx hb hr (fun t9_ ht hW => ⟨⟨k0_j2, (), rfl, (b_k0_j2), by rw [ht]; exact hP, hD⟩, hS.F ht⟩) hS.2.2 dX8_sign_23
theorem dX8_isOne_0 : decode cX8_isOne 0 = .ok (.aload_n 0, 1) := dk_42 (by decide +kernel)
theorem dX8_isOne_1 : decode cX8_isOne 1 = .ok (.getfield 17, 3) := dk_180 (by decide +kernel)
theorem dX8_isOne_4 : decode cX8_isOne 4 = .ok (.iconst 1, 1) := dk_4 (by decide +kernel)
theorem dX8_isOne_5 : decode cX8_isOne 5 = .ok (.if_icmp .ne 25, 3) := dk_160 (by decide +kernel)
theorem dX8_isOne_8 : decode cX8_isOne 8 = .ok (.aload_n 0, 1) := dk_42 (by decide +kernel)
theorem dX8_isOne_9 : decode cX8_isOne 9 = .ok (.getfield 9, 3) := dk_180 (by decide +kernel)
theorem dX8_isOne_12 : decode cX8_isOne 12 = .ok (.iconst 0, 1) := dk_3 (by decide +kernel)
theorem dX8_isOne_13 : decode cX8_isOne 13 = .ok (.laload, 1) := dk_47 (by decide +kernel)
theorem dX8_isOne_14 : decode cX8_isOne 14 = .ok (.lconst 1, 1) := dk_10 (by decide +kernel)
theorem dX8_isOne_15 : decode cX8_isOne 15 = .ok (.lcmp, 1) := dk_148 (by decide +kernel)
theorem dX8_isOne_16 : decode cX8_isOne 16 = .ok (.ifCond .ne 14, 3) := dk_154 (by decide +kernel)
theorem dX8_isOne_19 : decode cX8_isOne 19 = .ok (.aload_n 0, 1) := dk_42 (by decide +kernel)
theorem dX8_isOne_20 : decode cX8_isOne 20 = .ok (.getfield 13, 3) := dk_180 (by decide +kernel)
theorem dX8_isOne_23 : decode cX8_isOne 23 = .ok (.ifCond .ne 7, 3) := dk_154 (by decide +kernel)
theorem dX8_isOne_26 : decode cX8_isOne 26 = .ok (.iconst 1, 1) := dk_4 (by decide +kernel)
theorem dX8_isOne_27 : decode cX8_isOne 27 = .ok (.goto 4, 3) := dk_167 (by decide +kernel)
theorem dX8_isOne_30 : decode cX8_isOne 30 = .ok (.iconst 0, 1) := dk_3 (by decide +kernel)
theorem dX8_isOne_31 : decode cX8_isOne 31 = .ok (.ireturn, 1) := dk_172 (by decide +kernel)
def wsMX8_isOne : List Cond := .code yX8_isOne cX8_isOne 1 (some .boolean) :: ([.fieldLink RX8 17 "OptimaWorks$Whole" "length" "I", .fieldLink RX8 9 "OptimaWorks$Whole" "limb" "[J", .fieldLink RX8 13 "OptimaWorks$Whole" "below" "Z"] ++ wsX80)
theorem iwsMX8_isOne_in8 : ∀ w ∈ wsX80, w ∈ wsMX8_isOne := fun _ h => List.mem_cons_of_mem _ (List.mem_append_right _ h)
theorem gdwsMX8_isOne : wsMX8_isOne.all goodWord = true := gdC rfl (gdA (by decide +kernel : ([.fieldLink RX8 17 "OptimaWorks$Whole" "length" "I", .fieldLink RX8 9 "OptimaWorks$Whole" "limb" "[J", .fieldLink RX8 13 "OptimaWorks$Whole" "below" "Z"] : List Cond).all goodWord = true) gdwsX80)
set_option maxHeartbeats 4000000 in
set_option maxRecDepth 100000 in
/-- is it one -/
theorem m_X8_isOne (l : Launch) (dC : Nat → ClassId) (dI : Nat → Nat → Nat) (nW : Nat) (hw : Nat → Nat) (lw : Nat → Nat) (kw : ClassId) (wl : Nat → Int32) (wb : Nat → Int32) (wG : Nat → Nat → Int64) (tt : Nat) (b_wl : ∀ q : Nat, 0 ≤ (wl q).toInt ∧ (wl q).toInt ≤ 14) (b_wb : ∀ q : Nat, 0 ≤ (wb q).toInt ∧ (wb q).toInt ≤ 1) (htt : tt < nW) (sz : Nat) : Met l yX8_isOne wsMX8_isOne ({ frames := 0, cells := 0, slots := 0, locals := 0 }) (va_Pc [.ref (hw tt)] (fun U => U.heap.size = sz ∧ va_P (dC, dI) vwCl (WW nW hw lw kw wl wb wG) U.heap ∧ va_K (dC, dI) vwCl (tW kw) U ∧ va_D (fun _ => True) (WW nW hw lw kw wl wb wG))) (va_Qi (fun (r : Int32) (u : Unit) => (0 ≤ r.toInt ∧ r.toInt ≤ 1)) (fun (u : Unit) t => va_P (dC, dI) vwCl (WW nW hw lw kw wl wb wG) t.heap ∧ va_D (va_A (WW nW hw lw kw wl wb wG) sz) (WW nW hw lw kw wl wb wG)) (va_A (WW nW hw lw kw wl wb wG) sz)) 0 0 (va_A (WW nW hw lw kw wl wb wG) sz) := by
  refine Met.ofW (cc := cX8_isOne) (maxL := 1) (ret := (some .boolean)) (by decide) rfl ?_
  intro p e s m args below meth c s₁ B hml hv
  obtain ⟨rfl, hsz, hP, hK, hD0⟩ := hv
  have hx := B.exec
  have hb := B.bytes
  have hr := B.returns
  have hts := atoms_spec (ws := wsMX8_isOne) B.pre
  have hown : s.vm.findClass RX8 = some m.cls := findClass_of_methodNamed B.named
  have hlocks := B.notSynchronized
  subst hsz
  have hD := hD0.self (sz := s.heap.size)
  generalize hAe : va_A (WW nW hw lw kw wl wb wG) s.heap.size = A at hD ⊢
  have hA : ∀ q : Nat, s.heap.size ≤ q → A q := fun q h => by rw [← hAe]; exact Or.inr h
  have hS : va_S A s.heap s.heap [] := va_S.rf
  have hl := lv_entry ([.ref (hw tt)]) (n := 1) (Nat.le_of_ble_eq_true rfl)
  rw [lg_entry_eq]
  generalize (lg_sl ([.ref (hw tt)]) ++ List.replicate (1 - (lg_sl ([.ref (hw tt)])).length) Slot.unset).toArray = ls at hl ⊢
  have hl : lv_has ls 1 [(0, .ref (hw tt))] := hl
  refine lv_aload_n hx hb dX8_isOne_0 rfl (lv_at hl 0 rfl) ?_
  refine va_get (D := (dC, dI)) (ci := 8) (v := .int (wl tt)) (C := RX8) (T := TX8) (N := 3) hx hb hts iwsMX8_isOne_in8 hown hK hP (tt) (WW_o (by omega)) rfl 1 (by decide) (hts (.fieldLink RX8 17 "OptimaWorks$Whole" "length" "I") (by decide +kernel)) (fun _ h9 => h9) rfl dX8_isOne_1 ?_
  have br1 := b_wl tt
  refine lv_iconst (v := 1) hx hb dX8_isOne_4 (by decide) ?_
  refine W.cut (pc := 31) (fun H locs ls stk => ∃ (k0_j2 : Int32), (0 ≤ k0_j2.toInt ∧ k0_j2.toInt ≤ 1) ∧  stk = [.int k0_j2] ∧ va_P (dC, dI) vwCl (WW nW hw lw kw wl wb wG) H ∧ va_D A (WW nW hw lw kw wl wb wG) ∧ va_S A s.heap H locs ∧ lv_has ls 1 [(0, .ref (hw tt))]) (fun join2 => ?_) ?_
  · refine lv_icmp_ne (tgt := 30) hx hb dX8_isOne_5 (by decide) (fun c_5 => ?_) (fun c_5 => ?_)
    · have t_5 : (wl tt).toInt ≠ 1 := toI_ne c_5 rfl (by decide : (1 : Int32).toInt = 1)
      refine lv_iconst (v := 0) hx hb dX8_isOne_30 (by decide) ?_
      have hl : lv_has _ _ ([(0, .ref (hw tt))]) := lv_sub hl [0] rfl
      exact join2 _ _ _ _ ⟨0, (show 0 ≤ (0 : Int32).toInt ∧ (0 : Int32).toInt ≤ 1 from by decide), rfl, hP, hD, hS, hl⟩
    · have t_5 : (wl tt).toInt = 1 := toI_nne c_5 rfl (by decide : (1 : Int32).toInt = 1)
      refine lv_aload_n hx hb dX8_isOne_8 rfl (lv_at hl 0 rfl) ?_
      refine va_get (D := (dC, dI)) (ci := 8) (v := .ref (lw tt)) (C := RX8) (T := TX8) (N := 3) hx hb hts iwsMX8_isOne_in8 hown hK hP (tt) (WW_o (by omega)) rfl 0 (by decide) (hts (.fieldLink RX8 9 "OptimaWorks$Whole" "limb" "[J") (by decide +kernel)) (fun _ h9 => h9) rfl dX8_isOne_9 ?_
      refine lv_iconst (v := 0) hx hb dX8_isOne_12 (by decide) ?_
      refine va_lald (cA := kw) (n := 14) (f := (wG tt)) hx hb hK hP (nW + tt) 0 (WW_a (by omega)) rfl (show ¬ ((0 : Int32) < 0 ∨ 14 ≤ (0 : Int32).toNatClampNeg) by decide) dX8_isOne_13 ?_
      refine lv_topl (fun v2 hv2 => ?_)
      clear hv2
      refine lv_lconst (v := 1) hx hb dX8_isOne_14 (by decide) ?_
      refine W.lcmp hx hb dX8_isOne_15 ?_
      refine lv_if_ne (tgt := 30) hx hb dX8_isOne_16 (by decide) (fun c_16 => ?_) (fun c_16 => ?_)
      · have t_16 : v2.toInt ≠ 1 := toL_ne c_16 rfl (by decide : (1 : Int64).toInt = 1)
        refine lv_iconst (v := 0) hx hb dX8_isOne_30 (by decide) ?_
        have hl : lv_has _ _ ([(0, .ref (hw tt))]) := lv_sub hl [0] rfl
        exact join2 _ _ _ _ ⟨0, (show 0 ≤ (0 : Int32).toInt ∧ (0 : Int32).toInt ≤ 1 from by decide), rfl, hP, hD, hS, hl⟩
      · have t_16 : v2.toInt = 1 := toL_nne c_16 rfl (by decide : (1 : Int64).toInt = 1)
        refine lv_aload_n hx hb dX8_isOne_19 rfl (lv_at hl 0 rfl) ?_
        refine va_get (D := (dC, dI)) (ci := 8) (v := .int (wb tt)) (C := RX8) (T := TX8) (N := 3) hx hb hts iwsMX8_isOne_in8 hown hK hP (tt) (WW_o (by omega)) rfl 2 (by decide) (hts (.fieldLink RX8 13 "OptimaWorks$Whole" "below" "Z") (by decide +kernel)) (fun _ h9 => h9) rfl dX8_isOne_20 ?_
        have br20 := b_wb tt
        refine lv_if_ne (tgt := 30) hx hb dX8_isOne_23 (by decide) (fun c_23 => ?_) (fun c_23 => ?_)
        · have t_23 : (wb tt).toInt ≠ 0 := toI_ne c_23 rfl (by decide : (0 : Int32).toInt = 0)
          refine lv_iconst (v := 0) hx hb dX8_isOne_30 (by decide) ?_
          have hl : lv_has _ _ ([(0, .ref (hw tt))]) := lv_sub hl [0] rfl
          exact join2 _ _ _ _ ⟨0, (show 0 ≤ (0 : Int32).toInt ∧ (0 : Int32).toInt ≤ 1 from by decide), rfl, hP, hD, hS, hl⟩
        · have t_23 : (wb tt).toInt = 0 := toI_nne c_23 rfl (by decide : (0 : Int32).toInt = 0)
          refine lv_iconst (v := 1) hx hb dX8_isOne_26 (by decide) ?_
          refine lv_goto (tgt := 31) hx hb dX8_isOne_27 (by decide) ?_
          have hl : lv_has _ _ ([(0, .ref (hw tt))]) := lv_sub hl [0] rfl
          exact join2 _ _ _ _ ⟨1, (show 0 ≤ (1 : Int32).toInt ∧ (1 : Int32).toInt ≤ 1 from by decide), rfl, hP, hD, hS, hl⟩
  · rintro H locs ls stk ⟨k0_j2, b_k0_j2, rfl, hP, hD, hS, hl⟩
    refine W.widen (k := 0) (n := 0) (by decide +kernel) (by decide +kernel) ?_
    exact W.zret (v := k0_j2) hx hb hr (by rcases z01 (x := k0_j2) (b_k0_j2) with h9 | h9 <;> rw [h9] <;> rfl) (fun t9_ ht hW => ⟨⟨k0_j2, (), rfl, (b_k0_j2), by rw [ht]; exact hP, hD⟩, hS.F ht⟩) hS.2.2 dX8_isOne_31
theorem dX8_isSmall_0 : decode cX8_isSmall 0 = .ok (.aload_n 0, 1) := dk_42 (by decide +kernel)
theorem dX8_isSmall_1 : decode cX8_isSmall 1 = .ok (.getfield 17, 3) := dk_180 (by decide +kernel)
theorem dX8_isSmall_4 : decode cX8_isSmall 4 = .ok (.iconst 1, 1) := dk_4 (by decide +kernel)
theorem dX8_isSmall_5 : decode cX8_isSmall 5 = .ok (.if_icmp .gt 7, 3) := dk_163 (by decide +kernel)
theorem dX8_isSmall_8 : decode cX8_isSmall 8 = .ok (.iconst 1, 1) := dk_4 (by decide +kernel)
theorem dX8_isSmall_9 : decode cX8_isSmall 9 = .ok (.goto 4, 3) := dk_167 (by decide +kernel)
theorem dX8_isSmall_12 : decode cX8_isSmall 12 = .ok (.iconst 0, 1) := dk_3 (by decide +kernel)
theorem dX8_isSmall_13 : decode cX8_isSmall 13 = .ok (.ireturn, 1) := dk_172 (by decide +kernel)
def wsMX8_isSmall : List Cond := .code yX8_isSmall cX8_isSmall 1 (some .boolean) :: ([.fieldLink RX8 17 "OptimaWorks$Whole" "length" "I"] ++ wsX80)
theorem iwsMX8_isSmall_in8 : ∀ w ∈ wsX80, w ∈ wsMX8_isSmall := fun _ h => List.mem_cons_of_mem _ (List.mem_append_right _ h)
theorem gdwsMX8_isSmall : wsMX8_isSmall.all goodWord = true := gdC rfl (gdA (by decide +kernel : ([.fieldLink RX8 17 "OptimaWorks$Whole" "length" "I"] : List Cond).all goodWord = true) gdwsX80)
set_option maxHeartbeats 4000000 in
set_option maxRecDepth 100000 in
/-- is it small -/
theorem m_X8_isSmall (l : Launch) (dC : Nat → ClassId) (dI : Nat → Nat → Nat) (nW : Nat) (hw : Nat → Nat) (lw : Nat → Nat) (kw : ClassId) (wl : Nat → Int32) (wb : Nat → Int32) (wG : Nat → Nat → Int64) (tt : Nat) (b_wl : ∀ q : Nat, 0 ≤ (wl q).toInt ∧ (wl q).toInt ≤ 14) (b_wb : ∀ q : Nat, 0 ≤ (wb q).toInt ∧ (wb q).toInt ≤ 1) (htt : tt < nW) (sz : Nat) : Met l yX8_isSmall wsMX8_isSmall ({ frames := 0, cells := 0, slots := 0, locals := 0 }) (va_Pc [.ref (hw tt)] (fun U => U.heap.size = sz ∧ va_P (dC, dI) vwCl (WW nW hw lw kw wl wb wG) U.heap ∧ va_K (dC, dI) vwCl (tW kw) U ∧ va_D (fun _ => True) (WW nW hw lw kw wl wb wG))) (va_Qi (fun (r : Int32) (u : Unit) => (0 ≤ r.toInt ∧ r.toInt ≤ 1)) (fun (u : Unit) t => va_P (dC, dI) vwCl (WW nW hw lw kw wl wb wG) t.heap ∧ va_D (va_A (WW nW hw lw kw wl wb wG) sz) (WW nW hw lw kw wl wb wG)) (va_A (WW nW hw lw kw wl wb wG) sz)) 0 0 (va_A (WW nW hw lw kw wl wb wG) sz) := by
  refine Met.ofW (cc := cX8_isSmall) (maxL := 1) (ret := (some .boolean)) (by decide) rfl ?_
  intro p e s m args below meth c s₁ B hml hv
  obtain ⟨rfl, hsz, hP, hK, hD0⟩ := hv
  have hx := B.exec
  have hb := B.bytes
  have hr := B.returns
  have hts := atoms_spec (ws := wsMX8_isSmall) B.pre
  have hown : s.vm.findClass RX8 = some m.cls := findClass_of_methodNamed B.named
  have hlocks := B.notSynchronized
  subst hsz
  have hD := hD0.self (sz := s.heap.size)
  generalize hAe : va_A (WW nW hw lw kw wl wb wG) s.heap.size = A at hD ⊢
  have hA : ∀ q : Nat, s.heap.size ≤ q → A q := fun q h => by rw [← hAe]; exact Or.inr h
  have hS : va_S A s.heap s.heap [] := va_S.rf
  have hl := lv_entry ([.ref (hw tt)]) (n := 1) (Nat.le_of_ble_eq_true rfl)
  rw [lg_entry_eq]
  generalize (lg_sl ([.ref (hw tt)]) ++ List.replicate (1 - (lg_sl ([.ref (hw tt)])).length) Slot.unset).toArray = ls at hl ⊢
  have hl : lv_has ls 1 [(0, .ref (hw tt))] := hl
  refine lv_aload_n hx hb dX8_isSmall_0 rfl (lv_at hl 0 rfl) ?_
  refine va_get (D := (dC, dI)) (ci := 8) (v := .int (wl tt)) (C := RX8) (T := TX8) (N := 3) hx hb hts iwsMX8_isSmall_in8 hown hK hP (tt) (WW_o (by omega)) rfl 1 (by decide) (hts (.fieldLink RX8 17 "OptimaWorks$Whole" "length" "I") (by decide +kernel)) (fun _ h9 => h9) rfl dX8_isSmall_1 ?_
  have br1 := b_wl tt
  refine lv_iconst (v := 1) hx hb dX8_isSmall_4 (by decide) ?_
  refine W.cut (pc := 13) (fun H locs ls stk => ∃ (k0_j2 : Int32), (0 ≤ k0_j2.toInt ∧ k0_j2.toInt ≤ 1) ∧  stk = [.int k0_j2] ∧ va_P (dC, dI) vwCl (WW nW hw lw kw wl wb wG) H ∧ va_D A (WW nW hw lw kw wl wb wG) ∧ va_S A s.heap H locs ∧ lv_has ls 1 [(0, .ref (hw tt))]) (fun join2 => ?_) ?_
  · refine lv_icmp_gt (tgt := 12) hx hb dX8_isSmall_5 (by decide) (fun c_5 => ?_) (fun c_5 => ?_)
    · have t_5 : (wl tt).toInt > 1 := toI_gt c_5 rfl (by decide : (1 : Int32).toInt = 1)
      refine lv_iconst (v := 0) hx hb dX8_isSmall_12 (by decide) ?_
      have hl : lv_has _ _ ([(0, .ref (hw tt))]) := lv_sub hl [0] rfl
      exact join2 _ _ _ _ ⟨0, (show 0 ≤ (0 : Int32).toInt ∧ (0 : Int32).toInt ≤ 1 from by decide), rfl, hP, hD, hS, hl⟩
    · have t_5 : ¬ (wl tt).toInt > 1 := toI_ngt c_5 rfl (by decide : (1 : Int32).toInt = 1)
      refine lv_iconst (v := 1) hx hb dX8_isSmall_8 (by decide) ?_
      refine lv_goto (tgt := 13) hx hb dX8_isSmall_9 (by decide) ?_
      have hl : lv_has _ _ ([(0, .ref (hw tt))]) := lv_sub hl [0] rfl
      exact join2 _ _ _ _ ⟨1, (show 0 ≤ (1 : Int32).toInt ∧ (1 : Int32).toInt ≤ 1 from by decide), rfl, hP, hD, hS, hl⟩
  · rintro H locs ls stk ⟨k0_j2, b_k0_j2, rfl, hP, hD, hS, hl⟩
    refine W.widen (k := 0) (n := 0) (by decide +kernel) (by decide +kernel) ?_
    exact W.zret (v := k0_j2) hx hb hr (by rcases z01 (x := k0_j2) (b_k0_j2) with h9 | h9 <;> rw [h9] <;> rfl) (fun t9_ ht hW => ⟨⟨k0_j2, (), rfl, (b_k0_j2), by rw [ht]; exact hP, hD⟩, hS.F ht⟩) hS.2.2 dX8_isSmall_13
theorem dX8_small_0 : decode cX8_small 0 = .ok (.aload_n 0, 1) := dk_42 (by decide +kernel)
theorem dX8_small_1 : decode cX8_small 1 = .ok (.getfield 17, 3) := dk_180 (by decide +kernel)
theorem dX8_small_4 : decode cX8_small 4 = .ok (.ifCond .ne 7, 3) := dk_154 (by decide +kernel)
theorem dX8_small_7 : decode cX8_small 7 = .ok (.lconst 0, 1) := dk_9 (by decide +kernel)
theorem dX8_small_8 : decode cX8_small 8 = .ok (.goto 26, 3) := dk_167 (by decide +kernel)
theorem dX8_small_11 : decode cX8_small 11 = .ok (.aload_n 0, 1) := dk_42 (by decide +kernel)
theorem dX8_small_12 : decode cX8_small 12 = .ok (.getfield 13, 3) := dk_180 (by decide +kernel)
theorem dX8_small_15 : decode cX8_small 15 = .ok (.ifCond .eq 13, 3) := dk_153 (by decide +kernel)
theorem dX8_small_18 : decode cX8_small 18 = .ok (.aload_n 0, 1) := dk_42 (by decide +kernel)
theorem dX8_small_19 : decode cX8_small 19 = .ok (.getfield 9, 3) := dk_180 (by decide +kernel)
theorem dX8_small_22 : decode cX8_small 22 = .ok (.iconst 0, 1) := dk_3 (by decide +kernel)
theorem dX8_small_23 : decode cX8_small 23 = .ok (.laload, 1) := dk_47 (by decide +kernel)
theorem dX8_small_24 : decode cX8_small 24 = .ok (.lneg, 1) := dk_117 (by decide +kernel)
theorem dX8_small_25 : decode cX8_small 25 = .ok (.goto 9, 3) := dk_167 (by decide +kernel)
theorem dX8_small_28 : decode cX8_small 28 = .ok (.aload_n 0, 1) := dk_42 (by decide +kernel)
theorem dX8_small_29 : decode cX8_small 29 = .ok (.getfield 9, 3) := dk_180 (by decide +kernel)
theorem dX8_small_32 : decode cX8_small 32 = .ok (.iconst 0, 1) := dk_3 (by decide +kernel)
theorem dX8_small_33 : decode cX8_small 33 = .ok (.laload, 1) := dk_47 (by decide +kernel)
theorem dX8_small_34 : decode cX8_small 34 = .ok (.lreturn, 1) := dk_173 (by decide +kernel)
def wsMX8_small : List Cond := .code yX8_small cX8_small 1 (some .long) :: ([.fieldLink RX8 17 "OptimaWorks$Whole" "length" "I", .fieldLink RX8 13 "OptimaWorks$Whole" "below" "Z", .fieldLink RX8 9 "OptimaWorks$Whole" "limb" "[J"] ++ wsX80)
theorem iwsMX8_small_in8 : ∀ w ∈ wsX80, w ∈ wsMX8_small := fun _ h => List.mem_cons_of_mem _ (List.mem_append_right _ h)
theorem gdwsMX8_small : wsMX8_small.all goodWord = true := gdC rfl (gdA (by decide +kernel : ([.fieldLink RX8 17 "OptimaWorks$Whole" "length" "I", .fieldLink RX8 13 "OptimaWorks$Whole" "below" "Z", .fieldLink RX8 9 "OptimaWorks$Whole" "limb" "[J"] : List Cond).all goodWord = true) gdwsX80)
set_option maxHeartbeats 4000000 in
set_option maxRecDepth 100000 in
/-- as a long -/
theorem m_X8_small (l : Launch) (dC : Nat → ClassId) (dI : Nat → Nat → Nat) (nW : Nat) (hw : Nat → Nat) (lw : Nat → Nat) (kw : ClassId) (wl : Nat → Int32) (wb : Nat → Int32) (wG : Nat → Nat → Int64) (tt : Nat) (b_wl : ∀ q : Nat, 0 ≤ (wl q).toInt ∧ (wl q).toInt ≤ 14) (b_wb : ∀ q : Nat, 0 ≤ (wb q).toInt ∧ (wb q).toInt ≤ 1) (htt : tt < nW) (sz : Nat) : Met l yX8_small wsMX8_small ({ frames := 0, cells := 0, slots := 0, locals := 0 }) (va_Pc [.ref (hw tt)] (fun U => U.heap.size = sz ∧ va_P (dC, dI) vwCl (WW nW hw lw kw wl wb wG) U.heap ∧ va_K (dC, dI) vwCl (tW kw) U ∧ va_D (fun _ => True) (WW nW hw lw kw wl wb wG))) (va_Ql (fun (r : Int64) (u : Unit) => True) (fun (u : Unit) t => va_P (dC, dI) vwCl (WW nW hw lw kw wl wb wG) t.heap ∧ va_D (va_A (WW nW hw lw kw wl wb wG) sz) (WW nW hw lw kw wl wb wG)) (va_A (WW nW hw lw kw wl wb wG) sz)) 0 0 (va_A (WW nW hw lw kw wl wb wG) sz) := by
  refine Met.ofW (cc := cX8_small) (maxL := 1) (ret := (some .long)) (by decide) rfl ?_
  intro p e s m args below meth c s₁ B hml hv
  obtain ⟨rfl, hsz, hP, hK, hD0⟩ := hv
  have hx := B.exec
  have hb := B.bytes
  have hr := B.returns
  have hts := atoms_spec (ws := wsMX8_small) B.pre
  have hown : s.vm.findClass RX8 = some m.cls := findClass_of_methodNamed B.named
  have hlocks := B.notSynchronized
  subst hsz
  have hD := hD0.self (sz := s.heap.size)
  generalize hAe : va_A (WW nW hw lw kw wl wb wG) s.heap.size = A at hD ⊢
  have hA : ∀ q : Nat, s.heap.size ≤ q → A q := fun q h => by rw [← hAe]; exact Or.inr h
  have hS : va_S A s.heap s.heap [] := va_S.rf
  have hl := lv_entry ([.ref (hw tt)]) (n := 1) (Nat.le_of_ble_eq_true rfl)
  rw [lg_entry_eq]
  generalize (lg_sl ([.ref (hw tt)]) ++ List.replicate (1 - (lg_sl ([.ref (hw tt)])).length) Slot.unset).toArray = ls at hl ⊢
  have hl : lv_has ls 1 [(0, .ref (hw tt))] := hl
  refine lv_aload_n hx hb dX8_small_0 rfl (lv_at hl 0 rfl) ?_
  refine va_get (D := (dC, dI)) (ci := 8) (v := .int (wl tt)) (C := RX8) (T := TX8) (N := 3) hx hb hts iwsMX8_small_in8 hown hK hP (tt) (WW_o (by omega)) rfl 1 (by decide) (hts (.fieldLink RX8 17 "OptimaWorks$Whole" "length" "I") (by decide +kernel)) (fun _ h9 => h9) rfl dX8_small_1 ?_
  have br1 := b_wl tt
  refine W.cut (pc := 34) (fun H locs ls stk => ∃ (k0_j2 : Int64),  stk = [.long k0_j2] ∧ va_P (dC, dI) vwCl (WW nW hw lw kw wl wb wG) H ∧ va_D A (WW nW hw lw kw wl wb wG) ∧ va_S A s.heap H locs ∧ lv_has ls 1 [(0, .ref (hw tt))]) (fun join2 => ?_) ?_
  · refine lv_if_ne (tgt := 11) hx hb dX8_small_4 (by decide) (fun c_4 => ?_) (fun c_4 => ?_)
    · have t_4 : (wl tt).toInt ≠ 0 := toI_ne c_4 rfl (by decide : (0 : Int32).toInt = 0)
      refine lv_aload_n hx hb dX8_small_11 rfl (lv_at hl 0 rfl) ?_
      refine va_get (D := (dC, dI)) (ci := 8) (v := .int (wb tt)) (C := RX8) (T := TX8) (N := 3) hx hb hts iwsMX8_small_in8 hown hK hP (tt) (WW_o (by omega)) rfl 2 (by decide) (hts (.fieldLink RX8 13 "OptimaWorks$Whole" "below" "Z") (by decide +kernel)) (fun _ h9 => h9) rfl dX8_small_12 ?_
      have br12 := b_wb tt
      refine lv_if_eq (tgt := 28) hx hb dX8_small_15 (by decide) (fun c_15 => ?_) (fun c_15 => ?_)
      · have t_15 : (wb tt).toInt = 0 := toI_eq c_15 rfl (by decide : (0 : Int32).toInt = 0)
        refine lv_aload_n hx hb dX8_small_28 rfl (lv_at hl 0 rfl) ?_
        refine va_get (D := (dC, dI)) (ci := 8) (v := .ref (lw tt)) (C := RX8) (T := TX8) (N := 3) hx hb hts iwsMX8_small_in8 hown hK hP (tt) (WW_o (by omega)) rfl 0 (by decide) (hts (.fieldLink RX8 9 "OptimaWorks$Whole" "limb" "[J") (by decide +kernel)) (fun _ h9 => h9) rfl dX8_small_29 ?_
        refine lv_iconst (v := 0) hx hb dX8_small_32 (by decide) ?_
        refine va_lald (cA := kw) (n := 14) (f := (wG tt)) hx hb hK hP (nW + tt) 0 (WW_a (by omega)) rfl (show ¬ ((0 : Int32) < 0 ∨ 14 ≤ (0 : Int32).toNatClampNeg) by decide) dX8_small_33 ?_
        refine lv_topl (fun v4 hv4 => ?_)
        clear hv4
        have hl : lv_has _ _ ([(0, .ref (hw tt))]) := lv_sub hl [0] rfl
        exact join2 _ _ _ _ ⟨v4, rfl, hP, hD, hS, hl⟩
      · have t_15 : ¬ (wb tt).toInt = 0 := toI_neq c_15 rfl (by decide : (0 : Int32).toInt = 0)
        refine lv_aload_n hx hb dX8_small_18 rfl (lv_at hl 0 rfl) ?_
        refine va_get (D := (dC, dI)) (ci := 8) (v := .ref (lw tt)) (C := RX8) (T := TX8) (N := 3) hx hb hts iwsMX8_small_in8 hown hK hP (tt) (WW_o (by omega)) rfl 0 (by decide) (hts (.fieldLink RX8 9 "OptimaWorks$Whole" "limb" "[J") (by decide +kernel)) (fun _ h9 => h9) rfl dX8_small_19 ?_
        refine lv_iconst (v := 0) hx hb dX8_small_22 (by decide) ?_
        refine va_lald (cA := kw) (n := 14) (f := (wG tt)) hx hb hK hP (nW + tt) 0 (WW_a (by omega)) rfl (show ¬ ((0 : Int32) < 0 ∨ 14 ≤ (0 : Int32).toNatClampNeg) by decide) dX8_small_23 ?_
        refine lv_topl (fun v5 hv5 => ?_)
        clear hv5
        refine lv_lneg hx hb dX8_small_24 ?_
        refine lv_topl (fun v6 hv6 => ?_)
        clear hv6
        refine lv_goto (tgt := 34) hx hb dX8_small_25 (by decide) ?_
        have hl : lv_has _ _ ([(0, .ref (hw tt))]) := lv_sub hl [0] rfl
        exact join2 _ _ _ _ ⟨v6, rfl, hP, hD, hS, hl⟩
    · have t_4 : (wl tt).toInt = 0 := toI_nne c_4 rfl (by decide : (0 : Int32).toInt = 0)
      refine lv_lconst (v := 0) hx hb dX8_small_7 (by decide) ?_
      refine lv_goto (tgt := 34) hx hb dX8_small_8 (by decide) ?_
      have hl : lv_has _ _ ([(0, .ref (hw tt))]) := lv_sub hl [0] rfl
      exact join2 _ _ _ _ ⟨0, rfl, hP, hD, hS, hl⟩
  · rintro H locs ls stk ⟨k0_j2, rfl, hP, hD, hS, hl⟩
    refine W.widen (k := 0) (n := 0) (by decide +kernel) (by decide +kernel) ?_
    exact W.lret (v := k0_j2) hx hb hr (fun t9_ ht hW => ⟨⟨k0_j2, (), rfl, trivial, by rw [ht]; exact hP, hD⟩, hS.F ht⟩) hS.2.2 dX8_small_34
theorem dX8_negate_0 : decode cX8_negate 0 = .ok (.aload_n 0, 1) := dk_42 (by decide +kernel)
theorem dX8_negate_1 : decode cX8_negate 1 = .ok (.aload_n 0, 1) := dk_42 (by decide +kernel)
theorem dX8_negate_2 : decode cX8_negate 2 = .ok (.getfield 17, 3) := dk_180 (by decide +kernel)
theorem dX8_negate_5 : decode cX8_negate 5 = .ok (.ifCond .eq 14, 3) := dk_153 (by decide +kernel)
theorem dX8_negate_8 : decode cX8_negate 8 = .ok (.aload_n 0, 1) := dk_42 (by decide +kernel)
theorem dX8_negate_9 : decode cX8_negate 9 = .ok (.getfield 13, 3) := dk_180 (by decide +kernel)
theorem dX8_negate_12 : decode cX8_negate 12 = .ok (.ifCond .ne 7, 3) := dk_154 (by decide +kernel)
theorem dX8_negate_15 : decode cX8_negate 15 = .ok (.iconst 1, 1) := dk_4 (by decide +kernel)
theorem dX8_negate_16 : decode cX8_negate 16 = .ok (.goto 4, 3) := dk_167 (by decide +kernel)
theorem dX8_negate_19 : decode cX8_negate 19 = .ok (.iconst 0, 1) := dk_3 (by decide +kernel)
theorem dX8_negate_20 : decode cX8_negate 20 = .ok (.putfield 13, 3) := dk_181 (by decide +kernel)
theorem dX8_negate_23 : decode cX8_negate 23 = .ok (.return_, 1) := dk_177 (by decide +kernel)
def wsMX8_negate : List Cond := .code yX8_negate cX8_negate 1 none :: ([.fieldLink RX8 17 "OptimaWorks$Whole" "length" "I", .fieldLink RX8 13 "OptimaWorks$Whole" "below" "Z"] ++ wsX80)
theorem iwsMX8_negate_in8 : ∀ w ∈ wsX80, w ∈ wsMX8_negate := fun _ h => List.mem_cons_of_mem _ (List.mem_append_right _ h)
theorem gdwsMX8_negate : wsMX8_negate.all goodWord = true := gdC rfl (gdA (by decide +kernel : ([.fieldLink RX8 17 "OptimaWorks$Whole" "length" "I", .fieldLink RX8 13 "OptimaWorks$Whole" "below" "Z"] : List Cond).all goodWord = true) gdwsX80)
set_option maxHeartbeats 4000000 in
set_option maxRecDepth 100000 in
/-- turned -/
theorem m_X8_negate (l : Launch) (dC : Nat → ClassId) (dI : Nat → Nat → Nat) (nW : Nat) (hw : Nat → Nat) (lw : Nat → Nat) (kw : ClassId) (wl : Nat → Int32) (wb : Nat → Int32) (wG : Nat → Nat → Int64) (tt : Nat) (b_wl : ∀ q : Nat, 0 ≤ (wl q).toInt ∧ (wl q).toInt ≤ 14) (b_wb : ∀ q : Nat, 0 ≤ (wb q).toInt ∧ (wb q).toInt ≤ 1) (htt : tt < nW) (sz : Nat) : Met l yX8_negate wsMX8_negate ({ frames := 0, cells := 0, slots := 0, locals := 0 }) (va_Pc [.ref (hw tt)] (fun U => U.heap.size = sz ∧ va_P (dC, dI) vwCl (WW nW hw lw kw wl wb wG) U.heap ∧ va_K (dC, dI) vwCl (tW kw) U ∧ va_D (fun _ => True) (WW nW hw lw kw wl wb wG))) (va_Qv (fun (u : Nat → Int32) => (∀ q : Nat, 0 ≤ (u q).toInt ∧ (u q).toInt ≤ 1)) (fun (u : Nat → Int32) t => va_P (dC, dI) vwCl (WW nW hw lw kw wl u wG) t.heap ∧ va_D (va_A (WW nW hw lw kw wl wb wG) sz) (WW nW hw lw kw wl u wG)) (va_A (WW nW hw lw kw wl wb wG) sz)) 0 0 (va_A (WW nW hw lw kw wl wb wG) sz) := by
  refine Met.ofW (cc := cX8_negate) (maxL := 1) (ret := none) (by decide) rfl ?_
  intro p e s m args below meth c s₁ B hml hv
  obtain ⟨rfl, hsz, hP, hK, hD0⟩ := hv
  have hx := B.exec
  have hb := B.bytes
  have hr := B.returns
  have hts := atoms_spec (ws := wsMX8_negate) B.pre
  have hown : s.vm.findClass RX8 = some m.cls := findClass_of_methodNamed B.named
  have hlocks := B.notSynchronized
  subst hsz
  have hD := hD0.self (sz := s.heap.size)
  generalize hAe : va_A (WW nW hw lw kw wl wb wG) s.heap.size = A at hD ⊢
  have hA : ∀ q : Nat, s.heap.size ≤ q → A q := fun q h => by rw [← hAe]; exact Or.inr h
  have hS : va_S A s.heap s.heap [] := va_S.rf
  have hl := lv_entry ([.ref (hw tt)]) (n := 1) (Nat.le_of_ble_eq_true rfl)
  rw [lg_entry_eq]
  generalize (lg_sl ([.ref (hw tt)]) ++ List.replicate (1 - (lg_sl ([.ref (hw tt)])).length) Slot.unset).toArray = ls at hl ⊢
  have hl : lv_has ls 1 [(0, .ref (hw tt))] := hl
  refine lv_aload_n hx hb dX8_negate_0 rfl (lv_at hl 0 rfl) ?_
  refine lv_aload_n hx hb dX8_negate_1 rfl (lv_at hl 0 rfl) ?_
  refine va_get (D := (dC, dI)) (ci := 8) (v := .int (wl tt)) (C := RX8) (T := TX8) (N := 3) hx hb hts iwsMX8_negate_in8 hown hK hP (tt) (WW_o (by omega)) rfl 1 (by decide) (hts (.fieldLink RX8 17 "OptimaWorks$Whole" "length" "I") (by decide +kernel)) (fun _ h9 => h9) rfl dX8_negate_2 ?_
  have br2 := b_wl tt
  refine W.cut (pc := 20) (fun H locs ls stk => ∃ (k0_j2 : Int32), (0 ≤ k0_j2.toInt ∧ k0_j2.toInt ≤ 1) ∧  stk = [.int k0_j2, .ref (hw tt)] ∧ va_P (dC, dI) vwCl (WW nW hw lw kw wl wb wG) H ∧ va_D A (WW nW hw lw kw wl wb wG) ∧ va_S A s.heap H locs ∧ lv_has ls 1 [(0, .ref (hw tt))]) (fun join2 => ?_) ?_
  · refine lv_if_eq (tgt := 19) hx hb dX8_negate_5 (by decide) (fun c_5 => ?_) (fun c_5 => ?_)
    · have t_5 : (wl tt).toInt = 0 := toI_eq c_5 rfl (by decide : (0 : Int32).toInt = 0)
      refine lv_iconst (v := 0) hx hb dX8_negate_19 (by decide) ?_
      have hl : lv_has _ _ ([(0, .ref (hw tt))]) := lv_sub hl [0] rfl
      exact join2 _ _ _ _ ⟨0, (show 0 ≤ (0 : Int32).toInt ∧ (0 : Int32).toInt ≤ 1 from by decide), rfl, hP, hD, hS, hl⟩
    · have t_5 : ¬ (wl tt).toInt = 0 := toI_neq c_5 rfl (by decide : (0 : Int32).toInt = 0)
      refine lv_aload_n hx hb dX8_negate_8 rfl (lv_at hl 0 rfl) ?_
      refine va_get (D := (dC, dI)) (ci := 8) (v := .int (wb tt)) (C := RX8) (T := TX8) (N := 3) hx hb hts iwsMX8_negate_in8 hown hK hP (tt) (WW_o (by omega)) rfl 2 (by decide) (hts (.fieldLink RX8 13 "OptimaWorks$Whole" "below" "Z") (by decide +kernel)) (fun _ h9 => h9) rfl dX8_negate_9 ?_
      have br9 := b_wb tt
      refine lv_if_ne (tgt := 19) hx hb dX8_negate_12 (by decide) (fun c_12 => ?_) (fun c_12 => ?_)
      · have t_12 : (wb tt).toInt ≠ 0 := toI_ne c_12 rfl (by decide : (0 : Int32).toInt = 0)
        refine lv_iconst (v := 0) hx hb dX8_negate_19 (by decide) ?_
        have hl : lv_has _ _ ([(0, .ref (hw tt))]) := lv_sub hl [0] rfl
        exact join2 _ _ _ _ ⟨0, (show 0 ≤ (0 : Int32).toInt ∧ (0 : Int32).toInt ≤ 1 from by decide), rfl, hP, hD, hS, hl⟩
      · have t_12 : (wb tt).toInt = 0 := toI_nne c_12 rfl (by decide : (0 : Int32).toInt = 0)
        refine lv_iconst (v := 1) hx hb dX8_negate_15 (by decide) ?_
        refine lv_goto (tgt := 20) hx hb dX8_negate_16 (by decide) ?_
        have hl : lv_has _ _ ([(0, .ref (hw tt))]) := lv_sub hl [0] rfl
        exact join2 _ _ _ _ ⟨1, (show 0 ≤ (1 : Int32).toInt ∧ (1 : Int32).toInt ≤ 1 from by decide), rfl, hP, hD, hS, hl⟩
  · rintro H locs ls stk ⟨k0_j2, b_k0_j2, rfl, hP, hD, hS, hl⟩
    refine va_put (D := (dC, dI)) (ci := 8) (v := .int k0_j2) (ty := .boolean) (C := RX8) (T := TX8) (N := 3) hx hb hts iwsMX8_negate_in8 tyX8 tyX8_ok nmX8 hown hK hP hD hS (tt) (WW_o (by omega)) rfl 2 (by decide) (hts (.fieldLink RX8 13 "OptimaWorks$Whole" "below" "Z") (by decide +kernel)) (fun _ h9 => h9) rfl (by decide +kernel) (by rcases z01 (x := k0_j2) (b_k0_j2) with h9 | h9 <;> rw [h9] <;> rfl) (by rcases z01 (x := k0_j2) (b_k0_j2) with h9 | h9 <;> rw [h9] <;> rfl) (Nat.le_of_ble_eq_true rfl) dX8_negate_20 (fun H locs hP hD hS => ?_)
    obtain ⟨u1, hu1⟩ : ∃ f9, f9 = fT wb tt k0_j2 := ⟨_, rfl⟩
    have hP : va_P (dC, dI) vwCl (WW nW hw lw kw wl u1 wG) H := by rw [hu1]; exact Eq.mp (congrArg (fun z9 => va_P (dC, dI) vwCl z9 H) (WW_sb (by omega) k0_j2)) hP
    have hD : va_D A (WW nW hw lw kw wl u1 wG) := by rw [hu1]; exact Eq.mp (congrArg (fun z9 => va_D A z9) (WW_sb (by omega) k0_j2)) hD
    have b_u1 : ∀ q : Nat, 0 ≤ (u1 q).toInt ∧ (u1 q).toInt ≤ 1 := by rw [hu1]; exact fT_r b_wb (b_k0_j2)
    have q_u1 : (u1 tt).toInt = k0_j2.toInt := by rw [hu1, fT_eq]
    clear hu1
    refine W.widen (k := 0) (n := 0) (by decide +kernel) (by decide +kernel) ?_
    exact W.vret hx hb hr (fun t9_ ht hW => ⟨⟨u1, rfl, b_u1, by rw [ht]; exact hP, hD⟩, hS.F ht⟩) hS.2.2 dX8_negate_23

def WY (hY : Nat → Nat) (aY : Nat → Nat) (kY : Nat → ClassId) (nY : Nat) (fY : Nat → Int32) : va_W := [(aY 0, .inl (kY 0, nY, .inl fY))]
def tY (kY : Nat → ClassId) : List (ClassId × FieldType) := [(kY 0, .int)]
def WZ (hZ : Nat → Nat) (aZ : Nat → Nat) (kZ : Nat → ClassId) (nZ : Nat) (gZ : Nat → Int64) : va_W := [(aZ 0, .inl (kZ 0, nZ, .inr (.inl gZ)))]
def tZ (kZ : Nat → ClassId) : List (ClassId × FieldType) := [(kZ 0, .long)]
theorem gdwsX00 : wsX00.all goodWord = true := by decide +kernel
theorem gdwsX10 : wsX10.all goodWord = true := by decide +kernel
theorem gdwsX20 : wsX20.all goodWord = true := by decide +kernel
theorem gdwsX30 : wsX30.all goodWord = true := by decide +kernel
theorem gdwsX40 : wsX40.all goodWord = true := by decide +kernel
theorem gdwsX50 : wsX50.all goodWord = true := by decide +kernel
theorem gdwsX60 : wsX60.all goodWord = true := by decide +kernel
theorem gdwsX70 : wsX70.all goodWord = true := by decide +kernel
theorem gdwsX80 : wsX80.all goodWord = true := by decide +kernel
theorem gdwsX90 : wsX90.all goodWord = true := by decide +kernel
theorem gdwsX100 : wsX100.all goodWord = true := by decide +kernel
theorem gdwsX110 : wsX110.all goodWord = true := by decide +kernel
theorem dJ7_fill_53178_0 : decode cJ7_fill_53178 0 = .ok (.iconst 0, 1) := dk_3 (by decide +kernel)
theorem dJ7_fill_53178_1 : decode cJ7_fill_53178 1 = .ok (.istore_n 2, 1) := dk_61 (by decide +kernel)
theorem dJ7_fill_53178_2 : decode cJ7_fill_53178 2 = .ok (.aload_n 0, 1) := dk_42 (by decide +kernel)
theorem dJ7_fill_53178_3 : decode cJ7_fill_53178 3 = .ok (.arraylength, 1) := dk_190 (by decide +kernel)
theorem dJ7_fill_53178_4 : decode cJ7_fill_53178 4 = .ok (.istore_n 3, 1) := dk_62 (by decide +kernel)
theorem dJ7_fill_53178_5 : decode cJ7_fill_53178 5 = .ok (.iload_n 2, 1) := dk_28 (by decide +kernel)
theorem dJ7_fill_53178_6 : decode cJ7_fill_53178 6 = .ok (.iload_n 3, 1) := dk_29 (by decide +kernel)
theorem dJ7_fill_53178_7 : decode cJ7_fill_53178 7 = .ok (.if_icmp .ge 13, 3) := dk_162 (by decide +kernel)
theorem dJ7_fill_53178_10 : decode cJ7_fill_53178 10 = .ok (.aload_n 0, 1) := dk_42 (by decide +kernel)
theorem dJ7_fill_53178_11 : decode cJ7_fill_53178 11 = .ok (.iload_n 2, 1) := dk_28 (by decide +kernel)
theorem dJ7_fill_53178_12 : decode cJ7_fill_53178 12 = .ok (.iload_n 1, 1) := dk_27 (by decide +kernel)
theorem dJ7_fill_53178_13 : decode cJ7_fill_53178 13 = .ok (.iastore, 1) := dk_79 (by decide +kernel)
theorem dJ7_fill_53178_14 : decode cJ7_fill_53178 14 = .ok (.iinc 2 1, 3) := dk_132 (by decide +kernel)
theorem dJ7_fill_53178_17 : decode cJ7_fill_53178 17 = .ok (.goto (-12), 3) := dk_167 (by decide +kernel)
theorem dJ7_fill_53178_20 : decode cJ7_fill_53178 20 = .ok (.return_, 1) := dk_177 (by decide +kernel)
def wsMJ7_fill_53178 : List Cond := .code yJ7_fill_53178 cJ7_fill_53178 4 none :: ([])
theorem gdwsMJ7_fill_53178 : wsMJ7_fill_53178.all goodWord = true := gdC rfl (by decide +kernel : ([] : List Cond).all goodWord = true)
set_option maxHeartbeats 4000000 in
set_option maxRecDepth 100000 in
/-- Arrays.fill of ints -/
theorem m_J7_fill_53178 (l : Launch) (dC : Nat → ClassId) (dI : Nat → Nat → Nat) (hY : Nat → Nat) (aY : Nat → Nat) (kY : Nat → ClassId) (nY : Nat) (fY : Nat → Int32) (xv : Int32) (b_nY : 0 ≤ nY ∧ nY ≤ 1000000) (sz : Nat) : Met l yJ7_fill_53178 wsMJ7_fill_53178 ({ frames := 0, cells := 0, slots := 0, locals := 0 }) (va_Pc [.ref (aY 0), .int xv] (fun U => U.heap.size = sz ∧ va_P (dC, dI) vwCl (WY hY aY kY nY fY) U.heap ∧ va_K (dC, dI) vwCl (tY kY) U ∧ va_D (fun _ => True) (WY hY aY kY nY fY))) (va_Qv (fun (u : Nat → Int32) => (∀ q : Nat, q < nY → u q = xv)) (fun (u : Nat → Int32) t => va_P (dC, dI) vwCl (WY hY aY kY nY u) t.heap ∧ va_D (va_A (WY hY aY kY nY fY) sz) (WY hY aY kY nY u)) (va_A (WY hY aY kY nY fY) sz)) 0 0 (va_A (WY hY aY kY nY fY) sz) := by
  refine Met.ofW (cc := cJ7_fill_53178) (maxL := 4) (ret := none) (by decide) rfl ?_
  intro p e s m args below meth c s₁ B hml hv
  obtain ⟨rfl, hsz, hP, hK, hD0⟩ := hv
  have hx := B.exec
  have hb := B.bytes
  have hr := B.returns
  have hts := atoms_spec (ws := wsMJ7_fill_53178) B.pre
  have hown : s.vm.findClass RJ7 = some m.cls := findClass_of_methodNamed B.named
  have hlocks := B.notSynchronized
  subst hsz
  have hD := hD0.self (sz := s.heap.size)
  generalize hAe : va_A (WY hY aY kY nY fY) s.heap.size = A at hD ⊢
  have hA : ∀ q : Nat, s.heap.size ≤ q → A q := fun q h => by rw [← hAe]; exact Or.inr h
  have hS : va_S A s.heap s.heap [] := va_S.rf
  have hl := lv_entry ([.ref (aY 0), .int xv]) (n := 4) (Nat.le_of_ble_eq_true rfl)
  rw [lg_entry_eq]
  generalize (lg_sl ([.ref (aY 0), .int xv]) ++ List.replicate (4 - (lg_sl ([.ref (aY 0), .int xv])).length) Slot.unset).toArray = ls at hl ⊢
  have hl : lv_has ls 4 [(0, .ref (aY 0)), (1, .int xv)] := hl
  refine lv_iconst (v := 0) hx hb dJ7_fill_53178_0 (by decide) ?_
  refine lv_istore_n hx hb dJ7_fill_53178_1 rfl hl (by decide) rfl (fun ls (hl : lv_has ls _ ([(2, .int 0), (0, .ref (aY 0)), (1, .int xv)])) => ?_)
  refine lv_aload_n hx hb dJ7_fill_53178_2 rfl (lv_at hl 1 rfl) ?_
  refine va_alen hx hb hK hP 0 0 rfl rfl (v := (iI ((nY : Nat) : Int))) (iI_nat _) dJ7_fill_53178_3 ?_
  refine lv_istore_n hx hb dJ7_fill_53178_4 rfl hl (by decide) rfl (fun ls (hl : lv_has ls _ ([(3, .int (iI ((nY : Nat) : Int))), (2, .int 0), (0, .ref (aY 0)), (1, .int xv)])) => ?_)
  have hl : lv_has _ _ ([(3, .int (iI ((nY : Nat) : Int))), (2, .int 0), (0, .ref (aY 0)), (1, .int xv)]) := lv_sub hl [0, 1, 2, 3] rfl
  refine (fun (loop : ∀ (n9 : Nat) (fY_x5 : Nat → Int32) (l2_x5 : Int32) (H : Heap) (locs : List Loc) (ls : Array Slot), (0 ≤ l2_x5.toInt ∧ l2_x5.toInt ≤ 1000000) → (∀ q : Nat, (q : Int) < l2_x5.toInt → fY_x5 q = xv) → (1000000 - l2_x5.toInt < ((n9 : Nat) : Int)) → va_P (dC, dI) vwCl (WY hY aY kY nY fY_x5) H → va_D A (WY hY aY kY nY fY_x5) → va_S A s.heap H locs → lv_has ls 4 [(3, .int (iI ((nY : Nat) : Int))), (2, .int l2_x5), (0, .ref (aY 0)), (1, .int xv)] → W p l e _ s m _ below meth c H locs 0 0 _ (F0 m 5 ls [])) => loop (1000001) fY 0 _ _ _ (show 0 ≤ (0 : Int32).toInt ∧ (0 : Int32).toInt ≤ 1000000 from by decide) (show ∀ q : Nat, (q : Int) < (0 : Int32).toInt → fY q = xv from fun q hq => absurd hq (by have h7 : (0 : Int32).toInt = 0 := (by decide); omega)) ((by have e9 : (0 : Int32).toInt = 0 := (by decide : (0 : Int32).toInt = 0); omega)) hP hD hS hl) ?_
  intro n9
  induction n9 with
  | zero => intro fY_x5 l2_x5 H locs ls b_l2_x5 hFl hf9; exact False.elim (by omega)
  | succ n9 ihx5 =>
    intro fY_x5 l2_x5 H locs ls b_l2_x5 hFl hfx5 hP hD hS hl
    refine lv_iload_n hx hb dJ7_fill_53178_5 rfl (lv_at hl 1 rfl) ?_
    refine lv_iload_n hx hb dJ7_fill_53178_6 rfl (lv_at hl 0 rfl) ?_
    refine lv_icmp_ge (tgt := 20) hx hb dJ7_fill_53178_7 (by decide) (fun c_7 => ?_) (fun c_7 => ?_)
    · first | (have t_7 : l2_x5.toInt ≥ ((nY : Nat) : Int) := toI_ge c_7 rfl (iI_t (by omega) (by omega))) | skip
      refine W.widen (k := 0) (n := 0) (by decide +kernel) (by decide +kernel) ?_
      exact W.vret hx hb hr (fun t9_ ht hW => ⟨⟨fY_x5, rfl, (by (try dsimp only); exact (fun q hq => hFl q (by omega))), by rw [ht]; exact hP, hD⟩, hS.F ht⟩) hS.2.2 dJ7_fill_53178_20
    · first | (have t_7 : ¬ l2_x5.toInt ≥ ((nY : Nat) : Int) := toI_nge c_7 rfl (iI_t (by omega) (by omega))) | skip
      refine lv_aload_n hx hb dJ7_fill_53178_10 rfl (lv_at hl 2 rfl) ?_
      refine lv_iload_n hx hb dJ7_fill_53178_11 rfl (lv_at hl 1 rfl) ?_
      refine lv_iload_n hx hb dJ7_fill_53178_12 rfl (lv_at hl 3 rfl) ?_
      refine va_iast (cA := kY 0) (n := nY) (f := fY_x5) hx hb hK hP hD hS 0 0 rfl rfl (vp_in_iff.mpr ⟨b_l2_x5.1, (by omega)⟩) dJ7_fill_53178_13 (fun H locs hP hD hS => ?_)
      obtain ⟨u6, hu6⟩ : ∃ f9, f9 = upd fY_x5 (l2_x5).toNatClampNeg xv := ⟨_, rfl⟩
      have hP : va_P (dC, dI) vwCl (WY hY aY kY nY u6) H := by rw [hu6]; exact hP
      have hD : va_D A (WY hY aY kY nY u6) := by rw [hu6]; exact hD
      have b_u6 : u6 = upd fY_x5 (l2_x5).toNatClampNeg xv := hu6
      clear hu6
      refine lv_iinc (v := (iI (l2_x5.toInt + 1))) hx hb dJ7_fill_53178_14 hl (k := 1) rfl (iI_add2 (iI_of _) (by decide : (1 : Int32) = iI 1)) (by decide) rfl (fun ls (hl : lv_has ls _ ([(2, .int (iI (l2_x5.toInt + 1))), (3, .int (iI ((nY : Nat) : Int))), (0, .ref (aY 0)), (1, .int xv)])) => ?_)
      refine lv_goto (tgt := 5) hx hb dJ7_fill_53178_17 (by decide) ?_
      have hl : lv_has _ _ ([(3, .int (iI ((nY : Nat) : Int))), (2, .int (iI (l2_x5.toInt + 1))), (0, .ref (aY 0)), (1, .int xv)]) := lv_sub hl [1, 0, 2, 3] rfl
      exact ihx5 u6 (iI (l2_x5.toInt + 1)) _ _ _ (iI_rng (Int.le_trans (by decide) (Int.add_le_add (b_l2_x5.1) (Int.le_refl _))) (by omega) (by decide) (by decide)) (show ∀ q : Nat, (q : Int) < (iI (l2_x5.toInt + 1)).toInt → u6 q = xv from by rw [iI_t (by omega) (by omega)]; exact fill_step hFl (by omega) b_u6) (by have e9 : ((iI (l2_x5.toInt + 1))).toInt = (l2_x5.toInt + 1) := (iI_t (Int.le_trans (by decide) (Int.add_le_add (b_l2_x5.1) (Int.le_refl _))) (Int.le_trans (Int.add_le_add (b_l2_x5.2) (Int.le_refl _)) (by decide))); omega) hP hD hS hl
theorem dJ7_fill_d0a16_0 : decode cJ7_fill_d0a16 0 = .ok (.iconst 0, 1) := dk_3 (by decide +kernel)
theorem dJ7_fill_d0a16_1 : decode cJ7_fill_d0a16 1 = .ok (.istore_n 3, 1) := dk_62 (by decide +kernel)
theorem dJ7_fill_d0a16_2 : decode cJ7_fill_d0a16 2 = .ok (.aload_n 0, 1) := dk_42 (by decide +kernel)
theorem dJ7_fill_d0a16_3 : decode cJ7_fill_d0a16 3 = .ok (.arraylength, 1) := dk_190 (by decide +kernel)
theorem dJ7_fill_d0a16_4 : decode cJ7_fill_d0a16 4 = .ok (.istore 4, 2) := dk_54 (by decide +kernel)
theorem dJ7_fill_d0a16_6 : decode cJ7_fill_d0a16 6 = .ok (.iload_n 3, 1) := dk_29 (by decide +kernel)
theorem dJ7_fill_d0a16_7 : decode cJ7_fill_d0a16 7 = .ok (.iload 4, 2) := dk_21 (by decide +kernel)
theorem dJ7_fill_d0a16_9 : decode cJ7_fill_d0a16 9 = .ok (.if_icmp .ge 13, 3) := dk_162 (by decide +kernel)
theorem dJ7_fill_d0a16_12 : decode cJ7_fill_d0a16 12 = .ok (.aload_n 0, 1) := dk_42 (by decide +kernel)
theorem dJ7_fill_d0a16_13 : decode cJ7_fill_d0a16 13 = .ok (.iload_n 3, 1) := dk_29 (by decide +kernel)
theorem dJ7_fill_d0a16_14 : decode cJ7_fill_d0a16 14 = .ok (.lload_n 1, 1) := dk_31 (by decide +kernel)
theorem dJ7_fill_d0a16_15 : decode cJ7_fill_d0a16 15 = .ok (.lastore, 1) := dk_80 (by decide +kernel)
theorem dJ7_fill_d0a16_16 : decode cJ7_fill_d0a16 16 = .ok (.iinc 3 1, 3) := dk_132 (by decide +kernel)
theorem dJ7_fill_d0a16_19 : decode cJ7_fill_d0a16 19 = .ok (.goto (-13), 3) := dk_167 (by decide +kernel)
theorem dJ7_fill_d0a16_22 : decode cJ7_fill_d0a16 22 = .ok (.return_, 1) := dk_177 (by decide +kernel)
def wsMJ7_fill_d0a16 : List Cond := .code yJ7_fill_d0a16 cJ7_fill_d0a16 5 none :: ([])
theorem gdwsMJ7_fill_d0a16 : wsMJ7_fill_d0a16.all goodWord = true := gdC rfl (by decide +kernel : ([] : List Cond).all goodWord = true)
set_option maxHeartbeats 4000000 in
set_option maxRecDepth 100000 in
/-- Arrays.fill of longs -/
theorem m_J7_fill_d0a16 (l : Launch) (dC : Nat → ClassId) (dI : Nat → Nat → Nat) (hZ : Nat → Nat) (aZ : Nat → Nat) (kZ : Nat → ClassId) (nZ : Nat) (gZ : Nat → Int64) (xv : Int64) (b_nZ : 0 ≤ nZ ∧ nZ ≤ 1000000) (sz : Nat) : Met l yJ7_fill_d0a16 wsMJ7_fill_d0a16 ({ frames := 0, cells := 0, slots := 0, locals := 0 }) (va_Pc [.ref (aZ 0), .long xv] (fun U => U.heap.size = sz ∧ va_P (dC, dI) vwCl (WZ hZ aZ kZ nZ gZ) U.heap ∧ va_K (dC, dI) vwCl (tZ kZ) U ∧ va_D (fun _ => True) (WZ hZ aZ kZ nZ gZ))) (va_Qv (fun (u : Nat → Int64) => True) (fun (u : Nat → Int64) t => va_P (dC, dI) vwCl (WZ hZ aZ kZ nZ u) t.heap ∧ va_D (va_A (WZ hZ aZ kZ nZ gZ) sz) (WZ hZ aZ kZ nZ u)) (va_A (WZ hZ aZ kZ nZ gZ) sz)) 0 0 (va_A (WZ hZ aZ kZ nZ gZ) sz) := by
  refine Met.ofW (cc := cJ7_fill_d0a16) (maxL := 5) (ret := none) (by decide) rfl ?_
  intro p e s m args below meth c s₁ B hml hv
  obtain ⟨rfl, hsz, hP, hK, hD0⟩ := hv
  have hx := B.exec
  have hb := B.bytes
  have hr := B.returns
  have hts := atoms_spec (ws := wsMJ7_fill_d0a16) B.pre
  have hown : s.vm.findClass RJ7 = some m.cls := findClass_of_methodNamed B.named
  have hlocks := B.notSynchronized
  subst hsz
  have hD := hD0.self (sz := s.heap.size)
  generalize hAe : va_A (WZ hZ aZ kZ nZ gZ) s.heap.size = A at hD ⊢
  have hA : ∀ q : Nat, s.heap.size ≤ q → A q := fun q h => by rw [← hAe]; exact Or.inr h
  have hS : va_S A s.heap s.heap [] := va_S.rf
  have hl := lv_entry ([.ref (aZ 0), .long xv]) (n := 5) (Nat.le_of_ble_eq_true rfl)
  rw [lg_entry_eq]
  generalize (lg_sl ([.ref (aZ 0), .long xv]) ++ List.replicate (5 - (lg_sl ([.ref (aZ 0), .long xv])).length) Slot.unset).toArray = ls at hl ⊢
  have hl : lv_has ls 5 [(0, .ref (aZ 0)), (1, .long xv)] := hl
  refine lv_iconst (v := 0) hx hb dJ7_fill_d0a16_0 (by decide) ?_
  refine lv_istore_n hx hb dJ7_fill_d0a16_1 rfl hl (by decide) rfl (fun ls (hl : lv_has ls _ ([(3, .int 0), (0, .ref (aZ 0)), (1, .long xv)])) => ?_)
  refine lv_aload_n hx hb dJ7_fill_d0a16_2 rfl (lv_at hl 1 rfl) ?_
  refine va_alen hx hb hK hP 0 0 rfl rfl (v := (iI ((nZ : Nat) : Int))) (iI_nat _) dJ7_fill_d0a16_3 ?_
  refine lv_istore hx hb dJ7_fill_d0a16_4 hl (by decide) rfl (fun ls (hl : lv_has ls _ ([(4, .int (iI ((nZ : Nat) : Int))), (3, .int 0), (0, .ref (aZ 0)), (1, .long xv)])) => ?_)
  have hl : lv_has _ _ ([(4, .int (iI ((nZ : Nat) : Int))), (3, .int 0), (0, .ref (aZ 0)), (1, .long xv)]) := lv_sub hl [0, 1, 2, 3] rfl
  refine (fun (loop : ∀ (n9 : Nat) (gZ_x6 : Nat → Int64) (l3_x6 : Int32) (H : Heap) (locs : List Loc) (ls : Array Slot), (0 ≤ l3_x6.toInt ∧ l3_x6.toInt ≤ 1000000) → (1000000 - l3_x6.toInt < ((n9 : Nat) : Int)) → va_P (dC, dI) vwCl (WZ hZ aZ kZ nZ gZ_x6) H → va_D A (WZ hZ aZ kZ nZ gZ_x6) → va_S A s.heap H locs → lv_has ls 5 [(4, .int (iI ((nZ : Nat) : Int))), (3, .int l3_x6), (0, .ref (aZ 0)), (1, .long xv)] → W p l e _ s m _ below meth c H locs 0 0 _ (F0 m 6 ls [])) => loop (1000001) gZ 0 _ _ _ (show 0 ≤ (0 : Int32).toInt ∧ (0 : Int32).toInt ≤ 1000000 from by decide) ((by have e9 : (0 : Int32).toInt = 0 := (by decide : (0 : Int32).toInt = 0); omega)) hP hD hS hl) ?_
  intro n9
  induction n9 with
  | zero => intro gZ_x6 l3_x6 H locs ls b_l3_x6 hf9; exact False.elim (by omega)
  | succ n9 ihx6 =>
    intro gZ_x6 l3_x6 H locs ls b_l3_x6 hfx6 hP hD hS hl
    refine lv_iload_n hx hb dJ7_fill_d0a16_6 rfl (lv_at hl 1 rfl) ?_
    refine lv_iload hx hb dJ7_fill_d0a16_7 (lv_at hl 0 rfl) ?_
    refine lv_icmp_ge (tgt := 22) hx hb dJ7_fill_d0a16_9 (by decide) (fun c_9 => ?_) (fun c_9 => ?_)
    · first | (have t_9 : l3_x6.toInt ≥ ((nZ : Nat) : Int) := toI_ge c_9 rfl (iI_t (by omega) (by omega))) | skip
      refine W.widen (k := 0) (n := 0) (by decide +kernel) (by decide +kernel) ?_
      exact W.vret hx hb hr (fun t9_ ht hW => ⟨⟨gZ_x6, rfl, trivial, by rw [ht]; exact hP, hD⟩, hS.F ht⟩) hS.2.2 dJ7_fill_d0a16_22
    · first | (have t_9 : ¬ l3_x6.toInt ≥ ((nZ : Nat) : Int) := toI_nge c_9 rfl (iI_t (by omega) (by omega))) | skip
      refine lv_aload_n hx hb dJ7_fill_d0a16_12 rfl (lv_at hl 2 rfl) ?_
      refine lv_iload_n hx hb dJ7_fill_d0a16_13 rfl (lv_at hl 1 rfl) ?_
      refine lv_lload_n hx hb dJ7_fill_d0a16_14 rfl (lv_at hl 3 rfl) ?_
      refine va_last (cA := kZ 0) (n := nZ) (f := gZ_x6) hx hb hK hP hD hS 0 0 rfl rfl (vp_in_iff.mpr ⟨b_l3_x6.1, (by omega)⟩) dJ7_fill_d0a16_15 (fun H locs hP hD hS => ?_)
      obtain ⟨u6, hu6⟩ : ∃ f9, f9 = vp_updL gZ_x6 (l3_x6).toNatClampNeg xv := ⟨_, rfl⟩
      have hP : va_P (dC, dI) vwCl (WZ hZ aZ kZ nZ u6) H := by rw [hu6]; exact hP
      have hD : va_D A (WZ hZ aZ kZ nZ u6) := by rw [hu6]; exact hD
      clear hu6
      refine lv_iinc (v := (iI (l3_x6.toInt + 1))) hx hb dJ7_fill_d0a16_16 hl (k := 1) rfl (iI_add2 (iI_of _) (by decide : (1 : Int32) = iI 1)) (by decide) rfl (fun ls (hl : lv_has ls _ ([(3, .int (iI (l3_x6.toInt + 1))), (4, .int (iI ((nZ : Nat) : Int))), (0, .ref (aZ 0)), (1, .long xv)])) => ?_)
      refine lv_goto (tgt := 6) hx hb dJ7_fill_d0a16_19 (by decide) ?_
      have hl : lv_has _ _ ([(4, .int (iI ((nZ : Nat) : Int))), (3, .int (iI (l3_x6.toInt + 1))), (0, .ref (aZ 0)), (1, .long xv)]) := lv_sub hl [1, 0, 2, 3] rfl
      exact ihx6 u6 (iI (l3_x6.toInt + 1)) _ _ _ (iI_rng (Int.le_trans (by decide) (Int.add_le_add (b_l3_x6.1) (Int.le_refl _))) (by omega) (by decide) (by decide)) (by have e9 : ((iI (l3_x6.toInt + 1))).toInt = (l3_x6.toInt + 1) := (iI_t (Int.le_trans (by decide) (Int.add_le_add (b_l3_x6.1) (Int.le_refl _))) (Int.le_trans (Int.add_le_add (b_l3_x6.2) (Int.le_refl _)) (by decide))); omega) hP hD hS hl
theorem dJ6_bitCount_0f7a4_0 : decode cJ6_bitCount_0f7a4 0 = .ok (.iload_n 0, 1) := dk_26 (by decide +kernel)
theorem dJ6_bitCount_0f7a4_1 : decode cJ6_bitCount_0f7a4 1 = .ok (.iload_n 0, 1) := dk_26 (by decide +kernel)
theorem dJ6_bitCount_0f7a4_2 : decode cJ6_bitCount_0f7a4 2 = .ok (.iconst 1, 1) := dk_4 (by decide +kernel)
theorem dJ6_bitCount_0f7a4_3 : decode cJ6_bitCount_0f7a4 3 = .ok (.iushr, 1) := dk_124 (by decide +kernel)
theorem dJ6_bitCount_0f7a4_4 : decode cJ6_bitCount_0f7a4 4 = .ok (.ldc_w 265, 3) := dk_19 (by decide +kernel)
theorem dJ6_bitCount_0f7a4_7 : decode cJ6_bitCount_0f7a4 7 = .ok (.iand, 1) := dk_126 (by decide +kernel)
theorem dJ6_bitCount_0f7a4_8 : decode cJ6_bitCount_0f7a4 8 = .ok (.isub, 1) := dk_100 (by decide +kernel)
theorem dJ6_bitCount_0f7a4_9 : decode cJ6_bitCount_0f7a4 9 = .ok (.istore_n 0, 1) := dk_59 (by decide +kernel)
theorem dJ6_bitCount_0f7a4_10 : decode cJ6_bitCount_0f7a4 10 = .ok (.iload_n 0, 1) := dk_26 (by decide +kernel)
theorem dJ6_bitCount_0f7a4_11 : decode cJ6_bitCount_0f7a4 11 = .ok (.ldc_w 266, 3) := dk_19 (by decide +kernel)
theorem dJ6_bitCount_0f7a4_14 : decode cJ6_bitCount_0f7a4 14 = .ok (.iand, 1) := dk_126 (by decide +kernel)
theorem dJ6_bitCount_0f7a4_15 : decode cJ6_bitCount_0f7a4 15 = .ok (.iload_n 0, 1) := dk_26 (by decide +kernel)
theorem dJ6_bitCount_0f7a4_16 : decode cJ6_bitCount_0f7a4 16 = .ok (.iconst 2, 1) := dk_5 (by decide +kernel)
theorem dJ6_bitCount_0f7a4_17 : decode cJ6_bitCount_0f7a4 17 = .ok (.iushr, 1) := dk_124 (by decide +kernel)
theorem dJ6_bitCount_0f7a4_18 : decode cJ6_bitCount_0f7a4 18 = .ok (.ldc_w 266, 3) := dk_19 (by decide +kernel)
theorem dJ6_bitCount_0f7a4_21 : decode cJ6_bitCount_0f7a4 21 = .ok (.iand, 1) := dk_126 (by decide +kernel)
theorem dJ6_bitCount_0f7a4_22 : decode cJ6_bitCount_0f7a4 22 = .ok (.iadd, 1) := dk_96 (by decide +kernel)
theorem dJ6_bitCount_0f7a4_23 : decode cJ6_bitCount_0f7a4 23 = .ok (.istore_n 0, 1) := dk_59 (by decide +kernel)
theorem dJ6_bitCount_0f7a4_24 : decode cJ6_bitCount_0f7a4 24 = .ok (.iload_n 0, 1) := dk_26 (by decide +kernel)
theorem dJ6_bitCount_0f7a4_25 : decode cJ6_bitCount_0f7a4 25 = .ok (.iload_n 0, 1) := dk_26 (by decide +kernel)
theorem dJ6_bitCount_0f7a4_26 : decode cJ6_bitCount_0f7a4 26 = .ok (.iconst 4, 1) := dk_7 (by decide +kernel)
theorem dJ6_bitCount_0f7a4_27 : decode cJ6_bitCount_0f7a4 27 = .ok (.iushr, 1) := dk_124 (by decide +kernel)
theorem dJ6_bitCount_0f7a4_28 : decode cJ6_bitCount_0f7a4 28 = .ok (.iadd, 1) := dk_96 (by decide +kernel)
theorem dJ6_bitCount_0f7a4_29 : decode cJ6_bitCount_0f7a4 29 = .ok (.ldc_w 267, 3) := dk_19 (by decide +kernel)
theorem dJ6_bitCount_0f7a4_32 : decode cJ6_bitCount_0f7a4 32 = .ok (.iand, 1) := dk_126 (by decide +kernel)
theorem dJ6_bitCount_0f7a4_33 : decode cJ6_bitCount_0f7a4 33 = .ok (.istore_n 0, 1) := dk_59 (by decide +kernel)
theorem dJ6_bitCount_0f7a4_34 : decode cJ6_bitCount_0f7a4 34 = .ok (.iload_n 0, 1) := dk_26 (by decide +kernel)
theorem dJ6_bitCount_0f7a4_35 : decode cJ6_bitCount_0f7a4 35 = .ok (.iload_n 0, 1) := dk_26 (by decide +kernel)
theorem dJ6_bitCount_0f7a4_36 : decode cJ6_bitCount_0f7a4 36 = .ok (.bipush 8, 2) := dk_16 (by decide +kernel)
theorem dJ6_bitCount_0f7a4_38 : decode cJ6_bitCount_0f7a4 38 = .ok (.iushr, 1) := dk_124 (by decide +kernel)
theorem dJ6_bitCount_0f7a4_39 : decode cJ6_bitCount_0f7a4 39 = .ok (.iadd, 1) := dk_96 (by decide +kernel)
theorem dJ6_bitCount_0f7a4_40 : decode cJ6_bitCount_0f7a4 40 = .ok (.istore_n 0, 1) := dk_59 (by decide +kernel)
theorem dJ6_bitCount_0f7a4_41 : decode cJ6_bitCount_0f7a4 41 = .ok (.iload_n 0, 1) := dk_26 (by decide +kernel)
theorem dJ6_bitCount_0f7a4_42 : decode cJ6_bitCount_0f7a4 42 = .ok (.iload_n 0, 1) := dk_26 (by decide +kernel)
theorem dJ6_bitCount_0f7a4_43 : decode cJ6_bitCount_0f7a4 43 = .ok (.bipush 16, 2) := dk_16 (by decide +kernel)
theorem dJ6_bitCount_0f7a4_45 : decode cJ6_bitCount_0f7a4 45 = .ok (.iushr, 1) := dk_124 (by decide +kernel)
theorem dJ6_bitCount_0f7a4_46 : decode cJ6_bitCount_0f7a4 46 = .ok (.iadd, 1) := dk_96 (by decide +kernel)
theorem dJ6_bitCount_0f7a4_47 : decode cJ6_bitCount_0f7a4 47 = .ok (.istore_n 0, 1) := dk_59 (by decide +kernel)
theorem dJ6_bitCount_0f7a4_48 : decode cJ6_bitCount_0f7a4 48 = .ok (.iload_n 0, 1) := dk_26 (by decide +kernel)
theorem dJ6_bitCount_0f7a4_49 : decode cJ6_bitCount_0f7a4 49 = .ok (.bipush 63, 2) := dk_16 (by decide +kernel)
theorem dJ6_bitCount_0f7a4_51 : decode cJ6_bitCount_0f7a4 51 = .ok (.iand, 1) := dk_126 (by decide +kernel)
theorem dJ6_bitCount_0f7a4_52 : decode cJ6_bitCount_0f7a4 52 = .ok (.ireturn, 1) := dk_172 (by decide +kernel)
def wsMJ6_bitCount_0f7a4 : List Cond := .code yJ6_bitCount_0f7a4 cJ6_bitCount_0f7a4 1 (some .int) :: ([.constant RJ6 265 1431655765, .constant RJ6 266 858993459, .constant RJ6 267 252645135])
theorem gdwsMJ6_bitCount_0f7a4 : wsMJ6_bitCount_0f7a4.all goodWord = true := gdC rfl (by decide +kernel : ([.constant RJ6 265 1431655765, .constant RJ6 266 858993459, .constant RJ6 267 252645135] : List Cond).all goodWord = true)
set_option maxHeartbeats 4000000 in
set_option maxRecDepth 100000 in
/-- Integer.bitCount -/
theorem m_J6_bitCount_0f7a4 (l : Launch) (dC : Nat → ClassId) (dI : Nat → Nat → Nat) (xv : Int32) (sz : Nat) : Met l yJ6_bitCount_0f7a4 wsMJ6_bitCount_0f7a4 ({ frames := 0, cells := 0, slots := 0, locals := 0 }) (va_Pc [.int xv] (fun U => U.heap.size = sz ∧ va_P (dC, dI) vwCl [] U.heap ∧ va_K (dC, dI) vwCl [] U ∧ va_D (fun _ => True) [])) (va_Qi (fun (r : Int32) (u : Unit) => (0 ≤ r.toInt ∧ r.toInt ≤ 63) ∧ (0 ≤ xv.toInt → xv.toInt ≤ 4095 → r.toInt = (cntB (bI xv) 12 : Int))) (fun (u : Unit) t => True) (va_A [] sz)) 0 0 (va_A [] sz) := by
  refine Met.ofW (cc := cJ6_bitCount_0f7a4) (maxL := 1) (ret := (some .int)) (by decide) rfl ?_
  intro p e s m args below meth c s₁ B hml hv
  obtain ⟨rfl, hsz, hP, hK, hD0⟩ := hv
  have hx := B.exec
  have hb := B.bytes
  have hr := B.returns
  have hts := atoms_spec (ws := wsMJ6_bitCount_0f7a4) B.pre
  have hown : s.vm.findClass RJ6 = some m.cls := findClass_of_methodNamed B.named
  have hlocks := B.notSynchronized
  subst hsz
  have hD := hD0.self (sz := s.heap.size)
  generalize hAe : va_A [] s.heap.size = A at hD ⊢
  have hA : ∀ q : Nat, s.heap.size ≤ q → A q := fun q h => by rw [← hAe]; exact Or.inr h
  have hS : va_S A s.heap s.heap [] := va_S.rf
  have hl := lv_entry ([.int xv]) (n := 1) (Nat.le_of_ble_eq_true rfl)
  rw [lg_entry_eq]
  generalize (lg_sl ([.int xv]) ++ List.replicate (1 - (lg_sl ([.int xv])).length) Slot.unset).toArray = ls at hl ⊢
  have hl : lv_has ls 1 [(0, .int xv)] := hl
  refine lv_iload_n hx hb dJ6_bitCount_0f7a4_0 rfl (lv_at hl 0 rfl) ?_
  refine lv_iload_n hx hb dJ6_bitCount_0f7a4_1 rfl (lv_at hl 0 rfl) ?_
  refine lv_iconst (v := 1) hx hb dJ6_bitCount_0f7a4_2 (by decide) ?_
  refine lv_iushr hx hb dJ6_bitCount_0f7a4_3 rfl ?_
  refine lv_topi (fun v1 hv1 => ?_)
  have b_v1 : v1 = tbcU xv (1 : Int32) := hv1
  clear hv1
  refine lv_ldcw (v := 1431655765) hx hb hown (hts (.constant RJ6 265 1431655765) (by decide +kernel)) dJ6_bitCount_0f7a4_4 ?_
  refine lv_iand hx hb dJ6_bitCount_0f7a4_7 ?_
  refine lv_topi (fun v2 hv2 => ?_)
  have b_v2 : v2 = v1 &&& (1431655765 : Int32) := hv2
  clear hv2
  refine lv_isub hx hb dJ6_bitCount_0f7a4_8 ?_
  refine lv_topi (fun v3 hv3 => ?_)
  have b_v3 : v3 = xv - v2 := hv3
  clear hv3
  refine lv_istore_n hx hb dJ6_bitCount_0f7a4_9 rfl hl (by decide) rfl (fun ls (hl : lv_has ls _ ([(0, .int v3)])) => ?_)
  refine lv_iload_n hx hb dJ6_bitCount_0f7a4_10 rfl (lv_at hl 0 rfl) ?_
  refine lv_ldcw (v := 858993459) hx hb hown (hts (.constant RJ6 266 858993459) (by decide +kernel)) dJ6_bitCount_0f7a4_11 ?_
  refine lv_iand hx hb dJ6_bitCount_0f7a4_14 ?_
  refine lv_topi (fun v4 hv4 => ?_)
  have b_v4 : v4 = v3 &&& (858993459 : Int32) := hv4
  clear hv4
  refine lv_iload_n hx hb dJ6_bitCount_0f7a4_15 rfl (lv_at hl 0 rfl) ?_
  refine lv_iconst (v := 2) hx hb dJ6_bitCount_0f7a4_16 (by decide) ?_
  refine lv_iushr hx hb dJ6_bitCount_0f7a4_17 rfl ?_
  refine lv_topi (fun v5 hv5 => ?_)
  have b_v5 : v5 = tbcU v3 (2 : Int32) := hv5
  clear hv5
  refine lv_ldcw (v := 858993459) hx hb hown (hts (.constant RJ6 266 858993459) (by decide +kernel)) dJ6_bitCount_0f7a4_18 ?_
  refine lv_iand hx hb dJ6_bitCount_0f7a4_21 ?_
  refine lv_topi (fun v6 hv6 => ?_)
  have b_v6 : v6 = v5 &&& (858993459 : Int32) := hv6
  clear hv6
  refine lv_iadd hx hb dJ6_bitCount_0f7a4_22 ?_
  refine lv_topi (fun v7 hv7 => ?_)
  have b_v7 : v7 = v4 + v6 := hv7
  clear hv7
  refine lv_istore_n hx hb dJ6_bitCount_0f7a4_23 rfl hl (by decide) rfl (fun ls (hl : lv_has ls _ ([(0, .int v7)])) => ?_)
  refine lv_iload_n hx hb dJ6_bitCount_0f7a4_24 rfl (lv_at hl 0 rfl) ?_
  refine lv_iload_n hx hb dJ6_bitCount_0f7a4_25 rfl (lv_at hl 0 rfl) ?_
  refine lv_iconst (v := 4) hx hb dJ6_bitCount_0f7a4_26 (by decide) ?_
  refine lv_iushr hx hb dJ6_bitCount_0f7a4_27 rfl ?_
  refine lv_topi (fun v8 hv8 => ?_)
  have b_v8 : v8 = tbcU v7 (4 : Int32) := hv8
  clear hv8
  refine lv_iadd hx hb dJ6_bitCount_0f7a4_28 ?_
  refine lv_topi (fun v9 hv9 => ?_)
  have b_v9 : v9 = v7 + v8 := hv9
  clear hv9
  refine lv_ldcw (v := 252645135) hx hb hown (hts (.constant RJ6 267 252645135) (by decide +kernel)) dJ6_bitCount_0f7a4_29 ?_
  refine lv_iand hx hb dJ6_bitCount_0f7a4_32 ?_
  refine lv_topi (fun v10 hv10 => ?_)
  have b_v10 : v10 = v9 &&& (252645135 : Int32) := hv10
  clear hv10
  refine lv_istore_n hx hb dJ6_bitCount_0f7a4_33 rfl hl (by decide) rfl (fun ls (hl : lv_has ls _ ([(0, .int v10)])) => ?_)
  refine lv_iload_n hx hb dJ6_bitCount_0f7a4_34 rfl (lv_at hl 0 rfl) ?_
  refine lv_iload_n hx hb dJ6_bitCount_0f7a4_35 rfl (lv_at hl 0 rfl) ?_
  refine lv_bipush (v := 8) hx hb dJ6_bitCount_0f7a4_36 (by decide) ?_
  refine lv_iushr hx hb dJ6_bitCount_0f7a4_38 rfl ?_
  refine lv_topi (fun v11 hv11 => ?_)
  have b_v11 : v11 = tbcU v10 (8 : Int32) := hv11
  clear hv11
  refine lv_iadd hx hb dJ6_bitCount_0f7a4_39 ?_
  refine lv_topi (fun v12 hv12 => ?_)
  have b_v12 : v12 = v10 + v11 := hv12
  clear hv12
  refine lv_istore_n hx hb dJ6_bitCount_0f7a4_40 rfl hl (by decide) rfl (fun ls (hl : lv_has ls _ ([(0, .int v12)])) => ?_)
  refine lv_iload_n hx hb dJ6_bitCount_0f7a4_41 rfl (lv_at hl 0 rfl) ?_
  refine lv_iload_n hx hb dJ6_bitCount_0f7a4_42 rfl (lv_at hl 0 rfl) ?_
  refine lv_bipush (v := 16) hx hb dJ6_bitCount_0f7a4_43 (by decide) ?_
  refine lv_iushr hx hb dJ6_bitCount_0f7a4_45 rfl ?_
  refine lv_topi (fun v13 hv13 => ?_)
  have b_v13 : v13 = tbcU v12 (16 : Int32) := hv13
  clear hv13
  refine lv_iadd hx hb dJ6_bitCount_0f7a4_46 ?_
  refine lv_topi (fun v14 hv14 => ?_)
  have b_v14 : v14 = v12 + v13 := hv14
  clear hv14
  refine lv_istore_n hx hb dJ6_bitCount_0f7a4_47 rfl hl (by decide) rfl (fun ls (hl : lv_has ls _ ([(0, .int v14)])) => ?_)
  refine lv_iload_n hx hb dJ6_bitCount_0f7a4_48 rfl (lv_at hl 0 rfl) ?_
  refine lv_bipush (v := 63) hx hb dJ6_bitCount_0f7a4_49 (by decide) ?_
  refine lv_iand hx hb dJ6_bitCount_0f7a4_51 ?_
  refine lv_topi (fun v15 hv15 => ?_)
  have b_v15 : 0 ≤ v15.toInt ∧ v15.toInt ≤ 63 := by rw [hv15]; exact and_rng _ (by decide) (by decide)
  have b1_v15 : v15 = v14 &&& (63 : Int32) := hv15
  clear hv15
  refine W.widen (k := 0) (n := 0) (by decide +kernel) (by decide +kernel) ?_
  exact W.iret (v := v15) hx hb hr (fun t9_ ht hW => ⟨⟨v15, (), rfl, ⟨(b_v15), (by (try dsimp only); exact (fun h0 h1 => by have e1 : v3 = tbc1 xv := (by rw [b_v3, b_v2, b_v1]; rfl); have e2 : v7 = tbc2 xv := (by rw [b_v7, b_v4, b_v6, b_v5, e1]; rfl); have e3 : v10 = tbc3 xv := (by rw [b_v10, b_v9, b_v8, e2]; rfl); have e4 : v12 = tbc4 xv := (by rw [b_v12, b_v11, e3]; rfl); have e5 : v14 = tbc5 xv := (by rw [b_v14, b_v13, e4]; rfl); rw [b1_v15, e5]; exact tbc_t h0 h1))⟩, trivial⟩, hS.F ht⟩) hS.2.2 dJ6_bitCount_0f7a4_52
theorem dJ13_compare_74951_0 : decode cJ13_compare_74951 0 = .ok (.lload_n 0, 1) := dk_30 (by decide +kernel)
theorem dJ13_compare_74951_1 : decode cJ13_compare_74951 1 = .ok (.lload_n 2, 1) := dk_32 (by decide +kernel)
theorem dJ13_compare_74951_2 : decode cJ13_compare_74951 2 = .ok (.lcmp, 1) := dk_148 (by decide +kernel)
theorem dJ13_compare_74951_3 : decode cJ13_compare_74951 3 = .ok (.ifCond .ge 7, 3) := dk_156 (by decide +kernel)
theorem dJ13_compare_74951_6 : decode cJ13_compare_74951 6 = .ok (.iconst (-1), 1) := dk_2 (by decide +kernel)
theorem dJ13_compare_74951_7 : decode cJ13_compare_74951 7 = .ok (.goto 14, 3) := dk_167 (by decide +kernel)
theorem dJ13_compare_74951_10 : decode cJ13_compare_74951 10 = .ok (.lload_n 0, 1) := dk_30 (by decide +kernel)
theorem dJ13_compare_74951_11 : decode cJ13_compare_74951 11 = .ok (.lload_n 2, 1) := dk_32 (by decide +kernel)
theorem dJ13_compare_74951_12 : decode cJ13_compare_74951 12 = .ok (.lcmp, 1) := dk_148 (by decide +kernel)
theorem dJ13_compare_74951_13 : decode cJ13_compare_74951 13 = .ok (.ifCond .ne 7, 3) := dk_154 (by decide +kernel)
theorem dJ13_compare_74951_16 : decode cJ13_compare_74951 16 = .ok (.iconst 0, 1) := dk_3 (by decide +kernel)
theorem dJ13_compare_74951_17 : decode cJ13_compare_74951 17 = .ok (.goto 4, 3) := dk_167 (by decide +kernel)
theorem dJ13_compare_74951_20 : decode cJ13_compare_74951 20 = .ok (.iconst 1, 1) := dk_4 (by decide +kernel)
theorem dJ13_compare_74951_21 : decode cJ13_compare_74951 21 = .ok (.ireturn, 1) := dk_172 (by decide +kernel)
def wsMJ13_compare_74951 : List Cond := .code yJ13_compare_74951 cJ13_compare_74951 4 (some .int) :: ([])
theorem gdwsMJ13_compare_74951 : wsMJ13_compare_74951.all goodWord = true := gdC rfl (by decide +kernel : ([] : List Cond).all goodWord = true)
set_option maxHeartbeats 4000000 in
set_option maxRecDepth 100000 in
/-- Long.compare -/
theorem m_J13_compare_74951 (l : Launch) (dC : Nat → ClassId) (dI : Nat → Nat → Nat) (xv : Int64) (yv : Int64) (sz : Nat) : Met l yJ13_compare_74951 wsMJ13_compare_74951 ({ frames := 0, cells := 0, slots := 0, locals := 0 }) (va_Pc [.long xv, .long yv] (fun U => U.heap.size = sz ∧ va_P (dC, dI) vwCl [] U.heap ∧ va_K (dC, dI) vwCl [] U ∧ va_D (fun _ => True) [])) (va_Qi (fun (r : Int32) (u : Unit) => True) (fun (u : Unit) t => True) (va_A [] sz)) 0 0 (va_A [] sz) := by
  refine Met.ofW (cc := cJ13_compare_74951) (maxL := 4) (ret := (some .int)) (by decide) rfl ?_
  intro p e s m args below meth c s₁ B hml hv
  obtain ⟨rfl, hsz, hP, hK, hD0⟩ := hv
  have hx := B.exec
  have hb := B.bytes
  have hr := B.returns
  have hts := atoms_spec (ws := wsMJ13_compare_74951) B.pre
  have hown : s.vm.findClass RJ13 = some m.cls := findClass_of_methodNamed B.named
  have hlocks := B.notSynchronized
  subst hsz
  have hD := hD0.self (sz := s.heap.size)
  generalize hAe : va_A [] s.heap.size = A at hD ⊢
  have hA : ∀ q : Nat, s.heap.size ≤ q → A q := fun q h => by rw [← hAe]; exact Or.inr h
  have hS : va_S A s.heap s.heap [] := va_S.rf
  have hl := lv_entry ([.long xv, .long yv]) (n := 4) (Nat.le_of_ble_eq_true rfl)
  rw [lg_entry_eq]
  generalize (lg_sl ([.long xv, .long yv]) ++ List.replicate (4 - (lg_sl ([.long xv, .long yv])).length) Slot.unset).toArray = ls at hl ⊢
  have hl : lv_has ls 4 [(0, .long xv), (2, .long yv)] := hl
  refine lv_lload_n hx hb dJ13_compare_74951_0 rfl (lv_at hl 0 rfl) ?_
  refine lv_lload_n hx hb dJ13_compare_74951_1 rfl (lv_at hl 1 rfl) ?_
  refine W.lcmp hx hb dJ13_compare_74951_2 ?_
  refine W.cut (pc := 21) (fun H locs ls stk => ∃ (k0_j2 : Int32), ((-1) ≤ k0_j2.toInt ∧ k0_j2.toInt ≤ 1) ∧  stk = [.int k0_j2] ∧ va_P (dC, dI) vwCl ([]) H ∧ va_D A ([]) ∧ va_S A s.heap H locs ∧ lv_has ls 4 [(0, .long xv), (2, .long yv)]) (fun join2 => ?_) ?_
  · refine lv_if_ge (tgt := 10) hx hb dJ13_compare_74951_3 (by decide) (fun c_3 => ?_) (fun c_3 => ?_)
    · have t_3 : xv.toInt ≥ yv.toInt := toL_ge c_3 rfl rfl
      refine lv_lload_n hx hb dJ13_compare_74951_10 rfl (lv_at hl 0 rfl) ?_
      refine lv_lload_n hx hb dJ13_compare_74951_11 rfl (lv_at hl 1 rfl) ?_
      refine W.lcmp hx hb dJ13_compare_74951_12 ?_
      refine lv_if_ne (tgt := 20) hx hb dJ13_compare_74951_13 (by decide) (fun c_13 => ?_) (fun c_13 => ?_)
      · have t_13 : xv.toInt ≠ yv.toInt := toL_ne c_13 rfl rfl
        refine lv_iconst (v := 1) hx hb dJ13_compare_74951_20 (by decide) ?_
        have hl : lv_has _ _ ([(0, .long xv), (2, .long yv)]) := lv_sub hl [0, 1] rfl
        exact join2 _ _ _ _ ⟨1, (show (-1) ≤ (1 : Int32).toInt ∧ (1 : Int32).toInt ≤ 1 from by decide), rfl, hP, hD, hS, hl⟩
      · have t_13 : xv.toInt = yv.toInt := toL_nne c_13 rfl rfl
        refine lv_iconst (v := 0) hx hb dJ13_compare_74951_16 (by decide) ?_
        refine lv_goto (tgt := 21) hx hb dJ13_compare_74951_17 (by decide) ?_
        have hl : lv_has _ _ ([(0, .long xv), (2, .long yv)]) := lv_sub hl [0, 1] rfl
        exact join2 _ _ _ _ ⟨0, (show (-1) ≤ (0 : Int32).toInt ∧ (0 : Int32).toInt ≤ 1 from by decide), rfl, hP, hD, hS, hl⟩
    · have t_3 : ¬ xv.toInt ≥ yv.toInt := toL_nge c_3 rfl rfl
      refine lv_iconst (v := (-1)) hx hb dJ13_compare_74951_6 (by decide) ?_
      refine lv_goto (tgt := 21) hx hb dJ13_compare_74951_7 (by decide) ?_
      have hl : lv_has _ _ ([(0, .long xv), (2, .long yv)]) := lv_sub hl [0, 1] rfl
      exact join2 _ _ _ _ ⟨(-1), (show (-1) ≤ ((-1) : Int32).toInt ∧ ((-1) : Int32).toInt ≤ 1 from by decide), rfl, hP, hD, hS, hl⟩
  · rintro H locs ls stk ⟨k0_j2, b_k0_j2, rfl, hP, hD, hS, hl⟩
    refine W.widen (k := 0) (n := 0) (by decide +kernel) (by decide +kernel) ?_
    exact W.iret (v := k0_j2) hx hb hr (fun t9_ ht hW => ⟨⟨k0_j2, (), rfl, trivial, trivial⟩, hS.F ht⟩) hS.2.2 dJ13_compare_74951_21

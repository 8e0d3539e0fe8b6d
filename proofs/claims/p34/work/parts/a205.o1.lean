def WX (hX : Nat → Nat) (aX : Nat → Nat) (kX : Nat → ClassId) (hT : Nat → Nat) (hM : Nat → Nat) (fX_ready : Nat → Int32) (fX_sheet : Nat → Int32) (dX_sheet : Nat) (nX_sheet : Nat) (iX_sheetLength : Int32) (xX_reader : Value) (xX_solver : Value) (xX_prover : Value) (xX_values : Value) (xX_clauses : Value) (xX_nets : Value) : va_W := [(hX 0, .inr (11, [.ref (aX 0), .ref (hT 0), .ref (hM 0), .ref dX_sheet, .int iX_sheetLength, xX_reader, xX_solver, xX_prover, xX_values, xX_clauses, xX_nets])), (aX 0, .inl (kX 0, 5, .inl fX_ready)), (dX_sheet, .inl (kX 1, nX_sheet, .inl fX_sheet))]
def tX (kX : Nat → ClassId) : List (ClassId × FieldType) := [(kX 0, .int), (kX 1, .byte)]
theorem dX11_put_0 : decode cX11_put 0 = .ok (.aload_n 0, 1) := dk_42 (by decide +kernel)
theorem dX11_put_1 : decode cX11_put 1 = .ok (.getfield 138, 3) := dk_180 (by decide +kernel)
theorem dX11_put_4 : decode cX11_put 4 = .ok (.sipush 30000, 3) := dk_17 (by decide +kernel)
theorem dX11_put_7 : decode cX11_put 7 = .ok (.if_icmp .lt 4, 3) := dk_161 (by decide +kernel)
theorem dX11_put_10 : decode cX11_put 10 = .ok (.return_, 1) := dk_177 (by decide +kernel)
theorem dX11_put_11 : decode cX11_put 11 = .ok (.aload_n 0, 1) := dk_42 (by decide +kernel)
theorem dX11_put_12 : decode cX11_put 12 = .ok (.getfield 138, 3) := dk_180 (by decide +kernel)
theorem dX11_put_15 : decode cX11_put 15 = .ok (.aload_n 0, 1) := dk_42 (by decide +kernel)
theorem dX11_put_16 : decode cX11_put 16 = .ok (.getfield 27, 3) := dk_180 (by decide +kernel)
theorem dX11_put_19 : decode cX11_put 19 = .ok (.arraylength, 1) := dk_190 (by decide +kernel)
theorem dX11_put_20 : decode cX11_put 20 = .ok (.if_icmp .lt 21, 3) := dk_161 (by decide +kernel)
theorem dX11_put_23 : decode cX11_put 23 = .ok (.aload_n 0, 1) := dk_42 (by decide +kernel)
theorem dX11_put_24 : decode cX11_put 24 = .ok (.aload_n 0, 1) := dk_42 (by decide +kernel)
theorem dX11_put_25 : decode cX11_put 25 = .ok (.getfield 27, 3) := dk_180 (by decide +kernel)
theorem dX11_put_28 : decode cX11_put 28 = .ok (.aload_n 0, 1) := dk_42 (by decide +kernel)
theorem dX11_put_29 : decode cX11_put 29 = .ok (.getfield 27, 3) := dk_180 (by decide +kernel)
theorem dX11_put_32 : decode cX11_put 32 = .ok (.arraylength, 1) := dk_190 (by decide +kernel)
theorem dX11_put_33 : decode cX11_put 33 = .ok (.iconst 2, 1) := dk_5 (by decide +kernel)
theorem dX11_put_34 : decode cX11_put 34 = .ok (.imul, 1) := dk_104 (by decide +kernel)
theorem dX11_put_35 : decode cX11_put 35 = .ok (.invokestatic 230, 3) := dk_184 (by decide +kernel)
theorem dX11_put_38 : decode cX11_put 38 = .ok (.putfield 27, 3) := dk_181 (by decide +kernel)
theorem dX11_put_41 : decode cX11_put 41 = .ok (.aload_n 0, 1) := dk_42 (by decide +kernel)
theorem dX11_put_42 : decode cX11_put 42 = .ok (.getfield 27, 3) := dk_180 (by decide +kernel)
theorem dX11_put_45 : decode cX11_put 45 = .ok (.aload_n 0, 1) := dk_42 (by decide +kernel)
theorem dX11_put_46 : decode cX11_put 46 = .ok (.getfield 138, 3) := dk_180 (by decide +kernel)
theorem dX11_put_49 : decode cX11_put 49 = .ok (.iload_n 1, 1) := dk_27 (by decide +kernel)
theorem dX11_put_50 : decode cX11_put 50 = .ok (.i2b, 1) := dk_145 (by decide +kernel)
theorem dX11_put_51 : decode cX11_put 51 = .ok (.bastore, 1) := dk_84 (by decide +kernel)
theorem dX11_put_52 : decode cX11_put 52 = .ok (.aload_n 0, 1) := dk_42 (by decide +kernel)
theorem dX11_put_53 : decode cX11_put 53 = .ok (.dup, 1) := dk_89 (by decide +kernel)
theorem dX11_put_54 : decode cX11_put 54 = .ok (.getfield 138, 3) := dk_180 (by decide +kernel)
theorem dX11_put_57 : decode cX11_put 57 = .ok (.iconst 1, 1) := dk_4 (by decide +kernel)
theorem dX11_put_58 : decode cX11_put 58 = .ok (.iadd, 1) := dk_96 (by decide +kernel)
theorem dX11_put_59 : decode cX11_put 59 = .ok (.putfield 138, 3) := dk_181 (by decide +kernel)
theorem dX11_put_62 : decode cX11_put 62 = .ok (.return_, 1) := dk_177 (by decide +kernel)
def wsMX11_put : List Cond := .code yX11_put cX11_put 2 none :: ([.fieldLink RX11 138 "OptimaWorks" "sheetLength" "I", .fieldLink RX11 27 "OptimaWorks" "sheet" "[B"] ++ wsX110 ++ (va_wsS RX11 230 yJ7_copyOf_9075b wsMJ7_copyOf_9075b))
theorem iwsMX11_put_in11 : ∀ w ∈ wsX110, w ∈ wsMX11_put := fun _ h => List.mem_cons_of_mem _ (List.mem_append_left _ (List.mem_append_right _ h))
theorem gwsMX11_put_0 : GoodIn wsMX11_put (va_wsS RX11 230 yJ7_copyOf_9075b wsMJ7_copyOf_9075b) := goodIn_sub (fun _ h => List.mem_cons_of_mem _ (List.mem_append_right _ h)) (gdS (by decide +kernel) gdwsMJ7_copyOf_9075b)
theorem gdwsMX11_put : wsMX11_put.all goodWord = true := gdC rfl (gdA (gdA (by decide +kernel : ([.fieldLink RX11 138 "OptimaWorks" "sheetLength" "I", .fieldLink RX11 27 "OptimaWorks" "sheet" "[B"] : List Cond).all goodWord = true) gdwsX110) (gdS (by decide +kernel) gdwsMJ7_copyOf_9075b))
set_option maxHeartbeats 4000000 in
set_option maxRecDepth 100000 in
/-- a letter more -/
theorem m_X11_put (l : Launch) (dC : Nat → ClassId) (dI : Nat → Nat → Nat) (hX : Nat → Nat) (aX : Nat → Nat) (kX : Nat → ClassId) (hT : Nat → Nat) (hM : Nat → Nat) (fX_ready : Nat → Int32) (fX_sheet : Nat → Int32) (dX_sheet : Nat) (nX_sheet : Nat) (iX_sheetLength : Int32) (xX_reader : Value) (xX_solver : Value) (xX_prover : Value) (xX_values : Value) (xX_clauses : Value) (xX_nets : Value) (p1 : Int32) (b_fX_sheet : ∀ q : Nat, (-128) ≤ (fX_sheet q).toInt ∧ (fX_sheet q).toInt ≤ 127) (b_nX_sheet : 64 ≤ nX_sheet ∧ nX_sheet ≤ 60000) (b_iX_sheetLength : 0 ≤ iX_sheetLength.toInt ∧ iX_sheetLength.toInt ≤ 30000) (b_shl : iX_sheetLength.toInt ≤ ((nX_sheet : Nat) : Int)) (sz : Nat) : Met l yX11_put wsMX11_put ({ frames := 2, cells := 1876, slots := 180000, locals := 40 }) (va_Pc [.ref (hX 0), .int p1] (fun U => U.heap.size = sz ∧ va_P (dC, dI) vwCl (WX hX aX kX hT hM fX_ready fX_sheet dX_sheet nX_sheet iX_sheetLength xX_reader xX_solver xX_prover xX_values xX_clauses xX_nets) U.heap ∧ va_K (dC, dI) vwCl (tX kX) U ∧ va_D (fun _ => True) (WX hX aX kX hT hM fX_ready fX_sheet dX_sheet nX_sheet iX_sheetLength xX_reader xX_solver xX_prover xX_values xX_clauses xX_nets))) (va_Qv (fun (u : (Nat → Int32) × (Nat) × (Nat) × (Int32)) => (∀ q : Nat, (-128) ≤ ((u.1) q).toInt ∧ ((u.1) q).toInt ≤ 127) ∧ (64 ≤ (u.2.2.1) ∧ (u.2.2.1) ≤ 60000) ∧ (0 ≤ (u.2.2.2).toInt ∧ (u.2.2.2).toInt ≤ 30000) ∧ ((u.2.2.2).toInt ≤ (((u.2.2.1) : Nat) : Int)) ∧ (nX_sheet ≤ (u.2.2.1)) ∧ (iX_sheetLength.toInt ≤ (u.2.2.2).toInt)) (fun (u : (Nat → Int32) × (Nat) × (Nat) × (Int32)) t => va_P (dC, dI) vwCl (WX hX aX kX hT hM fX_ready (u.1) (u.2.1) (u.2.2.1) (u.2.2.2) xX_reader xX_solver xX_prover xX_values xX_clauses xX_nets) t.heap ∧ va_D (va_A (WX hX aX kX hT hM fX_ready fX_sheet dX_sheet nX_sheet iX_sheetLength xX_reader xX_solver xX_prover xX_values xX_clauses xX_nets) sz) (WX hX aX kX hT hM fX_ready (u.1) (u.2.1) (u.2.2.1) (u.2.2.2) xX_reader xX_solver xX_prover xX_values xX_clauses xX_nets) ∧ t.heap.size + (nX_sheet / 32) ≤ sz + ((u.2.2.1) / 32) ∧ nS sz t.heap + (2 * nX_sheet) ≤ (2 * (u.2.2.1))) (va_A (WX hX aX kX hT hM fX_ready fX_sheet dX_sheet nX_sheet iX_sheetLength xX_reader xX_solver xX_prover xX_values xX_clauses xX_nets) sz)) 1876 180000 (va_A (WX hX aX kX hT hM fX_ready fX_sheet dX_sheet nX_sheet iX_sheetLength xX_reader xX_solver xX_prover xX_values xX_clauses xX_nets) sz) := by
  refine Met.ofW (cc := cX11_put) (maxL := 2) (ret := none) (by decide) rfl ?_
  intro p e s m args below meth c s₁ B hml hv
  obtain ⟨rfl, hsz, hP, hK, hD0⟩ := hv
  have hx := B.exec
  have hb := B.bytes
  have hr := B.returns
  have hts := atoms_spec (ws := wsMX11_put) B.pre
  have hown : s.vm.findClass RX11 = some m.cls := findClass_of_methodNamed B.named
  have hlocks := B.notSynchronized
  subst hsz
  have hD := hD0.self (sz := s.heap.size)
  generalize hAe : va_A (WX hX aX kX hT hM fX_ready fX_sheet dX_sheet nX_sheet iX_sheetLength xX_reader xX_solver xX_prover xX_values xX_clauses xX_nets) s.heap.size = A at hD ⊢
  have hA : ∀ q : Nat, s.heap.size ≤ q → A q := fun q h => by rw [← hAe]; exact Or.inr h
  have hS : va_S A s.heap s.heap [] := va_S.rf
  have hl := lv_entry ([.ref (hX 0), .int p1]) (n := 2) (Nat.le_of_ble_eq_true rfl)
  rw [lg_entry_eq]
  generalize (lg_sl ([.ref (hX 0), .int p1]) ++ List.replicate (2 - (lg_sl ([.ref (hX 0), .int p1])).length) Slot.unset).toArray = ls at hl ⊢
  have hl : lv_has ls 2 [(0, .ref (hX 0)), (1, .int p1)] := hl
  refine W.widen (k := (nX_sheet / 32 - (nX_sheet / 32))) (n := (2 * nX_sheet - (2 * nX_sheet))) (Nat.zero_le _) (Nat.zero_le _) ?_
  refine lv_aload_n hx hb dX11_put_0 rfl (lv_at hl 0 rfl) ?_
  refine va_get (D := (dC, dI)) (ci := 11) (v := .int iX_sheetLength) (C := RX11) (T := TX11) (N := 11) hx hb hts iwsMX11_put_in11 hown hK hP 0 rfl rfl 4 (by decide) (hts (.fieldLink RX11 138 "OptimaWorks" "sheetLength" "I") (by decide +kernel)) (fun _ h9 => h9) rfl dX11_put_1 ?_
  refine lv_sipush (v := 30000) hx hb dX11_put_4 (by decide) ?_
  refine lv_icmp_lt (tgt := 11) hx hb dX11_put_7 (by decide) (fun c_7 => ?_) (fun c_7 => ?_)
  · have t_7 : iX_sheetLength.toInt < 30000 := toI_lt c_7 rfl (by decide : (30000 : Int32).toInt = 30000)
    refine lv_aload_n hx hb dX11_put_11 rfl (lv_at hl 0 rfl) ?_
    refine va_get (D := (dC, dI)) (ci := 11) (v := .int iX_sheetLength) (C := RX11) (T := TX11) (N := 11) hx hb hts iwsMX11_put_in11 hown hK hP 0 rfl rfl 4 (by decide) (hts (.fieldLink RX11 138 "OptimaWorks" "sheetLength" "I") (by decide +kernel)) (fun _ h9 => h9) rfl dX11_put_12 ?_
    refine lv_aload_n hx hb dX11_put_15 rfl (lv_at hl 0 rfl) ?_
    refine va_get (D := (dC, dI)) (ci := 11) (v := .ref dX_sheet) (C := RX11) (T := TX11) (N := 11) hx hb hts iwsMX11_put_in11 hown hK hP 0 rfl rfl 3 (by decide) (hts (.fieldLink RX11 27 "OptimaWorks" "sheet" "[B") (by decide +kernel)) (fun _ h9 => h9) rfl dX11_put_16 ?_
    refine va_alen hx hb hK hP 2 1 rfl rfl (v := (iI ((nX_sheet : Nat) : Int))) (iI_nat _) dX11_put_19 ?_
    refine W.known (fun hzk hnk => ?_)
    refine W.widen (k := 1875) (n := 120000) (by omega) (by omega) ?_
    refine W.cut (pc := 41) (fun H locs ls stk => ∃ (fX_sheet_j2 : Nat → Int32) (dX_sheet_j2 : Nat) (nX_sheet_j2 : Nat), (∀ q : Nat, (-128) ≤ (fX_sheet_j2 q).toInt ∧ (fX_sheet_j2 q).toInt ≤ 127) ∧ (64 ≤ nX_sheet_j2 ∧ nX_sheet_j2 ≤ 60000) ∧ (iX_sheetLength.toInt ≤ ((nX_sheet_j2 : Nat) : Int)) ∧ (iX_sheetLength.toInt < ((nX_sheet_j2 : Nat) : Int)) ∧ (nX_sheet ≤ nX_sheet_j2) ∧ (H.size + (nX_sheet / 32) ≤ s.heap.size + (nX_sheet_j2 / 32) ∧ nS s.heap.size H + (2 * nX_sheet) ≤ (2 * nX_sheet_j2)) ∧  stk = [] ∧ va_P (dC, dI) vwCl (WX hX aX kX hT hM fX_ready fX_sheet_j2 dX_sheet_j2 nX_sheet_j2 iX_sheetLength xX_reader xX_solver xX_prover xX_values xX_clauses xX_nets) H ∧ va_D A (WX hX aX kX hT hM fX_ready fX_sheet_j2 dX_sheet_j2 nX_sheet_j2 iX_sheetLength xX_reader xX_solver xX_prover xX_values xX_clauses xX_nets) ∧ va_S A s.heap H locs ∧ lv_has ls 2 [(0, .ref (hX 0)), (1, .int p1)]) (fun join2 => ?_) ?_
    · refine W.tight (cells2 := (nX_sheet / 32 - (nX_sheet / 32))) (slots2 := (2 * nX_sheet - (2 * nX_sheet))) hzk hnk ?_
      refine lv_icmp_lt (tgt := 41) hx hb dX11_put_20 (by decide) (fun c_20 => ?_) (fun c_20 => ?_)
      · first | (have t_20 : iX_sheetLength.toInt < ((nX_sheet : Nat) : Int) := toI_lt c_20 rfl (iI_t (by omega) (by omega))) | skip
        have hl : lv_has _ _ ([(0, .ref (hX 0)), (1, .int p1)]) := lv_sub hl [0, 1] rfl
        refine W.known (fun hza hna => ?_)
        refine W.widen (k := 1875) (n := 120000) (by omega) (by omega) ?_
        exact join2 _ _ _ _ ⟨fX_sheet, dX_sheet, nX_sheet, b_fX_sheet, (by first | exact b_nX_sheet | assumption | exact ⟨by omega, by omega⟩), (by first | assumption | omega | (rw [iI_t (by omega) (by omega)]; omega) | (have h7 : (0 : Int32).toInt = 0 := (by decide); omega)), (show iX_sheetLength.toInt < ((nX_sheet : Nat) : Int) from by omega), (show nX_sheet ≤ nX_sheet from by omega), ⟨by omega, by omega⟩, rfl, hP, hD, hS, hl⟩
      · first | (have t_20 : ¬ iX_sheetLength.toInt < ((nX_sheet : Nat) : Int) := toI_nlt c_20 rfl (iI_t (by omega) (by omega))) | skip
        refine lv_aload_n hx hb dX11_put_23 rfl (lv_at hl 0 rfl) ?_
        refine lv_aload_n hx hb dX11_put_24 rfl (lv_at hl 0 rfl) ?_
        refine va_get (D := (dC, dI)) (ci := 11) (v := .ref dX_sheet) (C := RX11) (T := TX11) (N := 11) hx hb hts iwsMX11_put_in11 hown hK hP 0 rfl rfl 3 (by decide) (hts (.fieldLink RX11 27 "OptimaWorks" "sheet" "[B") (by decide +kernel)) (fun _ h9 => h9) rfl dX11_put_25 ?_
        refine lv_aload_n hx hb dX11_put_28 rfl (lv_at hl 0 rfl) ?_
        refine va_get (D := (dC, dI)) (ci := 11) (v := .ref dX_sheet) (C := RX11) (T := TX11) (N := 11) hx hb hts iwsMX11_put_in11 hown hK hP 0 rfl rfl 3 (by decide) (hts (.fieldLink RX11 27 "OptimaWorks" "sheet" "[B") (by decide +kernel)) (fun _ h9 => h9) rfl dX11_put_29 ?_
        refine va_alen hx hb hK hP 2 1 rfl rfl (v := (iI ((nX_sheet : Nat) : Int))) (iI_nat _) dX11_put_32 ?_
        refine lv_iconst (v := 2) hx hb dX11_put_33 (by decide) ?_
        refine lv_imul hx hb dX11_put_34 ?_
        refine lv_topi (fun y3 hy3 => ?_)
        obtain rfl : (iI (((nX_sheet : Nat) : Int) * 2)) = y3 := (hy3.trans (iI_mul2 rfl (by decide : (2 : Int32) = iI 2))).symm
        obtain ⟨nn4, hnn4⟩ : ∃ k9 : Nat, (k9 : Int) = (((nX_sheet : Nat) : Int) * 2) := ⟨((((nX_sheet : Nat) : Int) * 2)).toNat, by omega⟩
        have hPc : va_P (dC, dI) vwCl (WH (fun _ => 0) (fun _ => dX_sheet) (fun _ => kX 1) nX_sheet fX_sheet) _ := hP.sub [2] rfl
        have hDc : va_D _ (WH (fun _ => 0) (fun _ => dX_sheet) (fun _ => kX 1) nX_sheet fX_sheet) := hD.sub [2] (by decide) rfl
        have hKc : va_K (dC, dI) vwCl (tH (fun _ => kX 1)) _ := hK.sub [1] rfl
        have hFc := va_free (wc := WH (fun _ => 0) (fun _ => dX_sheet) (fun _ => kX 1) nX_sheet fX_sheet) hD hS hA [2] rfl
        refine va_callr (va_runS (As := [.ref dX_sheet, .int (iI (((nX_sheet : Nat) : Int) * 2))]) (rest := [.ref (hX 0)]) ⟨hx, hb, hml, hown, hts⟩ (m_J7_copyOf_9075b l dC dI (fun _ => 0) (fun _ => dX_sheet) (fun _ => kX 1) nX_sheet fX_sheet (iI (((nX_sheet : Nat) : Int) * 2)) nn4 ⟨by omega, by omega⟩ b_fX_sheet ((iI_t (by omega) (by omega)).trans hnn4.symm) (by omega) (by omega) s.heap.size) (va_cwS 2 hts gwsMX11_put_0 rfl rfl rfl (by decide +kernel) ⟨(by (dsimp only [headSpec] <;> omega)), (by (dsimp only [headSpec] <;> omega))⟩) ⟨fun a U g mk q => by obtain ⟨q0, q1, qP, qK, qD⟩ := q; exact ⟨q0, q1, qP, va_K.moved (u := U) (U := U.calling g mk a) (Vm.Alike.refl U.vm) qK, qD⟩, fun U hU9 hW => ⟨rfl, by rw [hU9], by rw [hU9]; exact hPc, va_K.moved hW.alike hKc, hDc.weaken (fun _ _ _ _ => trivial)⟩⟩ rfl rfl hl.1 rfl (lv_room (Nat.le_of_ble_eq_true rfl)) dX11_put_35 ⟨(by (dsimp only [headSpec] <;> omega)), (by (dsimp only [headSpec] <;> omega))⟩) hS (fun q _ h => hFc q h) hFc (fun uC4 ra4 t9_ H locs ht hvm hw9 hB9 hz1 hk1 hS => ?_)
        obtain ⟨hP, hD⟩ := va_join (wr := [(hX 0, .inr (11, [.ref (aX 0), .ref (hT 0), .ref (hM 0), .ref dX_sheet, .int iX_sheetLength, xX_reader, xX_solver, xX_prover, xX_values, xX_clauses, xX_nets])), (aX 0, .inl (kX 0, 5, .inl fX_ready))]) (w1 := [(dX_sheet, .inl (kX 1, nX_sheet, .inl fX_sheet)), (ra4, .inl (kX 1, nn4, .inl uC4))]) hP hD [2] [0, 1] rfl rfl (by decide) (by decide) hk1 hFc (fz_P ht hB9.1) hB9.2
        have hP : va_P (dC, dI) vwCl ((WX hX aX kX hT hM fX_ready fX_sheet dX_sheet nX_sheet iX_sheetLength xX_reader xX_solver xX_prover xX_values xX_clauses xX_nets) ++ [(ra4, .inl (kX 1, nn4, .inl uC4))]) H := hP.sub [0, 1, 2, 3] rfl
        have hD : va_D A ((WX hX aX kX hT hM fX_ready fX_sheet dX_sheet nX_sheet iX_sheetLength xX_reader xX_solver xX_prover xX_values xX_clauses xX_nets) ++ [(ra4, .inl (kX 1, nn4, .inl uC4))]) := hD.sub [0, 1, 2, 3] (by decide) rfl
        have b_uC4 := hw9
        refine va_put (D := (dC, dI)) (ci := 11) (v := .ref ra4) (ty := .array .byte) (C := RX11) (T := TX11) (N := 11) hx hb hts iwsMX11_put_in11 tyX11 tyX11_ok nmX11 hown hK hP hD hS 0 rfl rfl 3 (by decide) (hts (.fieldLink RX11 27 "OptimaWorks" "sheet" "[B") (by decide +kernel)) (fun _ h9 => h9) rfl (by decide +kernel) rfl rfl (Nat.le_of_ble_eq_true rfl) dX11_put_38 (fun H locs hP hD hS => ?_)
        have hP : va_P (dC, dI) vwCl (WX hX aX kX hT hM fX_ready uC4 ra4 nn4 iX_sheetLength xX_reader xX_solver xX_prover xX_values xX_clauses xX_nets) _ := hP.sub [0, 1, 3] rfl
        have hD : va_D _ (WX hX aX kX hT hM fX_ready uC4 ra4 nn4 iX_sheetLength xX_reader xX_solver xX_prover xX_values xX_clauses xX_nets) := hD.sub [0, 1, 3] (by decide) rfl
        have hP : va_P (dC, dI) vwCl (WX hX aX kX hT hM fX_ready uC4 ra4 nn4 iX_sheetLength xX_reader xX_solver xX_prover xX_values xX_clauses xX_nets) H := hP
        have hD : va_D A (WX hX aX kX hT hM fX_ready uC4 ra4 nn4 iX_sheetLength xX_reader xX_solver xX_prover xX_values xX_clauses xX_nets) := hD
        refine W.widen (k := (nn4 / 32 - (nX_sheet / 32))) (n := (2 * nn4 - (2 * nX_sheet))) (by omega) (by omega) ?_
        have hl : lv_has _ _ ([(0, .ref (hX 0)), (1, .int p1)]) := lv_sub hl [0, 1] rfl
        refine W.known (fun hza hna => ?_)
        refine W.widen (k := 1875) (n := 120000) (by omega) (by omega) ?_
        exact join2 _ _ _ _ ⟨uC4, ra4, nn4, b_uC4, (by first | exact b_nn4 | assumption | exact ⟨by omega, by omega⟩), (by first | assumption | omega | (rw [iI_t (by omega) (by omega)]; omega) | (have h7 : (0 : Int32).toInt = 0 := (by decide); omega)), (show iX_sheetLength.toInt < ((nn4 : Nat) : Int) from by omega), (show nX_sheet ≤ nn4 from by omega), ⟨by omega, by omega⟩, rfl, hP, hD, hS, hl⟩
    · rintro H locs ls stk ⟨fX_sheet_j2, dX_sheet_j2, nX_sheet_j2, b_fX_sheet_j2, b_nX_sheet_j2, b_shl_j2, hjn, hgm0_j2, ⟨hzj, hnj⟩, rfl, hP, hD, hS, hl⟩
      refine W.tight (cells2 := (nX_sheet_j2 / 32 - (nX_sheet / 32))) (slots2 := (2 * nX_sheet_j2 - (2 * nX_sheet))) (tg1 hzj hS.1) (tg2 hnj) ?_
      refine lv_aload_n hx hb dX11_put_41 rfl (lv_at hl 0 rfl) ?_
      refine va_get (D := (dC, dI)) (ci := 11) (v := .ref dX_sheet_j2) (C := RX11) (T := TX11) (N := 11) hx hb hts iwsMX11_put_in11 hown hK hP 0 rfl rfl 3 (by decide) (hts (.fieldLink RX11 27 "OptimaWorks" "sheet" "[B") (by decide +kernel)) (fun _ h9 => h9) rfl dX11_put_42 ?_
      refine lv_aload_n hx hb dX11_put_45 rfl (lv_at hl 0 rfl) ?_
      refine va_get (D := (dC, dI)) (ci := 11) (v := .int iX_sheetLength) (C := RX11) (T := TX11) (N := 11) hx hb hts iwsMX11_put_in11 hown hK hP 0 rfl rfl 4 (by decide) (hts (.fieldLink RX11 138 "OptimaWorks" "sheetLength" "I") (by decide +kernel)) (fun _ h9 => h9) rfl dX11_put_46 ?_
      refine lv_iload_n hx hb dX11_put_49 rfl (lv_at hl 1 rfl) ?_
      refine lv_i2b hx hb dX11_put_50 rfl ?_
      refine lv_topi (fun v5 hv5 => ?_)
      clear hv5
      refine va_bast (cA := kX 1) (n := nX_sheet_j2) (f := fX_sheet_j2) hx hb hK hP hD hS 2 1 rfl rfl (vp_in_iff.mpr ⟨b_iX_sheetLength.1, (by omega)⟩) dX11_put_51 (fun H locs hP hD hS => ?_)
      obtain ⟨u6, hu6⟩ : ∃ f9, f9 = upd fX_sheet_j2 (iX_sheetLength).toNatClampNeg (vp_nar FieldType.byte v5) := ⟨_, rfl⟩
      have hP : va_P (dC, dI) vwCl (WX hX aX kX hT hM fX_ready u6 dX_sheet_j2 nX_sheet_j2 iX_sheetLength xX_reader xX_solver xX_prover xX_values xX_clauses xX_nets) H := by rw [hu6]; exact hP
      have hD : va_D A (WX hX aX kX hT hM fX_ready u6 dX_sheet_j2 nX_sheet_j2 iX_sheetLength xX_reader xX_solver xX_prover xX_values xX_clauses xX_nets) := by rw [hu6]; exact hD
      have b_u6 : ∀ q : Nat, (-128) ≤ (u6 q).toInt ∧ (u6 q).toInt ≤ 127 := by rw [hu6]; exact updb_r b_fX_sheet_j2
      clear hu6
      refine lv_aload_n hx hb dX11_put_52 rfl (lv_at hl 0 rfl) ?_
      refine lv_dup hx hb dX11_put_53 rfl ?_
      refine va_get (D := (dC, dI)) (ci := 11) (v := .int iX_sheetLength) (C := RX11) (T := TX11) (N := 11) hx hb hts iwsMX11_put_in11 hown hK hP 0 rfl rfl 4 (by decide) (hts (.fieldLink RX11 138 "OptimaWorks" "sheetLength" "I") (by decide +kernel)) (fun _ h9 => h9) rfl dX11_put_54 ?_
      refine lv_iconst (v := 1) hx hb dX11_put_57 (by decide) ?_
      refine lv_iadd hx hb dX11_put_58 ?_
      refine lv_topi (fun y7 hy7 => ?_)
      obtain rfl : (iI (iX_sheetLength.toInt + 1)) = y7 := (hy7.trans (iI_add2 (iI_of _) (by decide : (1 : Int32) = iI 1))).symm
      refine va_put (D := (dC, dI)) (ci := 11) (v := .int (iI (iX_sheetLength.toInt + 1))) (ty := .int) (C := RX11) (T := TX11) (N := 11) hx hb hts iwsMX11_put_in11 tyX11 tyX11_ok nmX11 hown hK hP hD hS 0 rfl rfl 4 (by decide) (hts (.fieldLink RX11 138 "OptimaWorks" "sheetLength" "I") (by decide +kernel)) (fun _ h9 => h9) rfl (by decide +kernel) rfl rfl (Nat.le_of_ble_eq_true rfl) dX11_put_59 (fun H locs hP hD hS => ?_)
      have hP : va_P (dC, dI) vwCl (WX hX aX kX hT hM fX_ready u6 dX_sheet_j2 nX_sheet_j2 (iI (iX_sheetLength.toInt + 1)) xX_reader xX_solver xX_prover xX_values xX_clauses xX_nets) H := hP
      have hD : va_D A (WX hX aX kX hT hM fX_ready u6 dX_sheet_j2 nX_sheet_j2 (iI (iX_sheetLength.toInt + 1)) xX_reader xX_solver xX_prover xX_values xX_clauses xX_nets) := hD
      refine W.known (fun hz9 hn9 => ?_)
      refine W.widen (k := 1876) (n := 180000) (by omega) (by omega) ?_
      exact W.vret hx hb hr (fun t9_ ht hW => ⟨⟨(u6, dX_sheet_j2, nX_sheet_j2, (iI (iX_sheetLength.toInt + 1))), rfl, ⟨b_u6, (by (try dsimp only); exact (by first | exact b_nX_sheet_j2 | assumption | exact ⟨by omega, by omega⟩)), (by (try dsimp only); exact (iI_rng (Int.le_trans (by decide) (Int.add_le_add (b_iX_sheetLength.1) (Int.le_refl _))) (by omega) (by decide) (by decide))), (by (try dsimp only); exact (by first | assumption | omega | (rw [iI_t (by omega) (by omega)]; omega) | (have h7 : (0 : Int32).toInt = 0 := (by decide); omega))), (by (try dsimp only); omega), (by (try dsimp only); first | omega | (rw [iI_t (by omega) (by omega)]; omega))⟩, by rw [ht]; exact hP, hD, by rw [ht]; (try dsimp only); omega, by rw [ht]; (try dsimp only); omega⟩, hS.F ht⟩) hS.2.2 dX11_put_62
  · have t_7 : ¬ iX_sheetLength.toInt < 30000 := toI_nlt c_7 rfl (by decide : (30000 : Int32).toInt = 30000)
    refine W.known (fun hz9 hn9 => ?_)
    refine W.widen (k := 1876) (n := 180000) (by omega) (by omega) ?_
    exact W.vret hx hb hr (fun t9_ ht hW => ⟨⟨(fX_sheet, dX_sheet, nX_sheet, iX_sheetLength), rfl, ⟨b_fX_sheet, (by (try dsimp only); exact (by first | exact b_nX_sheet | assumption | exact ⟨by omega, by omega⟩)), (by (try dsimp only); exact (b_iX_sheetLength)), (by (try dsimp only); exact (by first | assumption | omega | (rw [iI_t (by omega) (by omega)]; omega) | (have h7 : (0 : Int32).toInt = 0 := (by decide); omega))), (by (try dsimp only); omega), (by (try dsimp only); first | omega | (rw [iI_t (by omega) (by omega)]; omega))⟩, by rw [ht]; exact hP, hD, by rw [ht]; (try dsimp only); omega, by rw [ht]; (try dsimp only); omega⟩, hS.F ht⟩) hS.2.2 dX11_put_10
theorem dX11_turnRound_0 : decode cX11_turnRound 0 = .ok (.iload_n 1, 1) := dk_27 (by decide +kernel)
theorem dX11_turnRound_1 : decode cX11_turnRound 1 = .ok (.istore_n 2, 1) := dk_61 (by decide +kernel)
theorem dX11_turnRound_2 : decode cX11_turnRound 2 = .ok (.aload_n 0, 1) := dk_42 (by decide +kernel)
theorem dX11_turnRound_3 : decode cX11_turnRound 3 = .ok (.getfield 138, 3) := dk_180 (by decide +kernel)
theorem dX11_turnRound_6 : decode cX11_turnRound 6 = .ok (.iconst 1, 1) := dk_4 (by decide +kernel)
theorem dX11_turnRound_7 : decode cX11_turnRound 7 = .ok (.isub, 1) := dk_100 (by decide +kernel)
theorem dX11_turnRound_8 : decode cX11_turnRound 8 = .ok (.istore_n 3, 1) := dk_62 (by decide +kernel)
theorem dX11_turnRound_9 : decode cX11_turnRound 9 = .ok (.iload_n 2, 1) := dk_28 (by decide +kernel)
theorem dX11_turnRound_10 : decode cX11_turnRound 10 = .ok (.iload_n 3, 1) := dk_29 (by decide +kernel)
theorem dX11_turnRound_11 : decode cX11_turnRound 11 = .ok (.if_icmp .ge 40, 3) := dk_162 (by decide +kernel)
theorem dX11_turnRound_14 : decode cX11_turnRound 14 = .ok (.aload_n 0, 1) := dk_42 (by decide +kernel)
theorem dX11_turnRound_15 : decode cX11_turnRound 15 = .ok (.getfield 27, 3) := dk_180 (by decide +kernel)
theorem dX11_turnRound_18 : decode cX11_turnRound 18 = .ok (.iload_n 2, 1) := dk_28 (by decide +kernel)
theorem dX11_turnRound_19 : decode cX11_turnRound 19 = .ok (.baload, 1) := dk_51 (by decide +kernel)
theorem dX11_turnRound_20 : decode cX11_turnRound 20 = .ok (.istore 4, 2) := dk_54 (by decide +kernel)
theorem dX11_turnRound_22 : decode cX11_turnRound 22 = .ok (.aload_n 0, 1) := dk_42 (by decide +kernel)
theorem dX11_turnRound_23 : decode cX11_turnRound 23 = .ok (.getfield 27, 3) := dk_180 (by decide +kernel)
theorem dX11_turnRound_26 : decode cX11_turnRound 26 = .ok (.iload_n 2, 1) := dk_28 (by decide +kernel)
theorem dX11_turnRound_27 : decode cX11_turnRound 27 = .ok (.aload_n 0, 1) := dk_42 (by decide +kernel)
theorem dX11_turnRound_28 : decode cX11_turnRound 28 = .ok (.getfield 27, 3) := dk_180 (by decide +kernel)
theorem dX11_turnRound_31 : decode cX11_turnRound 31 = .ok (.iload_n 3, 1) := dk_29 (by decide +kernel)
theorem dX11_turnRound_32 : decode cX11_turnRound 32 = .ok (.baload, 1) := dk_51 (by decide +kernel)
theorem dX11_turnRound_33 : decode cX11_turnRound 33 = .ok (.bastore, 1) := dk_84 (by decide +kernel)
theorem dX11_turnRound_34 : decode cX11_turnRound 34 = .ok (.aload_n 0, 1) := dk_42 (by decide +kernel)
theorem dX11_turnRound_35 : decode cX11_turnRound 35 = .ok (.getfield 27, 3) := dk_180 (by decide +kernel)
theorem dX11_turnRound_38 : decode cX11_turnRound 38 = .ok (.iload_n 3, 1) := dk_29 (by decide +kernel)
theorem dX11_turnRound_39 : decode cX11_turnRound 39 = .ok (.iload 4, 2) := dk_21 (by decide +kernel)
theorem dX11_turnRound_41 : decode cX11_turnRound 41 = .ok (.bastore, 1) := dk_84 (by decide +kernel)
theorem dX11_turnRound_42 : decode cX11_turnRound 42 = .ok (.iinc 2 1, 3) := dk_132 (by decide +kernel)
theorem dX11_turnRound_45 : decode cX11_turnRound 45 = .ok (.iinc 3 (-1), 3) := dk_132 (by decide +kernel)
theorem dX11_turnRound_48 : decode cX11_turnRound 48 = .ok (.goto (-39), 3) := dk_167 (by decide +kernel)
theorem dX11_turnRound_51 : decode cX11_turnRound 51 = .ok (.return_, 1) := dk_177 (by decide +kernel)
def wsMX11_turnRound : List Cond := .code yX11_turnRound cX11_turnRound 5 none :: ([.fieldLink RX11 138 "OptimaWorks" "sheetLength" "I", .fieldLink RX11 27 "OptimaWorks" "sheet" "[B"] ++ wsX110)
theorem iwsMX11_turnRound_in11 : ∀ w ∈ wsX110, w ∈ wsMX11_turnRound := fun _ h => List.mem_cons_of_mem _ (List.mem_append_right _ h)
theorem gdwsMX11_turnRound : wsMX11_turnRound.all goodWord = true := gdC rfl (gdA (by decide +kernel : ([.fieldLink RX11 138 "OptimaWorks" "sheetLength" "I", .fieldLink RX11 27 "OptimaWorks" "sheet" "[B"] : List Cond).all goodWord = true) gdwsX110)
set_option maxHeartbeats 4000000 in
set_option maxRecDepth 100000 in
/-- digits turned round -/
theorem m_X11_turnRound (l : Launch) (dC : Nat → ClassId) (dI : Nat → Nat → Nat) (hX : Nat → Nat) (aX : Nat → Nat) (kX : Nat → ClassId) (hT : Nat → Nat) (hM : Nat → Nat) (fX_ready : Nat → Int32) (fX_sheet : Nat → Int32) (dX_sheet : Nat) (nX_sheet : Nat) (iX_sheetLength : Int32) (xX_reader : Value) (xX_solver : Value) (xX_prover : Value) (xX_values : Value) (xX_clauses : Value) (xX_nets : Value) (p1 : Int32) (b_fX_sheet : ∀ q : Nat, (-128) ≤ (fX_sheet q).toInt ∧ (fX_sheet q).toInt ≤ 127) (b_nX_sheet : 64 ≤ nX_sheet ∧ nX_sheet ≤ 60000) (b_iX_sheetLength : 0 ≤ iX_sheetLength.toInt ∧ iX_sheetLength.toInt ≤ 30000) (b_shl : iX_sheetLength.toInt ≤ ((nX_sheet : Nat) : Int)) (b_p1 : 0 ≤ p1.toInt ∧ p1.toInt ≤ 30000) (sz : Nat) : Met l yX11_turnRound wsMX11_turnRound ({ frames := 0, cells := 0, slots := 0, locals := 0 }) (va_Pc [.ref (hX 0), .int p1] (fun U => U.heap.size = sz ∧ va_P (dC, dI) vwCl (WX hX aX kX hT hM fX_ready fX_sheet dX_sheet nX_sheet iX_sheetLength xX_reader xX_solver xX_prover xX_values xX_clauses xX_nets) U.heap ∧ va_K (dC, dI) vwCl (tX kX) U ∧ va_D (fun _ => True) (WX hX aX kX hT hM fX_ready fX_sheet dX_sheet nX_sheet iX_sheetLength xX_reader xX_solver xX_prover xX_values xX_clauses xX_nets))) (va_Qv (fun (u : Nat → Int32) => (∀ q : Nat, (-128) ≤ (u q).toInt ∧ (u q).toInt ≤ 127)) (fun (u : Nat → Int32) t => va_P (dC, dI) vwCl (WX hX aX kX hT hM fX_ready u dX_sheet nX_sheet iX_sheetLength xX_reader xX_solver xX_prover xX_values xX_clauses xX_nets) t.heap ∧ va_D (va_A (WX hX aX kX hT hM fX_ready fX_sheet dX_sheet nX_sheet iX_sheetLength xX_reader xX_solver xX_prover xX_values xX_clauses xX_nets) sz) (WX hX aX kX hT hM fX_ready u dX_sheet nX_sheet iX_sheetLength xX_reader xX_solver xX_prover xX_values xX_clauses xX_nets)) (va_A (WX hX aX kX hT hM fX_ready fX_sheet dX_sheet nX_sheet iX_sheetLength xX_reader xX_solver xX_prover xX_values xX_clauses xX_nets) sz)) 0 0 (va_A (WX hX aX kX hT hM fX_ready fX_sheet dX_sheet nX_sheet iX_sheetLength xX_reader xX_solver xX_prover xX_values xX_clauses xX_nets) sz) := by
  refine Met.ofW (cc := cX11_turnRound) (maxL := 5) (ret := none) (by decide) rfl ?_
  intro p e s m args below meth c s₁ B hml hv
  obtain ⟨rfl, hsz, hP, hK, hD0⟩ := hv
  have hx := B.exec
  have hb := B.bytes
  have hr := B.returns
  have hts := atoms_spec (ws := wsMX11_turnRound) B.pre
  have hown : s.vm.findClass RX11 = some m.cls := findClass_of_methodNamed B.named
  have hlocks := B.notSynchronized
  subst hsz
  have hD := hD0.self (sz := s.heap.size)
  generalize hAe : va_A (WX hX aX kX hT hM fX_ready fX_sheet dX_sheet nX_sheet iX_sheetLength xX_reader xX_solver xX_prover xX_values xX_clauses xX_nets) s.heap.size = A at hD ⊢
  have hA : ∀ q : Nat, s.heap.size ≤ q → A q := fun q h => by rw [← hAe]; exact Or.inr h
  have hS : va_S A s.heap s.heap [] := va_S.rf
  have hl := lv_entry ([.ref (hX 0), .int p1]) (n := 5) (Nat.le_of_ble_eq_true rfl)
  rw [lg_entry_eq]
  generalize (lg_sl ([.ref (hX 0), .int p1]) ++ List.replicate (5 - (lg_sl ([.ref (hX 0), .int p1])).length) Slot.unset).toArray = ls at hl ⊢
  have hl : lv_has ls 5 [(0, .ref (hX 0)), (1, .int p1)] := hl
  refine lv_iload_n hx hb dX11_turnRound_0 rfl (lv_at hl 1 rfl) ?_
  refine lv_istore_n hx hb dX11_turnRound_1 rfl hl (by decide) rfl (fun ls (hl : lv_has ls _ ([(2, .int p1), (0, .ref (hX 0)), (1, .int p1)])) => ?_)
  refine lv_aload_n hx hb dX11_turnRound_2 rfl (lv_at hl 1 rfl) ?_
  refine va_get (D := (dC, dI)) (ci := 11) (v := .int iX_sheetLength) (C := RX11) (T := TX11) (N := 11) hx hb hts iwsMX11_turnRound_in11 hown hK hP 0 rfl rfl 4 (by decide) (hts (.fieldLink RX11 138 "OptimaWorks" "sheetLength" "I") (by decide +kernel)) (fun _ h9 => h9) rfl dX11_turnRound_3 ?_
  refine lv_iconst (v := 1) hx hb dX11_turnRound_6 (by decide) ?_
  refine lv_isub hx hb dX11_turnRound_7 ?_
  refine lv_topi (fun y1 hy1 => ?_)
  obtain rfl : (iI (iX_sheetLength.toInt - 1)) = y1 := (hy1.trans (iI_sub2 (iI_of _) (by decide : (1 : Int32) = iI 1))).symm
  refine lv_istore_n hx hb dX11_turnRound_8 rfl hl (by decide) rfl (fun ls (hl : lv_has ls _ ([(3, .int (iI (iX_sheetLength.toInt - 1))), (2, .int p1), (0, .ref (hX 0)), (1, .int p1)])) => ?_)
  have hl : lv_has _ _ ([(3, .int (iI (iX_sheetLength.toInt - 1))), (2, .int p1), (0, .ref (hX 0)), (1, .int p1)]) := lv_sub hl [0, 1, 2, 3] rfl
  refine (fun (loop : ∀ (n9 : Nat) (fX_sheet_x9 : Nat → Int32) (l3_x9 : Int32) (l2_x9 : Int32) (H : Heap) (locs : List Loc) (ls : Array Slot), (∀ q : Nat, (-128) ≤ (fX_sheet_x9 q).toInt ∧ (fX_sheet_x9 q).toInt ≤ 127) → ((-1) ≤ l3_x9.toInt ∧ l3_x9.toInt ≤ 29999) → (0 ≤ l2_x9.toInt ∧ l2_x9.toInt ≤ 30001) → (l3_x9.toInt < iX_sheetLength.toInt) → (30001 - l2_x9.toInt < ((n9 : Nat) : Int)) → va_P (dC, dI) vwCl (WX hX aX kX hT hM fX_ready fX_sheet_x9 dX_sheet nX_sheet iX_sheetLength xX_reader xX_solver xX_prover xX_values xX_clauses xX_nets) H → va_D A (WX hX aX kX hT hM fX_ready fX_sheet_x9 dX_sheet nX_sheet iX_sheetLength xX_reader xX_solver xX_prover xX_values xX_clauses xX_nets) → va_S A s.heap H locs → lv_has ls 5 [(3, .int l3_x9), (2, .int l2_x9), (0, .ref (hX 0)), (1, .int p1)] → W p l e _ s m _ below meth c H locs 0 0 _ (F0 m 9 ls [])) => loop (30002) fX_sheet (iI (iX_sheetLength.toInt - 1)) p1 _ _ _ b_fX_sheet (iI_rng (Int.le_trans (by decide) (Int.sub_le_sub (b_iX_sheetLength.1) (Int.le_refl _))) (Int.le_trans (Int.sub_le_sub (b_iX_sheetLength.2) (Int.le_refl _)) (by decide)) (by decide) (by decide)) (⟨b_p1.1, Int.le_trans b_p1.2 (by decide)⟩) (show (iI (iX_sheetLength.toInt - 1)).toInt < iX_sheetLength.toInt from by rw [iI_t (by omega) (by omega)]; omega) ((by have e9 : (p1).toInt = p1.toInt := rfl; omega)) hP hD hS hl) ?_
  intro n9
  induction n9 with
  | zero => intro fX_sheet_x9 l3_x9 l2_x9 H locs ls b_fX_sheet_x9 b_l3_x9 b_l2_x9 hjl hf9; exact False.elim (by omega)
  | succ n9 ihx9 =>
    intro fX_sheet_x9 l3_x9 l2_x9 H locs ls b_fX_sheet_x9 b_l3_x9 b_l2_x9 hjl hfx9 hP hD hS hl
    refine lv_iload_n hx hb dX11_turnRound_9 rfl (lv_at hl 1 rfl) ?_
    refine lv_iload_n hx hb dX11_turnRound_10 rfl (lv_at hl 0 rfl) ?_
    refine lv_icmp_ge (tgt := 51) hx hb dX11_turnRound_11 (by decide) (fun c_11 => ?_) (fun c_11 => ?_)
    · have t_11 : l2_x9.toInt ≥ l3_x9.toInt := toI_ge c_11 rfl rfl
      refine W.widen (k := 0) (n := 0) (by decide +kernel) (by decide +kernel) ?_
      exact W.vret hx hb hr (fun t9_ ht hW => ⟨⟨fX_sheet_x9, rfl, b_fX_sheet_x9, by rw [ht]; exact hP, hD⟩, hS.F ht⟩) hS.2.2 dX11_turnRound_51
    · have t_11 : ¬ l2_x9.toInt ≥ l3_x9.toInt := toI_nge c_11 rfl rfl
      refine lv_aload_n hx hb dX11_turnRound_14 rfl (lv_at hl 2 rfl) ?_
      refine va_get (D := (dC, dI)) (ci := 11) (v := .ref dX_sheet) (C := RX11) (T := TX11) (N := 11) hx hb hts iwsMX11_turnRound_in11 hown hK hP 0 rfl rfl 3 (by decide) (hts (.fieldLink RX11 27 "OptimaWorks" "sheet" "[B") (by decide +kernel)) (fun _ h9 => h9) rfl dX11_turnRound_15 ?_
      refine lv_iload_n hx hb dX11_turnRound_18 rfl (lv_at hl 1 rfl) ?_
      refine va_bald (cA := kX 1) (n := nX_sheet) (f := fX_sheet_x9) hx hb hK hP 2 1 rfl rfl (vp_in_iff.mpr ⟨b_l2_x9.1, (by omega)⟩) dX11_turnRound_19 ?_
      refine lv_topi (fun v22 hv22 => ?_)
      have b_v22 : (-128) ≤ v22.toInt ∧ v22.toInt ≤ 127 := by rw [hv22]; exact b_fX_sheet_x9 _
      clear hv22
      refine lv_istore hx hb dX11_turnRound_20 hl (by decide) rfl (fun ls (hl : lv_has ls _ ([(4, .int v22), (3, .int l3_x9), (2, .int l2_x9), (0, .ref (hX 0)), (1, .int p1)])) => ?_)
      refine lv_aload_n hx hb dX11_turnRound_22 rfl (lv_at hl 3 rfl) ?_
      refine va_get (D := (dC, dI)) (ci := 11) (v := .ref dX_sheet) (C := RX11) (T := TX11) (N := 11) hx hb hts iwsMX11_turnRound_in11 hown hK hP 0 rfl rfl 3 (by decide) (hts (.fieldLink RX11 27 "OptimaWorks" "sheet" "[B") (by decide +kernel)) (fun _ h9 => h9) rfl dX11_turnRound_23 ?_
      refine lv_iload_n hx hb dX11_turnRound_26 rfl (lv_at hl 2 rfl) ?_
      refine lv_aload_n hx hb dX11_turnRound_27 rfl (lv_at hl 3 rfl) ?_
      refine va_get (D := (dC, dI)) (ci := 11) (v := .ref dX_sheet) (C := RX11) (T := TX11) (N := 11) hx hb hts iwsMX11_turnRound_in11 hown hK hP 0 rfl rfl 3 (by decide) (hts (.fieldLink RX11 27 "OptimaWorks" "sheet" "[B") (by decide +kernel)) (fun _ h9 => h9) rfl dX11_turnRound_28 ?_
      refine lv_iload_n hx hb dX11_turnRound_31 rfl (lv_at hl 1 rfl) ?_
      refine va_bald (cA := kX 1) (n := nX_sheet) (f := fX_sheet_x9) hx hb hK hP 2 1 rfl rfl (vp_in_iff.mpr ⟨(by omega), (by omega)⟩) dX11_turnRound_32 ?_
      refine lv_topi (fun v23 hv23 => ?_)
      have b_v23 : (-128) ≤ v23.toInt ∧ v23.toInt ≤ 127 := by rw [hv23]; exact b_fX_sheet_x9 _
      clear hv23
      refine va_bast (cA := kX 1) (n := nX_sheet) (f := fX_sheet_x9) hx hb hK hP hD hS 2 1 rfl rfl (vp_in_iff.mpr ⟨b_l2_x9.1, (by omega)⟩) dX11_turnRound_33 (fun H locs hP hD hS => ?_)
      obtain ⟨u24, hu24⟩ : ∃ f9, f9 = upd fX_sheet_x9 (l2_x9).toNatClampNeg (vp_nar FieldType.byte v23) := ⟨_, rfl⟩
      have hP : va_P (dC, dI) vwCl (WX hX aX kX hT hM fX_ready u24 dX_sheet nX_sheet iX_sheetLength xX_reader xX_solver xX_prover xX_values xX_clauses xX_nets) H := by rw [hu24]; exact hP
      have hD : va_D A (WX hX aX kX hT hM fX_ready u24 dX_sheet nX_sheet iX_sheetLength xX_reader xX_solver xX_prover xX_values xX_clauses xX_nets) := by rw [hu24]; exact hD
      have b_u24 : ∀ q : Nat, (-128) ≤ (u24 q).toInt ∧ (u24 q).toInt ≤ 127 := by rw [hu24]; exact updb_r b_fX_sheet_x9
      clear hu24
      refine lv_aload_n hx hb dX11_turnRound_34 rfl (lv_at hl 3 rfl) ?_
      refine va_get (D := (dC, dI)) (ci := 11) (v := .ref dX_sheet) (C := RX11) (T := TX11) (N := 11) hx hb hts iwsMX11_turnRound_in11 hown hK hP 0 rfl rfl 3 (by decide) (hts (.fieldLink RX11 27 "OptimaWorks" "sheet" "[B") (by decide +kernel)) (fun _ h9 => h9) rfl dX11_turnRound_35 ?_
      refine lv_iload_n hx hb dX11_turnRound_38 rfl (lv_at hl 1 rfl) ?_
      refine lv_iload hx hb dX11_turnRound_39 (lv_at hl 0 rfl) ?_
      refine va_bast (cA := kX 1) (n := nX_sheet) (f := u24) hx hb hK hP hD hS 2 1 rfl rfl (vp_in_iff.mpr ⟨(by omega), (by omega)⟩) dX11_turnRound_41 (fun H locs hP hD hS => ?_)
      obtain ⟨u25, hu25⟩ : ∃ f9, f9 = upd u24 (l3_x9).toNatClampNeg (vp_nar FieldType.byte v22) := ⟨_, rfl⟩
      have hP : va_P (dC, dI) vwCl (WX hX aX kX hT hM fX_ready u25 dX_sheet nX_sheet iX_sheetLength xX_reader xX_solver xX_prover xX_values xX_clauses xX_nets) H := by rw [hu25]; exact hP
      have hD : va_D A (WX hX aX kX hT hM fX_ready u25 dX_sheet nX_sheet iX_sheetLength xX_reader xX_solver xX_prover xX_values xX_clauses xX_nets) := by rw [hu25]; exact hD
      have b_u25 : ∀ q : Nat, (-128) ≤ (u25 q).toInt ∧ (u25 q).toInt ≤ 127 := by rw [hu25]; exact updb_r b_u24
      clear hu25
      refine lv_iinc (v := (iI (l2_x9.toInt + 1))) hx hb dX11_turnRound_42 hl (k := 2) rfl (iI_add2 (iI_of _) (by decide : (1 : Int32) = iI 1)) (by decide) rfl (fun ls (hl : lv_has ls _ ([(2, .int (iI (l2_x9.toInt + 1))), (4, .int v22), (3, .int l3_x9), (0, .ref (hX 0)), (1, .int p1)])) => ?_)
      refine lv_iinc (v := (iI (l3_x9.toInt + (-1)))) hx hb dX11_turnRound_45 hl (k := 2) rfl (iI_add2 (iI_of _) (by decide : ((-1) : Int32) = iI (-1))) (by decide) rfl (fun ls (hl : lv_has ls _ ([(3, .int (iI (l3_x9.toInt + (-1)))), (2, .int (iI (l2_x9.toInt + 1))), (4, .int v22), (0, .ref (hX 0)), (1, .int p1)])) => ?_)
      refine lv_goto (tgt := 9) hx hb dX11_turnRound_48 (by decide) ?_
      have hl : lv_has _ _ ([(3, .int (iI (l3_x9.toInt + (-1)))), (2, .int (iI (l2_x9.toInt + 1))), (0, .ref (hX 0)), (1, .int p1)]) := lv_sub hl [0, 1, 3, 4] rfl
      exact ihx9 u25 (iI (l3_x9.toInt + (-1))) (iI (l2_x9.toInt + 1)) _ _ _ b_u25 (iI_rng (by omega) (Int.le_trans (Int.add_le_add (b_l3_x9.2) (Int.le_refl _)) (by decide)) (by decide) (by decide)) (iI_rng (Int.le_trans (by decide) (Int.add_le_add (b_l2_x9.1) (Int.le_refl _))) (by omega) (by decide) (by decide)) (show (iI (l3_x9.toInt + (-1))).toInt < iX_sheetLength.toInt from by rw [iI_t (by omega) (by omega)]; omega) (by have e9 : ((iI (l2_x9.toInt + 1))).toInt = (l2_x9.toInt + 1) := (iI_t (Int.le_trans (by decide) (Int.add_le_add (b_l2_x9.1) (Int.le_refl _))) (Int.le_trans (Int.add_le_add (b_l2_x9.2) (Int.le_refl _)) (by decide))); omega) hP hD hS hl
theorem dX11_putText_0 : decode cX11_putText 0 = .ok (.iconst 0, 1) := dk_3 (by decide +kernel)
theorem dX11_putText_1 : decode cX11_putText 1 = .ok (.istore_n 2, 1) := dk_61 (by decide +kernel)
theorem dX11_putText_2 : decode cX11_putText 2 = .ok (.iload_n 2, 1) := dk_28 (by decide +kernel)
theorem dX11_putText_3 : decode cX11_putText 3 = .ok (.aload_n 1, 1) := dk_43 (by decide +kernel)
theorem dX11_putText_4 : decode cX11_putText 4 = .ok (.invokevirtual 234, 3) := dk_182 (by decide +kernel)
theorem dX11_putText_7 : decode cX11_putText 7 = .ok (.if_icmp .ge 18, 3) := dk_162 (by decide +kernel)
theorem dX11_putText_10 : decode cX11_putText 10 = .ok (.aload_n 0, 1) := dk_42 (by decide +kernel)
theorem dX11_putText_11 : decode cX11_putText 11 = .ok (.aload_n 1, 1) := dk_43 (by decide +kernel)
theorem dX11_putText_12 : decode cX11_putText 12 = .ok (.iload_n 2, 1) := dk_28 (by decide +kernel)
theorem dX11_putText_13 : decode cX11_putText 13 = .ok (.invokevirtual 238, 3) := dk_182 (by decide +kernel)
theorem dX11_putText_16 : decode cX11_putText 16 = .ok (.invokevirtual 242, 3) := dk_182 (by decide +kernel)
theorem dX11_putText_19 : decode cX11_putText 19 = .ok (.iinc 2 1, 3) := dk_132 (by decide +kernel)
theorem dX11_putText_22 : decode cX11_putText 22 = .ok (.goto (-20), 3) := dk_167 (by decide +kernel)
theorem dX11_putText_25 : decode cX11_putText 25 = .ok (.return_, 1) := dk_177 (by decide +kernel)
def wsMX11_putText : List Cond := .code yX11_putText cX11_putText 3 none :: ([] ++ (wsV RX11 234 RJ0 yJ0_length_8abf5 wsMJ0_length_8abf5) ++ (wsV RX11 238 RJ0 yJ0_charAt_5068e wsRJ0ca) ++ (wsV RX11 242 RX11 yX11_put wsMX11_put))
theorem gwsMX11_putText_0 : GoodIn wsMX11_putText (wsV RX11 234 RJ0 yJ0_length_8abf5 wsMJ0_length_8abf5) := goodIn_sub (fun _ h => List.mem_cons_of_mem _ (List.mem_append_left _ (List.mem_append_left _ (List.mem_append_right _ h)))) (gdV (by decide +kernel) gdwsMJ0_length_8abf5)
theorem gwsMX11_putText_1 : GoodIn wsMX11_putText (wsV RX11 238 RJ0 yJ0_charAt_5068e wsRJ0ca) := goodIn_sub (fun _ h => List.mem_cons_of_mem _ (List.mem_append_left _ (List.mem_append_right _ h))) (gdV (by decide +kernel) gdwsRJ0ca)
theorem gwsMX11_putText_2 : GoodIn wsMX11_putText (wsV RX11 242 RX11 yX11_put wsMX11_put) := goodIn_sub (fun _ h => List.mem_cons_of_mem _ (List.mem_append_right _ h)) (gdV (by decide +kernel) gdwsMX11_put)
theorem gdwsMX11_putText : wsMX11_putText.all goodWord = true := gdC rfl (gdA (gdA (gdA (by decide +kernel : ([] : List Cond).all goodWord = true) (gdV (by decide +kernel) gdwsMJ0_length_8abf5)) (gdV (by decide +kernel) gdwsRJ0ca)) (gdV (by decide +kernel) gdwsMX11_put))
set_option maxHeartbeats 4000000 in
set_option maxRecDepth 100000 in
/-- a text more -/
theorem m_X11_putText (l : Launch) (dC : Nat → ClassId) (dI : Nat → Nat → Nat) (hX : Nat → Nat) (aX : Nat → Nat) (kX : Nat → ClassId) (hT : Nat → Nat) (hM : Nat → Nat) (fX_ready : Nat → Int32) (fX_sheet : Nat → Int32) (dX_sheet : Nat) (nX_sheet : Nat) (iX_sheetLength : Int32) (xX_reader : Value) (xX_solver : Value) (xX_prover : Value) (xX_values : Value) (xX_clauses : Value) (xX_nets : Value) (qS : Nat) (nn : Nat) (fB : Nat → Int32) (b_fX_sheet : ∀ q : Nat, (-128) ≤ (fX_sheet q).toInt ∧ (fX_sheet q).toInt ≤ 127) (b_nX_sheet : 64 ≤ nX_sheet ∧ nX_sheet ≤ 60000) (b_iX_sheetLength : 0 ≤ iX_sheetLength.toInt ∧ iX_sheetLength.toInt ≤ 30000) (b_shl : iX_sheetLength.toInt ≤ ((nX_sheet : Nat) : Int)) (hnn : nn ≤ 1000) (sz : Nat) : Met l yX11_putText wsMX11_putText ({ frames := 4, cells := 3751, slots := 300000, locals := 85 }) (va_Pc [.ref (hX 0), .ref qS] (fun U => U.heap.size = sz ∧ va_P (dC, dI) vwCl (WX hX aX kX hT hM fX_ready fX_sheet dX_sheet nX_sheet iX_sheetLength xX_reader xX_solver xX_prover xX_values xX_clauses xX_nets) U.heap ∧ va_K (dC, dI) vwCl (tX kX) U ∧ va_D (fun _ => True) (WX hX aX kX hT hM fX_ready fX_sheet dX_sheet nX_sheet iX_sheetLength xX_reader xX_solver xX_prover xX_values xX_clauses xX_nets) ∧ (StrE qS nn fB) (va_A (WX hX aX kX hT hM fX_ready fX_sheet dX_sheet nX_sheet iX_sheetLength xX_reader xX_solver xX_prover xX_values xX_clauses xX_nets) sz) U U.heap)) (va_Qv (fun (u : (Nat → Int32) × (Nat) × (Nat) × (Int32)) => (∀ q : Nat, (-128) ≤ ((u.1) q).toInt ∧ ((u.1) q).toInt ≤ 127) ∧ (64 ≤ (u.2.2.1) ∧ (u.2.2.1) ≤ 60000) ∧ (0 ≤ (u.2.2.2).toInt ∧ (u.2.2.2).toInt ≤ 30000) ∧ ((u.2.2.2).toInt ≤ (((u.2.2.1) : Nat) : Int)) ∧ (nX_sheet ≤ (u.2.2.1)) ∧ (iX_sheetLength.toInt ≤ (u.2.2.2).toInt)) (fun (u : (Nat → Int32) × (Nat) × (Nat) × (Int32)) t => va_P (dC, dI) vwCl (WX hX aX kX hT hM fX_ready (u.1) (u.2.1) (u.2.2.1) (u.2.2.2) xX_reader xX_solver xX_prover xX_values xX_clauses xX_nets) t.heap ∧ va_D (va_A (WX hX aX kX hT hM fX_ready fX_sheet dX_sheet nX_sheet iX_sheetLength xX_reader xX_solver xX_prover xX_values xX_clauses xX_nets) sz) (WX hX aX kX hT hM fX_ready (u.1) (u.2.1) (u.2.2.1) (u.2.2.2) xX_reader xX_solver xX_prover xX_values xX_clauses xX_nets) ∧ t.heap.size + (nX_sheet / 32) ≤ sz + ((u.2.2.1) / 32) ∧ nS sz t.heap + (2 * nX_sheet) ≤ (2 * (u.2.2.1))) (va_A (WX hX aX kX hT hM fX_ready fX_sheet dX_sheet nX_sheet iX_sheetLength xX_reader xX_solver xX_prover xX_values xX_clauses xX_nets) sz)) 3751 300000 (va_A (WX hX aX kX hT hM fX_ready fX_sheet dX_sheet nX_sheet iX_sheetLength xX_reader xX_solver xX_prover xX_values xX_clauses xX_nets) sz) := by
  refine Met.ofW (cc := cX11_putText) (maxL := 3) (ret := none) (by decide) rfl ?_
  intro p e s m args below meth c s₁ B hml hv
  obtain ⟨rfl, hsz, hP, hK, hD0, hE⟩ := hv
  have hx := B.exec
  have hb := B.bytes
  have hr := B.returns
  have hts := atoms_spec (ws := wsMX11_putText) B.pre
  have hown : s.vm.findClass RX11 = some m.cls := findClass_of_methodNamed B.named
  have hlocks := B.notSynchronized
  subst hsz
  have hD := hD0.self (sz := s.heap.size)
  generalize hAe : va_A (WX hX aX kX hT hM fX_ready fX_sheet dX_sheet nX_sheet iX_sheetLength xX_reader xX_solver xX_prover xX_values xX_clauses xX_nets) s.heap.size = A at hD hE ⊢
  have hA : ∀ q : Nat, s.heap.size ≤ q → A q := fun q h => by rw [← hAe]; exact Or.inr h
  have hS : va_S A s.heap s.heap [] := va_S.rf
  have hl := lv_entry ([.ref (hX 0), .ref qS]) (n := 3) (Nat.le_of_ble_eq_true rfl)
  rw [lg_entry_eq]
  generalize (lg_sl ([.ref (hX 0), .ref qS]) ++ List.replicate (3 - (lg_sl ([.ref (hX 0), .ref qS])).length) Slot.unset).toArray = ls at hl ⊢
  have hl : lv_has ls 3 [(0, .ref (hX 0)), (1, .ref qS)] := hl
  refine W.widen (k := (nX_sheet / 32 - (nX_sheet / 32))) (n := (2 * nX_sheet - (2 * nX_sheet))) (Nat.zero_le _) (Nat.zero_le _) ?_
  refine lv_iconst (v := 0) hx hb dX11_putText_0 (by decide) ?_
  refine lv_istore_n hx hb dX11_putText_1 rfl hl (by decide) rfl (fun ls (hl : lv_has ls _ ([(2, .int 0), (0, .ref (hX 0)), (1, .ref qS)])) => ?_)
  have hl : lv_has _ _ ([(2, .int 0), (0, .ref (hX 0)), (1, .ref qS)]) := lv_sub hl [0, 1, 2] rfl
  refine (fun (loop : ∀ (n9 : Nat) (fX_sheet_x2 : Nat → Int32) (dX_sheet_x2 : Nat) (nX_sheet_x2 : Nat) (iX_sheetLength_x2 : Int32) (l2_x2 : Int32) (H : Heap) (locs : List Loc) (ls : Array Slot), (∀ q : Nat, (-128) ≤ (fX_sheet_x2 q).toInt ∧ (fX_sheet_x2 q).toInt ≤ 127) → (64 ≤ nX_sheet_x2 ∧ nX_sheet_x2 ≤ 60000) → (0 ≤ iX_sheetLength_x2.toInt ∧ iX_sheetLength_x2.toInt ≤ 30000) → (0 ≤ l2_x2.toInt ∧ l2_x2.toInt ≤ 1000) → (iX_sheetLength_x2.toInt ≤ ((nX_sheet_x2 : Nat) : Int)) → (iX_sheetLength.toInt ≤ iX_sheetLength_x2.toInt) → (nX_sheet ≤ nX_sheet_x2) → (1000 - l2_x2.toInt < ((n9 : Nat) : Int)) → va_P (dC, dI) vwCl (WX hX aX kX hT hM fX_ready fX_sheet_x2 dX_sheet_x2 nX_sheet_x2 iX_sheetLength_x2 xX_reader xX_solver xX_prover xX_values xX_clauses xX_nets) H → va_D A (WX hX aX kX hT hM fX_ready fX_sheet_x2 dX_sheet_x2 nX_sheet_x2 iX_sheetLength_x2 xX_reader xX_solver xX_prover xX_values xX_clauses xX_nets) → va_S A s.heap H locs → lv_has ls 3 [(2, .int l2_x2), (0, .ref (hX 0)), (1, .ref qS)] → W p l e _ s m _ below meth c H locs (nX_sheet_x2 / 32 - (nX_sheet / 32)) (2 * nX_sheet_x2 - (2 * nX_sheet)) _ (F0 m 2 ls [])) => loop (1001) fX_sheet dX_sheet nX_sheet iX_sheetLength 0 _ _ _ b_fX_sheet (by first | exact b_nX_sheet | assumption | exact ⟨by omega, by omega⟩) (b_iX_sheetLength) (show 0 ≤ (0 : Int32).toInt ∧ (0 : Int32).toInt ≤ 1000 from by decide) (by first | assumption | omega | (rw [iI_t (by omega) (by omega)]; omega) | (have h7 : (0 : Int32).toInt = 0 := (by decide); omega)) (show iX_sheetLength.toInt ≤ iX_sheetLength.toInt from by omega) (show nX_sheet ≤ nX_sheet from by omega) ((by have e9 : (0 : Int32).toInt = 0 := (by decide : (0 : Int32).toInt = 0); omega)) hP hD hS hl) ?_
  intro n9
  induction n9 with
  | zero => intro fX_sheet_x2 dX_sheet_x2 nX_sheet_x2 iX_sheetLength_x2 l2_x2 H locs ls b_fX_sheet_x2 b_nX_sheet_x2 b_iX_sheetLength_x2 b_l2_x2 b_shl_x2 hsl_ hgm0_x2 hf9; exact False.elim (by omega)
  | succ n9 ihx2 =>
    intro fX_sheet_x2 dX_sheet_x2 nX_sheet_x2 iX_sheetLength_x2 l2_x2 H locs ls b_fX_sheet_x2 b_nX_sheet_x2 b_iX_sheetLength_x2 b_l2_x2 b_shl_x2 hsl_ hgm0_x2 hfx2 hP hD hS hl
    refine lv_iload_n hx hb dX11_putText_2 rfl (lv_at hl 0 rfl) ?_
    refine lv_aload_n hx hb dX11_putText_3 rfl (lv_at hl 2 rfl) ?_
    have hFc := noneFree hS hA
    refine va_calli (va_runV (As := []) (rest := [.int l2_x2]) ⟨hx, hb, hml, hown, hts⟩ (m_J0_length_8abf5 l dC dI qS nn fB (by first | assumption | omega | (rw [iI_t (by omega) (by omega)]; omega) | decide) H.size) (cwV 0 hts gwsMX11_putText_0 rfl rfl rfl (by decide +kernel) ⟨by (dsimp only [headSpec] <;> omega), by (dsimp only [headSpec] <;> omega)⟩) ⟨fun a U g mk q => by obtain ⟨q0, q1, qP, qK, qD, qE⟩ := q; exact ⟨q0, q1, qP, va_K.moved (u := U) (U := U.calling g mk a) (Vm.Alike.refl U.vm) qK, qD, qE.same rfl⟩, hE.recv hS, fun U hU9 hW => ⟨rfl, by rw [hU9], by rw [hU9]; exact nilP, va_K.moved hW.alike (hK.sub (tys' := []) [] rfl), nilD, by rw [hU9]; exact (((hE : (StrE qS nn fB) A s s.heap).kept hS.2.1).narrow (fun q h => hFc q h)).warm hW⟩⟩ rfl rfl hl.1 rfl (lv_room (Nat.le_of_ble_eq_true rfl)) dX11_putText_4 ⟨by (dsimp only [headSpec] <;> omega), by (dsimp only [headSpec] <;> omega)⟩) hS (fun q _ h => hFc q h) hFc (fun r15 u t9_ H1 locs ht hvm hw9 hB9 hz1 hk1 hS => ?_)
    have f15_0 := hw9
    try dsimp only at f15_0
    clear hB9
    have hP := keepAll hP hk1
    generalize H1 = H at hP hS ⊢
    have hP : va_P (dC, dI) vwCl (WX hX aX kX hT hM fX_ready fX_sheet_x2 dX_sheet_x2 nX_sheet_x2 iX_sheetLength_x2 xX_reader xX_solver xX_prover xX_values xX_clauses xX_nets) H := hP
    have hD : va_D A (WX hX aX kX hT hM fX_ready fX_sheet_x2 dX_sheet_x2 nX_sheet_x2 iX_sheetLength_x2 xX_reader xX_solver xX_prover xX_values xX_clauses xX_nets) := hD
    have hlen : r15.toInt = ((nn : Nat) : Int) := f15_0
    refine lv_icmp_ge (tgt := 25) hx hb dX11_putText_7 (by decide) (fun c_7 => ?_) (fun c_7 => ?_)
    · have t_7 : l2_x2.toInt ≥ r15.toInt := toI_ge c_7 rfl rfl
      refine W.known (fun hz9 hn9 => ?_)
      refine W.widen (k := 3751) (n := 300000) (by omega) (by omega) ?_
      exact W.vret hx hb hr (fun t9_ ht hW => ⟨⟨(fX_sheet_x2, dX_sheet_x2, nX_sheet_x2, iX_sheetLength_x2), rfl, ⟨b_fX_sheet_x2, (by (try dsimp only); exact (by first | exact b_nX_sheet_x2 | assumption | exact ⟨by omega, by omega⟩)), (by (try dsimp only); exact (b_iX_sheetLength_x2)), (by (try dsimp only); exact (by first | assumption | omega | (rw [iI_t (by omega) (by omega)]; omega) | (have h7 : (0 : Int32).toInt = 0 := (by decide); omega))), (by (try dsimp only); omega), (by (try dsimp only); first | omega | (rw [iI_t (by omega) (by omega)]; omega))⟩, by rw [ht]; exact hP, hD, by rw [ht]; (try dsimp only); omega, by rw [ht]; (try dsimp only); omega⟩, hS.F ht⟩) hS.2.2 dX11_putText_25
    · have t_7 : ¬ l2_x2.toInt ≥ r15.toInt := toI_nge c_7 rfl rfl
      refine lv_aload_n hx hb dX11_putText_10 rfl (lv_at hl 1 rfl) ?_
      refine lv_aload_n hx hb dX11_putText_11 rfl (lv_at hl 2 rfl) ?_
      refine lv_iload_n hx hb dX11_putText_12 rfl (lv_at hl 0 rfl) ?_
      refine lv_topi (fun y19 hy19 => ?_)
      obtain rfl : (nI l2_x2.toInt.toNat) = y19 := (hy19.trans (toN rfl (by omega))).symm
      have hFc := noneFree hS hA
      refine va_calli (va_runV (As := [.int (nI l2_x2.toInt.toNat)]) (rest := [.ref (hX 0)]) ⟨hx, hb, hml, hown, hts⟩ (r_J0_charAt_5068e l dC dI qS fB l2_x2.toInt.toNat nn (by omega) (by omega) H.size) (cwV 1 hts gwsMX11_putText_1 rfl rfl rfl (by decide +kernel) ⟨by (dsimp only [headSpec] <;> omega), by (dsimp only [headSpec] <;> omega)⟩) ⟨fun a U g mk q => by obtain ⟨q0, q1, qP, qK, qD, qE⟩ := q; exact ⟨q0, q1, qP, va_K.moved (u := U) (U := U.calling g mk a) (Vm.Alike.refl U.vm) qK, qD, qE.same rfl⟩, hE.recv hS, fun U hU9 hW => ⟨rfl, by rw [hU9], by rw [hU9]; exact nilP, va_K.moved hW.alike (hK.sub (tys' := []) [] rfl), nilD, by rw [hU9]; exact (((hE : (StrE qS nn fB) A s s.heap).kept hS.2.1).narrow (fun q h => hFc q h)).warm hW⟩⟩ rfl rfl hl.1 rfl (lv_room (Nat.le_of_ble_eq_true rfl)) dX11_putText_13 ⟨by (dsimp only [headSpec] <;> omega), by (dsimp only [headSpec] <;> omega)⟩) hS (fun q _ h => hFc q h) hFc (fun r20 u t9_ H1 locs ht hvm hw9 hB9 hz1 hk1 hS => ?_)
      obtain ⟨f20_0, f20_1⟩ := hw9
      clear hB9
      have hP := keepAll hP hk1
      generalize H1 = H at hP hS ⊢
      have hP : va_P (dC, dI) vwCl (WX hX aX kX hT hM fX_ready fX_sheet_x2 dX_sheet_x2 nX_sheet_x2 iX_sheetLength_x2 xX_reader xX_solver xX_prover xX_values xX_clauses xX_nets) H := hP
      have hD : va_D A (WX hX aX kX hT hM fX_ready fX_sheet_x2 dX_sheet_x2 nX_sheet_x2 iX_sheetLength_x2 xX_reader xX_solver xX_prover xX_values xX_clauses xX_nets) := hD
      refine W.known (fun hz0 hn0 => ?_)
      have hS0 := hS.1
      have hFc := allFree hD hS hA
      refine va_callv (va_runV (As := [.int r20]) (rest := []) ⟨hx, hb, hml, hown, hts⟩ (Met.sV (m_X11_put l dC dI hX aX kX hT hM fX_ready fX_sheet_x2 dX_sheet_x2 nX_sheet_x2 iX_sheetLength_x2 xX_reader xX_solver xX_prover xX_values xX_clauses xX_nets r20 b_fX_sheet_x2 (by first | exact b_nX_sheet_x2 | assumption | exact ⟨by omega, by omega⟩) (b_iX_sheetLength_x2) (by first | assumption | omega | (rw [iI_t (by omega) (by omega)]; omega) | (have h7 : (0 : Int32).toInt = 0 := (by decide); omega)) H.size) H) (cwV 1 hts gwsMX11_putText_2 rfl rfl rfl (by decide +kernel) ⟨by (dsimp only [headSpec] <;> omega), by (dsimp only [headSpec] <;> omega)⟩) ⟨fun a U g mk q => by obtain ⟨q0, qh, q1, qP, qK, qD⟩ := q; exact ⟨q0, qh, q1, qP, va_K.moved (u := U) (U := U.calling g mk a) (Vm.Alike.refl U.vm) qK, qD⟩, va_recv hK hP (ci := 11) (q0 := 0) rfl rfl, fun U hU9 hW => ⟨rfl, hU9, by rw [hU9], by rw [hU9]; exact hP, va_K.moved hW.alike hK, hD.weaken (fun _ _ _ _ => trivial)⟩⟩ rfl rfl hl.1 rfl (lv_room (Nat.le_of_ble_eq_true rfl)) dX11_putText_16 ⟨by (dsimp only [headSpec] <;> omega), by (dsimp only [headSpec] <;> omega)⟩) hS (fun q _ h => hFc q h) hFc (fun u t9_ H1 locs ht hvm hw9 hB9 hz1 hk1 hS => ?_)
      obtain ⟨fX_sheet_21, dX_sheet_21, nX_sheet_21, iX_sheetLength_21⟩ := u
      try dsimp only at hw9 hB9
      obtain ⟨b_fX_sheet_21, b_nX_sheet_21, b_iX_sheetLength_21, b_shl_21, f21_0, f21_1⟩ := hw9
      obtain ⟨⟨hP1, hD1, hg1, hg2⟩, hSz⟩ := hB9
      rw [ht] at hP1 hSz hg1 hg2
      have hP := hP1
      have hD := hD1.weaken (fun _ q _ h => hFc q.1 h)
      have hz9 : H1.size ≤ s.heap.size + (nX_sheet_21 / 32 - (nX_sheet / 32)) := by (try dsimp only at hg1); omega
      have hn9 : nS s.heap.size H1 ≤ (2 * nX_sheet_21 - (2 * nX_sheet)) := by rw [hSz.n hS0]; (try dsimp only at hg2); omega
      refine W.tight (cells2 := (nX_sheet_21 / 32 - (nX_sheet / 32))) (slots2 := (2 * nX_sheet_21 - (2 * nX_sheet))) hz9 hn9 ?_
      clear hz9 hn9 hz0 hn0 hS0 hSz hg1 hg2
      generalize H1 = H at hP hS ⊢
      have hP : va_P (dC, dI) vwCl (WX hX aX kX hT hM fX_ready fX_sheet_21 dX_sheet_21 nX_sheet_21 iX_sheetLength_21 xX_reader xX_solver xX_prover xX_values xX_clauses xX_nets) H := hP
      have hD : va_D A (WX hX aX kX hT hM fX_ready fX_sheet_21 dX_sheet_21 nX_sheet_21 iX_sheetLength_21 xX_reader xX_solver xX_prover xX_values xX_clauses xX_nets) := hD
      refine lv_iinc (v := (iI (l2_x2.toInt + 1))) hx hb dX11_putText_19 hl (k := 0) rfl (iI_add2 (iI_of _) (by decide : (1 : Int32) = iI 1)) (by decide) rfl (fun ls (hl : lv_has ls _ ([(2, .int (iI (l2_x2.toInt + 1))), (0, .ref (hX 0)), (1, .ref qS)])) => ?_)
      refine lv_goto (tgt := 2) hx hb dX11_putText_22 (by decide) ?_
      have hl : lv_has _ _ ([(2, .int (iI (l2_x2.toInt + 1))), (0, .ref (hX 0)), (1, .ref qS)]) := lv_sub hl [0, 1, 2] rfl
      exact ihx2 fX_sheet_21 dX_sheet_21 nX_sheet_21 iX_sheetLength_21 (iI (l2_x2.toInt + 1)) _ _ _ b_fX_sheet_21 (by first | exact b_nX_sheet_21 | assumption | exact ⟨by omega, by omega⟩) (b_iX_sheetLength_21) (iI_rng (Int.le_trans (by decide) (Int.add_le_add (b_l2_x2.1) (Int.le_refl _))) (by omega) (by decide) (by decide)) (by first | assumption | omega | (rw [iI_t (by omega) (by omega)]; omega) | (have h7 : (0 : Int32).toInt = 0 := (by decide); omega)) (show iX_sheetLength.toInt ≤ iX_sheetLength_21.toInt from by omega) (show nX_sheet ≤ nX_sheet_21 from by omega) (by have e9 : ((iI (l2_x2.toInt + 1))).toInt = (l2_x2.toInt + 1) := (iI_t (Int.le_trans (by decide) (Int.add_le_add (b_l2_x2.1) (Int.le_refl _))) (Int.le_trans (Int.add_le_add (b_l2_x2.2) (Int.le_refl _)) (by decide))); omega) hP hD hS hl
theorem dX11_putNumber_0 : decode cX11_putNumber 0 = .ok (.iload_n 1, 1) := dk_27 (by decide +kernel)
theorem dX11_putNumber_1 : decode cX11_putNumber 1 = .ok (.ifCond .ge 9, 3) := dk_156 (by decide +kernel)
theorem dX11_putNumber_4 : decode cX11_putNumber 4 = .ok (.aload_n 0, 1) := dk_42 (by decide +kernel)
theorem dX11_putNumber_5 : decode cX11_putNumber 5 = .ok (.bipush 45, 2) := dk_16 (by decide +kernel)
theorem dX11_putNumber_7 : decode cX11_putNumber 7 = .ok (.invokevirtual 242, 3) := dk_182 (by decide +kernel)
theorem dX11_putNumber_10 : decode cX11_putNumber 10 = .ok (.aload_n 0, 1) := dk_42 (by decide +kernel)
theorem dX11_putNumber_11 : decode cX11_putNumber 11 = .ok (.getfield 138, 3) := dk_180 (by decide +kernel)
theorem dX11_putNumber_14 : decode cX11_putNumber 14 = .ok (.istore_n 2, 1) := dk_61 (by decide +kernel)
theorem dX11_putNumber_15 : decode cX11_putNumber 15 = .ok (.iload_n 1, 1) := dk_27 (by decide +kernel)
theorem dX11_putNumber_16 : decode cX11_putNumber 16 = .ok (.ifCond .ge 8, 3) := dk_156 (by decide +kernel)
theorem dX11_putNumber_19 : decode cX11_putNumber 19 = .ok (.iload_n 1, 1) := dk_27 (by decide +kernel)
theorem dX11_putNumber_20 : decode cX11_putNumber 20 = .ok (.ineg, 1) := dk_116 (by decide +kernel)
theorem dX11_putNumber_21 : decode cX11_putNumber 21 = .ok (.goto 4, 3) := dk_167 (by decide +kernel)
theorem dX11_putNumber_24 : decode cX11_putNumber 24 = .ok (.iload_n 1, 1) := dk_27 (by decide +kernel)
theorem dX11_putNumber_25 : decode cX11_putNumber 25 = .ok (.istore_n 3, 1) := dk_62 (by decide +kernel)
theorem dX11_putNumber_26 : decode cX11_putNumber 26 = .ok (.iconst 0, 1) := dk_3 (by decide +kernel)
theorem dX11_putNumber_27 : decode cX11_putNumber 27 = .ok (.istore 4, 2) := dk_54 (by decide +kernel)
theorem dX11_putNumber_29 : decode cX11_putNumber 29 = .ok (.iload 4, 2) := dk_21 (by decide +kernel)
theorem dX11_putNumber_31 : decode cX11_putNumber 31 = .ok (.bipush 10, 2) := dk_16 (by decide +kernel)
theorem dX11_putNumber_33 : decode cX11_putNumber 33 = .ok (.if_icmp .ge 34, 3) := dk_162 (by decide +kernel)
theorem dX11_putNumber_36 : decode cX11_putNumber 36 = .ok (.iload 4, 2) := dk_21 (by decide +kernel)
theorem dX11_putNumber_38 : decode cX11_putNumber 38 = .ok (.ifCond .eq 7, 3) := dk_153 (by decide +kernel)
theorem dX11_putNumber_41 : decode cX11_putNumber 41 = .ok (.iload_n 3, 1) := dk_29 (by decide +kernel)
theorem dX11_putNumber_42 : decode cX11_putNumber 42 = .ok (.ifCond .eq 25, 3) := dk_153 (by decide +kernel)
theorem dX11_putNumber_45 : decode cX11_putNumber 45 = .ok (.aload_n 0, 1) := dk_42 (by decide +kernel)
theorem dX11_putNumber_46 : decode cX11_putNumber 46 = .ok (.bipush 48, 2) := dk_16 (by decide +kernel)
theorem dX11_putNumber_48 : decode cX11_putNumber 48 = .ok (.iload_n 3, 1) := dk_29 (by decide +kernel)
theorem dX11_putNumber_49 : decode cX11_putNumber 49 = .ok (.bipush 10, 2) := dk_16 (by decide +kernel)
theorem dX11_putNumber_51 : decode cX11_putNumber 51 = .ok (.irem, 1) := dk_112 (by decide +kernel)
theorem dX11_putNumber_52 : decode cX11_putNumber 52 = .ok (.iadd, 1) := dk_96 (by decide +kernel)
theorem dX11_putNumber_53 : decode cX11_putNumber 53 = .ok (.invokevirtual 242, 3) := dk_182 (by decide +kernel)
theorem dX11_putNumber_56 : decode cX11_putNumber 56 = .ok (.iload_n 3, 1) := dk_29 (by decide +kernel)
theorem dX11_putNumber_57 : decode cX11_putNumber 57 = .ok (.bipush 10, 2) := dk_16 (by decide +kernel)
theorem dX11_putNumber_59 : decode cX11_putNumber 59 = .ok (.idiv, 1) := dk_108 (by decide +kernel)
theorem dX11_putNumber_60 : decode cX11_putNumber 60 = .ok (.istore_n 3, 1) := dk_62 (by decide +kernel)
theorem dX11_putNumber_61 : decode cX11_putNumber 61 = .ok (.iinc 4 1, 3) := dk_132 (by decide +kernel)
theorem dX11_putNumber_64 : decode cX11_putNumber 64 = .ok (.goto (-35), 3) := dk_167 (by decide +kernel)
theorem dX11_putNumber_67 : decode cX11_putNumber 67 = .ok (.aload_n 0, 1) := dk_42 (by decide +kernel)
theorem dX11_putNumber_68 : decode cX11_putNumber 68 = .ok (.iload_n 2, 1) := dk_28 (by decide +kernel)
theorem dX11_putNumber_69 : decode cX11_putNumber 69 = .ok (.invokevirtual 245, 3) := dk_182 (by decide +kernel)
theorem dX11_putNumber_72 : decode cX11_putNumber 72 = .ok (.return_, 1) := dk_177 (by decide +kernel)
def wsMX11_putNumber : List Cond := .code yX11_putNumber cX11_putNumber 5 none :: ([.fieldLink RX11 138 "OptimaWorks" "sheetLength" "I"] ++ wsX110 ++ (wsV RX11 242 RX11 yX11_put wsMX11_put) ++ (wsV RX11 245 RX11 yX11_turnRound wsMX11_turnRound))
theorem iwsMX11_putNumber_in11 : ∀ w ∈ wsX110, w ∈ wsMX11_putNumber := fun _ h => List.mem_cons_of_mem _ (List.mem_append_left _ (List.mem_append_left _ (List.mem_append_right _ h)))
theorem gwsMX11_putNumber_0 : GoodIn wsMX11_putNumber (wsV RX11 242 RX11 yX11_put wsMX11_put) := goodIn_sub (fun _ h => List.mem_cons_of_mem _ (List.mem_append_left _ (List.mem_append_right _ h))) (gdV (by decide +kernel) gdwsMX11_put)
theorem gwsMX11_putNumber_1 : GoodIn wsMX11_putNumber (wsV RX11 245 RX11 yX11_turnRound wsMX11_turnRound) := goodIn_sub (fun _ h => List.mem_cons_of_mem _ (List.mem_append_right _ h)) (gdV (by decide +kernel) gdwsMX11_turnRound)
theorem gdwsMX11_putNumber : wsMX11_putNumber.all goodWord = true := gdC rfl (gdA (gdA (gdA (by decide +kernel : ([.fieldLink RX11 138 "OptimaWorks" "sheetLength" "I"] : List Cond).all goodWord = true) gdwsX110) (gdV (by decide +kernel) gdwsMX11_put)) (gdV (by decide +kernel) gdwsMX11_turnRound))
set_option maxHeartbeats 4000000 in
set_option maxRecDepth 100000 in
/-- a number more -/
theorem m_X11_putNumber (l : Launch) (dC : Nat → ClassId) (dI : Nat → Nat → Nat) (hX : Nat → Nat) (aX : Nat → Nat) (kX : Nat → ClassId) (hT : Nat → Nat) (hM : Nat → Nat) (fX_ready : Nat → Int32) (fX_sheet : Nat → Int32) (dX_sheet : Nat) (nX_sheet : Nat) (iX_sheetLength : Int32) (xX_reader : Value) (xX_solver : Value) (xX_prover : Value) (xX_values : Value) (xX_clauses : Value) (xX_nets : Value) (p1 : Int32) (b_fX_sheet : ∀ q : Nat, (-128) ≤ (fX_sheet q).toInt ∧ (fX_sheet q).toInt ≤ 127) (b_nX_sheet : 64 ≤ nX_sheet ∧ nX_sheet ≤ 60000) (b_iX_sheetLength : 0 ≤ iX_sheetLength.toInt ∧ iX_sheetLength.toInt ≤ 30000) (b_shl : iX_sheetLength.toInt ≤ ((nX_sheet : Nat) : Int)) (sz : Nat) : Met l yX11_putNumber wsMX11_putNumber ({ frames := 3, cells := 3751, slots := 300000, locals := 61 }) (va_Pc [.ref (hX 0), .int p1] (fun U => U.heap.size = sz ∧ va_P (dC, dI) vwCl (WX hX aX kX hT hM fX_ready fX_sheet dX_sheet nX_sheet iX_sheetLength xX_reader xX_solver xX_prover xX_values xX_clauses xX_nets) U.heap ∧ va_K (dC, dI) vwCl (tX kX) U ∧ va_D (fun _ => True) (WX hX aX kX hT hM fX_ready fX_sheet dX_sheet nX_sheet iX_sheetLength xX_reader xX_solver xX_prover xX_values xX_clauses xX_nets))) (va_Qv (fun (u : (Nat → Int32) × (Nat) × (Nat) × (Int32)) => (∀ q : Nat, (-128) ≤ ((u.1) q).toInt ∧ ((u.1) q).toInt ≤ 127) ∧ (64 ≤ (u.2.2.1) ∧ (u.2.2.1) ≤ 60000) ∧ (0 ≤ (u.2.2.2).toInt ∧ (u.2.2.2).toInt ≤ 30000) ∧ ((u.2.2.2).toInt ≤ (((u.2.2.1) : Nat) : Int)) ∧ (nX_sheet ≤ (u.2.2.1)) ∧ (iX_sheetLength.toInt ≤ (u.2.2.2).toInt)) (fun (u : (Nat → Int32) × (Nat) × (Nat) × (Int32)) t => va_P (dC, dI) vwCl (WX hX aX kX hT hM fX_ready (u.1) (u.2.1) (u.2.2.1) (u.2.2.2) xX_reader xX_solver xX_prover xX_values xX_clauses xX_nets) t.heap ∧ va_D (va_A (WX hX aX kX hT hM fX_ready fX_sheet dX_sheet nX_sheet iX_sheetLength xX_reader xX_solver xX_prover xX_values xX_clauses xX_nets) sz) (WX hX aX kX hT hM fX_ready (u.1) (u.2.1) (u.2.2.1) (u.2.2.2) xX_reader xX_solver xX_prover xX_values xX_clauses xX_nets) ∧ t.heap.size + (nX_sheet / 32) ≤ sz + ((u.2.2.1) / 32) ∧ nS sz t.heap + (2 * nX_sheet) ≤ (2 * (u.2.2.1))) (va_A (WX hX aX kX hT hM fX_ready fX_sheet dX_sheet nX_sheet iX_sheetLength xX_reader xX_solver xX_prover xX_values xX_clauses xX_nets) sz)) 3751 300000 (va_A (WX hX aX kX hT hM fX_ready fX_sheet dX_sheet nX_sheet iX_sheetLength xX_reader xX_solver xX_prover xX_values xX_clauses xX_nets) sz) := by
  refine Met.ofW (cc := cX11_putNumber) (maxL := 5) (ret := none) (by decide) rfl ?_
  intro p e s m args below meth c s₁ B hml hv
  obtain ⟨rfl, hsz, hP, hK, hD0⟩ := hv
  have hx := B.exec
  have hb := B.bytes
  have hr := B.returns
  have hts := atoms_spec (ws := wsMX11_putNumber) B.pre
  have hown : s.vm.findClass RX11 = some m.cls := findClass_of_methodNamed B.named
  have hlocks := B.notSynchronized
  subst hsz
  have hD := hD0.self (sz := s.heap.size)
  generalize hAe : va_A (WX hX aX kX hT hM fX_ready fX_sheet dX_sheet nX_sheet iX_sheetLength xX_reader xX_solver xX_prover xX_values xX_clauses xX_nets) s.heap.size = A at hD ⊢
  have hA : ∀ q : Nat, s.heap.size ≤ q → A q := fun q h => by rw [← hAe]; exact Or.inr h
  have hS : va_S A s.heap s.heap [] := va_S.rf
  have hl := lv_entry ([.ref (hX 0), .int p1]) (n := 5) (Nat.le_of_ble_eq_true rfl)
  rw [lg_entry_eq]
  generalize (lg_sl ([.ref (hX 0), .int p1]) ++ List.replicate (5 - (lg_sl ([.ref (hX 0), .int p1])).length) Slot.unset).toArray = ls at hl ⊢
  have hl : lv_has ls 5 [(0, .ref (hX 0)), (1, .int p1)] := hl
  refine W.widen (k := (nX_sheet / 32 - (nX_sheet / 32))) (n := (2 * nX_sheet - (2 * nX_sheet))) (Nat.zero_le _) (Nat.zero_le _) ?_
  refine lv_iload_n hx hb dX11_putNumber_0 rfl (lv_at hl 1 rfl) ?_
  refine W.known (fun hzk hnk => ?_)
  refine W.widen (k := 1875) (n := 120000) (by omega) (by omega) ?_
  refine W.cut (pc := 10) (fun H locs ls stk => ∃ (fX_sheet_j5 : Nat → Int32) (dX_sheet_j5 : Nat) (nX_sheet_j5 : Nat) (iX_sheetLength_j5 : Int32), (∀ q : Nat, (-128) ≤ (fX_sheet_j5 q).toInt ∧ (fX_sheet_j5 q).toInt ≤ 127) ∧ (64 ≤ nX_sheet_j5 ∧ nX_sheet_j5 ≤ 60000) ∧ (0 ≤ iX_sheetLength_j5.toInt ∧ iX_sheetLength_j5.toInt ≤ 30000) ∧ (iX_sheetLength_j5.toInt ≤ ((nX_sheet_j5 : Nat) : Int)) ∧ (iX_sheetLength.toInt ≤ iX_sheetLength_j5.toInt) ∧ (nX_sheet ≤ nX_sheet_j5) ∧ (H.size + (nX_sheet / 32) ≤ s.heap.size + (nX_sheet_j5 / 32) ∧ nS s.heap.size H + (2 * nX_sheet) ≤ (2 * nX_sheet_j5)) ∧  stk = [] ∧ va_P (dC, dI) vwCl (WX hX aX kX hT hM fX_ready fX_sheet_j5 dX_sheet_j5 nX_sheet_j5 iX_sheetLength_j5 xX_reader xX_solver xX_prover xX_values xX_clauses xX_nets) H ∧ va_D A (WX hX aX kX hT hM fX_ready fX_sheet_j5 dX_sheet_j5 nX_sheet_j5 iX_sheetLength_j5 xX_reader xX_solver xX_prover xX_values xX_clauses xX_nets) ∧ va_S A s.heap H locs ∧ lv_has ls 5 [(0, .ref (hX 0)), (1, .int p1)]) (fun join5 => ?_) ?_
  · refine W.tight (cells2 := (nX_sheet / 32 - (nX_sheet / 32))) (slots2 := (2 * nX_sheet - (2 * nX_sheet))) hzk hnk ?_
    refine lv_if_ge (tgt := 10) hx hb dX11_putNumber_1 (by decide) (fun c_1 => ?_) (fun c_1 => ?_)
    · have t_1 : p1.toInt ≥ 0 := toI_ge c_1 rfl (by decide : (0 : Int32).toInt = 0)
      have hl : lv_has _ _ ([(0, .ref (hX 0)), (1, .int p1)]) := lv_sub hl [0, 1] rfl
      refine W.known (fun hza hna => ?_)
      refine W.widen (k := 1875) (n := 120000) (by omega) (by omega) ?_
      exact join5 _ _ _ _ ⟨fX_sheet, dX_sheet, nX_sheet, iX_sheetLength, b_fX_sheet, (by first | exact b_nX_sheet | assumption | exact ⟨by omega, by omega⟩), (b_iX_sheetLength), (by first | assumption | omega | (rw [iI_t (by omega) (by omega)]; omega) | (have h7 : (0 : Int32).toInt = 0 := (by decide); omega)), (show iX_sheetLength.toInt ≤ iX_sheetLength.toInt from by omega), (show nX_sheet ≤ nX_sheet from by omega), ⟨by omega, by omega⟩, rfl, hP, hD, hS, hl⟩
    · have t_1 : ¬ p1.toInt ≥ 0 := toI_nge c_1 rfl (by decide : (0 : Int32).toInt = 0)
      refine lv_aload_n hx hb dX11_putNumber_4 rfl (lv_at hl 0 rfl) ?_
      refine lv_bipush (v := 45) hx hb dX11_putNumber_5 (by decide) ?_
      refine W.known (fun hz0 hn0 => ?_)
      have hS0 := hS.1
      have hFc := allFree hD hS hA
      refine va_callv (va_runV (As := [.int 45]) (rest := []) ⟨hx, hb, hml, hown, hts⟩ (Met.sV (m_X11_put l dC dI hX aX kX hT hM fX_ready fX_sheet dX_sheet nX_sheet iX_sheetLength xX_reader xX_solver xX_prover xX_values xX_clauses xX_nets 45 b_fX_sheet (by first | exact b_nX_sheet | assumption | exact ⟨by omega, by omega⟩) (b_iX_sheetLength) (by first | assumption | omega | (rw [iI_t (by omega) (by omega)]; omega) | (have h7 : (0 : Int32).toInt = 0 := (by decide); omega)) s.heap.size) s.heap) (cwV 1 hts gwsMX11_putNumber_0 rfl rfl rfl (by decide +kernel) ⟨by (dsimp only [headSpec] <;> omega), by (dsimp only [headSpec] <;> omega)⟩) ⟨fun a U g mk q => by obtain ⟨q0, qh, q1, qP, qK, qD⟩ := q; exact ⟨q0, qh, q1, qP, va_K.moved (u := U) (U := U.calling g mk a) (Vm.Alike.refl U.vm) qK, qD⟩, va_recv hK hP (ci := 11) (q0 := 0) rfl rfl, fun U hU9 hW => ⟨rfl, hU9, by rw [hU9], by rw [hU9]; exact hP, va_K.moved hW.alike hK, hD.weaken (fun _ _ _ _ => trivial)⟩⟩ rfl rfl hl.1 rfl (lv_room (Nat.le_of_ble_eq_true rfl)) dX11_putNumber_7 ⟨by (dsimp only [headSpec] <;> omega), by (dsimp only [headSpec] <;> omega)⟩) hS (fun q _ h => hFc q h) hFc (fun u t9_ H1 locs ht hvm hw9 hB9 hz1 hk1 hS => ?_)
      obtain ⟨fX_sheet_2, dX_sheet_2, nX_sheet_2, iX_sheetLength_2⟩ := u
      try dsimp only at hw9 hB9
      obtain ⟨b_fX_sheet_2, b_nX_sheet_2, b_iX_sheetLength_2, b_shl_2, f2_0, f2_1⟩ := hw9
      obtain ⟨⟨hP1, hD1, hg1, hg2⟩, hSz⟩ := hB9
      rw [ht] at hP1 hSz hg1 hg2
      have hP := hP1
      have hD := hD1.weaken (fun _ q _ h => hFc q.1 h)
      have hz9 : H1.size ≤ s.heap.size + (nX_sheet_2 / 32 - (nX_sheet / 32)) := by (try dsimp only at hg1); omega
      have hn9 : nS s.heap.size H1 ≤ (2 * nX_sheet_2 - (2 * nX_sheet)) := by rw [hSz.n hS0]; (try dsimp only at hg2); omega
      refine W.tight (cells2 := (nX_sheet_2 / 32 - (nX_sheet / 32))) (slots2 := (2 * nX_sheet_2 - (2 * nX_sheet))) hz9 hn9 ?_
      clear hz9 hn9 hz0 hn0 hS0 hSz hg1 hg2
      generalize H1 = H at hP hS ⊢
      have hP : va_P (dC, dI) vwCl (WX hX aX kX hT hM fX_ready fX_sheet_2 dX_sheet_2 nX_sheet_2 iX_sheetLength_2 xX_reader xX_solver xX_prover xX_values xX_clauses xX_nets) H := hP
      have hD : va_D A (WX hX aX kX hT hM fX_ready fX_sheet_2 dX_sheet_2 nX_sheet_2 iX_sheetLength_2 xX_reader xX_solver xX_prover xX_values xX_clauses xX_nets) := hD
      have hl : lv_has _ _ ([(0, .ref (hX 0)), (1, .int p1)]) := lv_sub hl [0, 1] rfl
      refine W.known (fun hza hna => ?_)
      refine W.widen (k := 1875) (n := 120000) (by omega) (by omega) ?_
      exact join5 _ _ _ _ ⟨fX_sheet_2, dX_sheet_2, nX_sheet_2, iX_sheetLength_2, b_fX_sheet_2, (by first | exact b_nX_sheet_2 | assumption | exact ⟨by omega, by omega⟩), (b_iX_sheetLength_2), (by first | assumption | omega | (rw [iI_t (by omega) (by omega)]; omega) | (have h7 : (0 : Int32).toInt = 0 := (by decide); omega)), (show iX_sheetLength.toInt ≤ iX_sheetLength_2.toInt from by omega), (show nX_sheet ≤ nX_sheet_2 from by omega), ⟨by omega, by omega⟩, rfl, hP, hD, hS, hl⟩
  · rintro H locs ls stk ⟨fX_sheet_j5, dX_sheet_j5, nX_sheet_j5, iX_sheetLength_j5, b_fX_sheet_j5, b_nX_sheet_j5, b_iX_sheetLength_j5, b_shl_j5, hj1, hgm0_j5, ⟨hzj, hnj⟩, rfl, hP, hD, hS, hl⟩
    refine W.tight (cells2 := (nX_sheet_j5 / 32 - (nX_sheet / 32))) (slots2 := (2 * nX_sheet_j5 - (2 * nX_sheet))) (tg1 hzj hS.1) (tg2 hnj) ?_
    refine lv_aload_n hx hb dX11_putNumber_10 rfl (lv_at hl 0 rfl) ?_
    refine va_get (D := (dC, dI)) (ci := 11) (v := .int iX_sheetLength_j5) (C := RX11) (T := TX11) (N := 11) hx hb hts iwsMX11_putNumber_in11 hown hK hP 0 rfl rfl 4 (by decide) (hts (.fieldLink RX11 138 "OptimaWorks" "sheetLength" "I") (by decide +kernel)) (fun _ h9 => h9) rfl dX11_putNumber_11 ?_
    refine lv_istore_n hx hb dX11_putNumber_14 rfl hl (by decide) rfl (fun ls (hl : lv_has ls _ ([(2, .int iX_sheetLength_j5), (0, .ref (hX 0)), (1, .int p1)])) => ?_)
    refine lv_iload_n hx hb dX11_putNumber_15 rfl (lv_at hl 2 rfl) ?_
    refine W.known (fun hzk hnk => ?_)
    refine W.widen (k := 1875) (n := 120000) (by omega) (by omega) ?_
    refine W.cut (pc := 25) (fun H locs ls stk => ∃ (k0_j6 : Int32), (H.size + (nX_sheet / 32) ≤ s.heap.size + (nX_sheet_j5 / 32) ∧ nS s.heap.size H + (2 * nX_sheet) ≤ (2 * nX_sheet_j5)) ∧  stk = [.int k0_j6] ∧ va_P (dC, dI) vwCl (WX hX aX kX hT hM fX_ready fX_sheet_j5 dX_sheet_j5 nX_sheet_j5 iX_sheetLength_j5 xX_reader xX_solver xX_prover xX_values xX_clauses xX_nets) H ∧ va_D A (WX hX aX kX hT hM fX_ready fX_sheet_j5 dX_sheet_j5 nX_sheet_j5 iX_sheetLength_j5 xX_reader xX_solver xX_prover xX_values xX_clauses xX_nets) ∧ va_S A s.heap H locs ∧ lv_has ls 5 [(2, .int iX_sheetLength_j5), (0, .ref (hX 0)), (1, .int p1)]) (fun join6 => ?_) ?_
    · refine W.tight (cells2 := (nX_sheet_j5 / 32 - (nX_sheet / 32))) (slots2 := (2 * nX_sheet_j5 - (2 * nX_sheet))) hzk hnk ?_
      refine lv_if_ge (tgt := 24) hx hb dX11_putNumber_16 (by decide) (fun c_16 => ?_) (fun c_16 => ?_)
      · have t_16 : p1.toInt ≥ 0 := toI_ge c_16 rfl (by decide : (0 : Int32).toInt = 0)
        refine lv_iload_n hx hb dX11_putNumber_24 rfl (lv_at hl 2 rfl) ?_
        have hl : lv_has _ _ ([(2, .int iX_sheetLength_j5), (0, .ref (hX 0)), (1, .int p1)]) := lv_sub hl [0, 1, 2] rfl
        refine W.known (fun hza hna => ?_)
        refine W.widen (k := 1875) (n := 120000) (by omega) (by omega) ?_
        exact join6 _ _ _ _ ⟨p1, ⟨by omega, by omega⟩, rfl, hP, hD, hS, hl⟩
      · have t_16 : ¬ p1.toInt ≥ 0 := toI_nge c_16 rfl (by decide : (0 : Int32).toInt = 0)
        refine lv_iload_n hx hb dX11_putNumber_19 rfl (lv_at hl 2 rfl) ?_
        refine lv_ineg hx hb dX11_putNumber_20 ?_
        refine lv_topi (fun y4 hy4 => ?_)
        obtain rfl : (iI (-p1.toInt)) = y4 := (hy4.trans (iI_neg2 (iI_of _))).symm
        refine lv_goto (tgt := 25) hx hb dX11_putNumber_21 (by decide) ?_
        have hl : lv_has _ _ ([(2, .int iX_sheetLength_j5), (0, .ref (hX 0)), (1, .int p1)]) := lv_sub hl [0, 1, 2] rfl
        refine W.known (fun hza hna => ?_)
        refine W.widen (k := 1875) (n := 120000) (by omega) (by omega) ?_
        exact join6 _ _ _ _ ⟨(iI (-p1.toInt)), ⟨by omega, by omega⟩, rfl, hP, hD, hS, hl⟩
    · rintro H locs ls stk ⟨k0_j6, ⟨hzj, hnj⟩, rfl, hP, hD, hS, hl⟩
      refine W.tight (cells2 := (nX_sheet_j5 / 32 - (nX_sheet / 32))) (slots2 := (2 * nX_sheet_j5 - (2 * nX_sheet))) (tg1 hzj hS.1) (tg2 hnj) ?_
      refine lv_istore_n hx hb dX11_putNumber_25 rfl hl (by decide) rfl (fun ls (hl : lv_has ls _ ([(3, .int k0_j6), (2, .int iX_sheetLength_j5), (0, .ref (hX 0)), (1, .int p1)])) => ?_)
      refine lv_iconst (v := 0) hx hb dX11_putNumber_26 (by decide) ?_
      refine lv_istore hx hb dX11_putNumber_27 hl (by decide) rfl (fun ls (hl : lv_has ls _ ([(4, .int 0), (3, .int k0_j6), (2, .int iX_sheetLength_j5), (0, .ref (hX 0)), (1, .int p1)])) => ?_)
      have hl : lv_has _ _ ([(4, .int 0), (3, .int k0_j6), (2, .int iX_sheetLength_j5), (0, .ref (hX 0)), (1, .int p1)]) := lv_sub hl [0, 1, 2, 3, 4] rfl
      refine (fun (loop : ∀ (n9 : Nat) (fX_sheet_x29 : Nat → Int32) (dX_sheet_x29 : Nat) (nX_sheet_x29 : Nat) (iX_sheetLength_x29 : Int32) (l4_x29 : Int32) (l3_x29 : Int32) (H : Heap) (locs : List Loc) (ls : Array Slot), (∀ q : Nat, (-128) ≤ (fX_sheet_x29 q).toInt ∧ (fX_sheet_x29 q).toInt ≤ 127) → (64 ≤ nX_sheet_x29 ∧ nX_sheet_x29 ≤ 60000) → (0 ≤ iX_sheetLength_x29.toInt ∧ iX_sheetLength_x29.toInt ≤ 30000) → (0 ≤ l4_x29.toInt ∧ l4_x29.toInt ≤ 10) → (iX_sheetLength_x29.toInt ≤ ((nX_sheet_x29 : Nat) : Int)) → (iX_sheetLength.toInt ≤ iX_sheetLength_x29.toInt) → (iX_sheetLength_j5.toInt ≤ iX_sheetLength_x29.toInt) → (nX_sheet ≤ nX_sheet_x29) → (10 - l4_x29.toInt < ((n9 : Nat) : Int)) → va_P (dC, dI) vwCl (WX hX aX kX hT hM fX_ready fX_sheet_x29 dX_sheet_x29 nX_sheet_x29 iX_sheetLength_x29 xX_reader xX_solver xX_prover xX_values xX_clauses xX_nets) H → va_D A (WX hX aX kX hT hM fX_ready fX_sheet_x29 dX_sheet_x29 nX_sheet_x29 iX_sheetLength_x29 xX_reader xX_solver xX_prover xX_values xX_clauses xX_nets) → va_S A s.heap H locs → lv_has ls 5 [(4, .int l4_x29), (3, .int l3_x29), (2, .int iX_sheetLength_j5), (0, .ref (hX 0)), (1, .int p1)] → W p l e _ s m _ below meth c H locs (nX_sheet_x29 / 32 - (nX_sheet / 32)) (2 * nX_sheet_x29 - (2 * nX_sheet)) _ (F0 m 29 ls [])) => loop (11) fX_sheet_j5 dX_sheet_j5 nX_sheet_j5 iX_sheetLength_j5 0 k0_j6 _ _ _ b_fX_sheet_j5 (by first | exact b_nX_sheet_j5 | assumption | exact ⟨by omega, by omega⟩) (b_iX_sheetLength_j5) (show 0 ≤ (0 : Int32).toInt ∧ (0 : Int32).toInt ≤ 10 from by decide) (by first | assumption | omega | (rw [iI_t (by omega) (by omega)]; omega) | (have h7 : (0 : Int32).toInt = 0 := (by decide); omega)) (show iX_sheetLength.toInt ≤ iX_sheetLength_j5.toInt from by omega) (show iX_sheetLength_j5.toInt ≤ iX_sheetLength_j5.toInt from by omega) (show nX_sheet ≤ nX_sheet_j5 from by omega) ((by have e9 : (0 : Int32).toInt = 0 := (by decide : (0 : Int32).toInt = 0); omega)) hP hD hS hl) ?_
      intro n9
      induction n9 with
      | zero => intro fX_sheet_x29 dX_sheet_x29 nX_sheet_x29 iX_sheetLength_x29 l4_x29 l3_x29 H locs ls b_fX_sheet_x29 b_nX_sheet_x29 b_iX_sheetLength_x29 b_l4_x29 b_shl_x29 hsl_ hst_ hgm0_x29 hf9; exact False.elim (by omega)
      | succ n9 ihx29 =>
        intro fX_sheet_x29 dX_sheet_x29 nX_sheet_x29 iX_sheetLength_x29 l4_x29 l3_x29 H locs ls b_fX_sheet_x29 b_nX_sheet_x29 b_iX_sheetLength_x29 b_l4_x29 b_shl_x29 hsl_ hst_ hgm0_x29 hfx29 hP hD hS hl
        refine lv_iload hx hb dX11_putNumber_29 (lv_at hl 0 rfl) ?_
        refine lv_bipush (v := 10) hx hb dX11_putNumber_31 (by decide) ?_
        refine W.known (fun hzk hnk => ?_)
        refine W.widen (k := 1875) (n := 120000) (by omega) (by omega) ?_
        refine W.cut (pc := 67) (fun H locs ls stk => (iX_sheetLength.toInt ≤ iX_sheetLength_x29.toInt) ∧ (iX_sheetLength_j5.toInt ≤ iX_sheetLength_x29.toInt) ∧ (H.size + (nX_sheet / 32) ≤ s.heap.size + (nX_sheet_x29 / 32) ∧ nS s.heap.size H + (2 * nX_sheet) ≤ (2 * nX_sheet_x29)) ∧  stk = [] ∧ va_P (dC, dI) vwCl (WX hX aX kX hT hM fX_ready fX_sheet_x29 dX_sheet_x29 nX_sheet_x29 iX_sheetLength_x29 xX_reader xX_solver xX_prover xX_values xX_clauses xX_nets) H ∧ va_D A (WX hX aX kX hT hM fX_ready fX_sheet_x29 dX_sheet_x29 nX_sheet_x29 iX_sheetLength_x29 xX_reader xX_solver xX_prover xX_values xX_clauses xX_nets) ∧ va_S A s.heap H locs ∧ lv_has ls 5 [(4, .int l4_x29), (3, .int l3_x29), (2, .int iX_sheetLength_j5), (0, .ref (hX 0)), (1, .int p1)]) (fun join8 => ?_) ?_
        · refine W.tight (cells2 := (nX_sheet_x29 / 32 - (nX_sheet / 32))) (slots2 := (2 * nX_sheet_x29 - (2 * nX_sheet))) hzk hnk ?_
          refine lv_icmp_ge (tgt := 67) hx hb dX11_putNumber_33 (by decide) (fun c_33 => ?_) (fun c_33 => ?_)
          · have t_33 : l4_x29.toInt ≥ 10 := toI_ge c_33 rfl (by decide : (10 : Int32).toInt = 10)
            have hl : lv_has _ _ ([(4, .int l4_x29), (3, .int l3_x29), (2, .int iX_sheetLength_j5), (0, .ref (hX 0)), (1, .int p1)]) := lv_sub hl [0, 1, 2, 3, 4] rfl
            refine W.known (fun hza hna => ?_)
            refine W.widen (k := 1875) (n := 120000) (by omega) (by omega) ?_
            exact join8 _ _ _ _ ⟨(show iX_sheetLength.toInt ≤ iX_sheetLength_x29.toInt from by omega), (show iX_sheetLength_j5.toInt ≤ iX_sheetLength_x29.toInt from by omega), ⟨by omega, by omega⟩, rfl, hP, hD, hS, hl⟩
          · have t_33 : ¬ l4_x29.toInt ≥ 10 := toI_nge c_33 rfl (by decide : (10 : Int32).toInt = 10)
            refine lv_iload hx hb dX11_putNumber_36 (lv_at hl 0 rfl) ?_
            refine lv_if_eq (tgt := 45) hx hb dX11_putNumber_38 (by decide) (fun c_38 => ?_) (fun c_38 => ?_)
            · have t_38 : l4_x29.toInt = 0 := toI_eq c_38 rfl (by decide : (0 : Int32).toInt = 0)
              refine lv_aload_n hx hb dX11_putNumber_45 rfl (lv_at hl 3 rfl) ?_
              refine lv_bipush (v := 48) hx hb dX11_putNumber_46 (by decide) ?_
              refine lv_iload_n hx hb dX11_putNumber_48 rfl (lv_at hl 1 rfl) ?_
              refine lv_bipush (v := 10) hx hb dX11_putNumber_49 (by decide) ?_
              refine lv_irem hx hb dX11_putNumber_51 (by decide) ?_
              refine lv_topi (fun v34 hv34 => ?_)
              clear hv34
              refine lv_iadd hx hb dX11_putNumber_52 ?_
              refine lv_topi (fun y35 hy35 => ?_)
              obtain rfl : (iI (48 + v34.toInt)) = y35 := (hy35.trans (iI_add2 (by decide : (48 : Int32) = iI 48) (iI_of _))).symm
              refine W.known (fun hz0 hn0 => ?_)
              have hS0 := hS.1
              have hFc := allFree hD hS hA
              refine va_callv (va_runV (As := [.int (iI (48 + v34.toInt))]) (rest := []) ⟨hx, hb, hml, hown, hts⟩ (Met.sV (m_X11_put l dC dI hX aX kX hT hM fX_ready fX_sheet_x29 dX_sheet_x29 nX_sheet_x29 iX_sheetLength_x29 xX_reader xX_solver xX_prover xX_values xX_clauses xX_nets (iI (48 + v34.toInt)) b_fX_sheet_x29 (by first | exact b_nX_sheet_x29 | assumption | exact ⟨by omega, by omega⟩) (b_iX_sheetLength_x29) (by first | assumption | omega | (rw [iI_t (by omega) (by omega)]; omega) | (have h7 : (0 : Int32).toInt = 0 := (by decide); omega)) H.size) H) (cwV 1 hts gwsMX11_putNumber_0 rfl rfl rfl (by decide +kernel) ⟨by (dsimp only [headSpec] <;> omega), by (dsimp only [headSpec] <;> omega)⟩) ⟨fun a U g mk q => by obtain ⟨q0, qh, q1, qP, qK, qD⟩ := q; exact ⟨q0, qh, q1, qP, va_K.moved (u := U) (U := U.calling g mk a) (Vm.Alike.refl U.vm) qK, qD⟩, va_recv hK hP (ci := 11) (q0 := 0) rfl rfl, fun U hU9 hW => ⟨rfl, hU9, by rw [hU9], by rw [hU9]; exact hP, va_K.moved hW.alike hK, hD.weaken (fun _ _ _ _ => trivial)⟩⟩ rfl rfl hl.1 rfl (lv_room (Nat.le_of_ble_eq_true rfl)) dX11_putNumber_53 ⟨by (dsimp only [headSpec] <;> omega), by (dsimp only [headSpec] <;> omega)⟩) hS (fun q _ h => hFc q h) hFc (fun u t9_ H1 locs ht hvm hw9 hB9 hz1 hk1 hS => ?_)
              obtain ⟨fX_sheet_36, dX_sheet_36, nX_sheet_36, iX_sheetLength_36⟩ := u
              try dsimp only at hw9 hB9
              obtain ⟨b_fX_sheet_36, b_nX_sheet_36, b_iX_sheetLength_36, b_shl_36, f36_0, f36_1⟩ := hw9
              obtain ⟨⟨hP1, hD1, hg1, hg2⟩, hSz⟩ := hB9
              rw [ht] at hP1 hSz hg1 hg2
              have hP := hP1
              have hD := hD1.weaken (fun _ q _ h => hFc q.1 h)
              have hz9 : H1.size ≤ s.heap.size + (nX_sheet_36 / 32 - (nX_sheet / 32)) := by (try dsimp only at hg1); omega
              have hn9 : nS s.heap.size H1 ≤ (2 * nX_sheet_36 - (2 * nX_sheet)) := by rw [hSz.n hS0]; (try dsimp only at hg2); omega
              refine W.tight (cells2 := (nX_sheet_36 / 32 - (nX_sheet / 32))) (slots2 := (2 * nX_sheet_36 - (2 * nX_sheet))) hz9 hn9 ?_
              clear hz9 hn9 hz0 hn0 hS0 hSz hg1 hg2
              generalize H1 = H at hP hS ⊢
              have hP : va_P (dC, dI) vwCl (WX hX aX kX hT hM fX_ready fX_sheet_36 dX_sheet_36 nX_sheet_36 iX_sheetLength_36 xX_reader xX_solver xX_prover xX_values xX_clauses xX_nets) H := hP
              have hD : va_D A (WX hX aX kX hT hM fX_ready fX_sheet_36 dX_sheet_36 nX_sheet_36 iX_sheetLength_36 xX_reader xX_solver xX_prover xX_values xX_clauses xX_nets) := hD
              refine lv_iload_n hx hb dX11_putNumber_56 rfl (lv_at hl 1 rfl) ?_
              refine lv_bipush (v := 10) hx hb dX11_putNumber_57 (by decide) ?_
              refine lv_idiv hx hb dX11_putNumber_59 (by decide) ?_
              refine lv_topi (fun v37 hv37 => ?_)
              clear hv37
              refine lv_istore_n hx hb dX11_putNumber_60 rfl hl (by decide) rfl (fun ls (hl : lv_has ls _ ([(3, .int v37), (4, .int l4_x29), (2, .int iX_sheetLength_j5), (0, .ref (hX 0)), (1, .int p1)])) => ?_)
              refine lv_iinc (v := (iI (l4_x29.toInt + 1))) hx hb dX11_putNumber_61 hl (k := 1) rfl (iI_add2 (iI_of _) (by decide : (1 : Int32) = iI 1)) (by decide) rfl (fun ls (hl : lv_has ls _ ([(4, .int (iI (l4_x29.toInt + 1))), (3, .int v37), (2, .int iX_sheetLength_j5), (0, .ref (hX 0)), (1, .int p1)])) => ?_)
              refine lv_goto (tgt := 29) hx hb dX11_putNumber_64 (by decide) ?_
              have hl : lv_has _ _ ([(4, .int (iI (l4_x29.toInt + 1))), (3, .int v37), (2, .int iX_sheetLength_j5), (0, .ref (hX 0)), (1, .int p1)]) := lv_sub hl [0, 1, 2, 3, 4] rfl
              exact ihx29 fX_sheet_36 dX_sheet_36 nX_sheet_36 iX_sheetLength_36 (iI (l4_x29.toInt + 1)) v37 _ _ _ b_fX_sheet_36 (by first | exact b_nX_sheet_36 | assumption | exact ⟨by omega, by omega⟩) (b_iX_sheetLength_36) (iI_rng (Int.le_trans (by decide) (Int.add_le_add (b_l4_x29.1) (Int.le_refl _))) (by omega) (by decide) (by decide)) (by first | assumption | omega | (rw [iI_t (by omega) (by omega)]; omega) | (have h7 : (0 : Int32).toInt = 0 := (by decide); omega)) (show iX_sheetLength.toInt ≤ iX_sheetLength_36.toInt from by omega) (show iX_sheetLength_j5.toInt ≤ iX_sheetLength_36.toInt from by omega) (show nX_sheet ≤ nX_sheet_36 from by omega) (by have e9 : ((iI (l4_x29.toInt + 1))).toInt = (l4_x29.toInt + 1) := (iI_t (Int.le_trans (by decide) (Int.add_le_add (b_l4_x29.1) (Int.le_refl _))) (Int.le_trans (Int.add_le_add (b_l4_x29.2) (Int.le_refl _)) (by decide))); omega) hP hD hS hl
            · have t_38 : ¬ l4_x29.toInt = 0 := toI_neq c_38 rfl (by decide : (0 : Int32).toInt = 0)
              refine lv_iload_n hx hb dX11_putNumber_41 rfl (lv_at hl 1 rfl) ?_
              refine lv_if_eq (tgt := 67) hx hb dX11_putNumber_42 (by decide) (fun c_42 => ?_) (fun c_42 => ?_)
              · have t_42 : l3_x29.toInt = 0 := toI_eq c_42 rfl (by decide : (0 : Int32).toInt = 0)
                have hl : lv_has _ _ ([(4, .int l4_x29), (3, .int l3_x29), (2, .int iX_sheetLength_j5), (0, .ref (hX 0)), (1, .int p1)]) := lv_sub hl [0, 1, 2, 3, 4] rfl
                refine W.known (fun hza hna => ?_)
                refine W.widen (k := 1875) (n := 120000) (by omega) (by omega) ?_
                exact join8 _ _ _ _ ⟨(show iX_sheetLength.toInt ≤ iX_sheetLength_x29.toInt from by omega), (show iX_sheetLength_j5.toInt ≤ iX_sheetLength_x29.toInt from by omega), ⟨by omega, by omega⟩, rfl, hP, hD, hS, hl⟩
              · have t_42 : ¬ l3_x29.toInt = 0 := toI_neq c_42 rfl (by decide : (0 : Int32).toInt = 0)
                refine lv_aload_n hx hb dX11_putNumber_45 rfl (lv_at hl 3 rfl) ?_
                refine lv_bipush (v := 48) hx hb dX11_putNumber_46 (by decide) ?_
                refine lv_iload_n hx hb dX11_putNumber_48 rfl (lv_at hl 1 rfl) ?_
                refine lv_bipush (v := 10) hx hb dX11_putNumber_49 (by decide) ?_
                refine lv_irem hx hb dX11_putNumber_51 (by decide) ?_
                refine lv_topi (fun v38 hv38 => ?_)
                clear hv38
                refine lv_iadd hx hb dX11_putNumber_52 ?_
                refine lv_topi (fun y39 hy39 => ?_)
                obtain rfl : (iI (48 + v38.toInt)) = y39 := (hy39.trans (iI_add2 (by decide : (48 : Int32) = iI 48) (iI_of _))).symm
                refine W.known (fun hz0 hn0 => ?_)
                have hS0 := hS.1
                have hFc := allFree hD hS hA
                refine va_callv (va_runV (As := [.int (iI (48 + v38.toInt))]) (rest := []) ⟨hx, hb, hml, hown, hts⟩ (Met.sV (m_X11_put l dC dI hX aX kX hT hM fX_ready fX_sheet_x29 dX_sheet_x29 nX_sheet_x29 iX_sheetLength_x29 xX_reader xX_solver xX_prover xX_values xX_clauses xX_nets (iI (48 + v38.toInt)) b_fX_sheet_x29 (by first | exact b_nX_sheet_x29 | assumption | exact ⟨by omega, by omega⟩) (b_iX_sheetLength_x29) (by first | assumption | omega | (rw [iI_t (by omega) (by omega)]; omega) | (have h7 : (0 : Int32).toInt = 0 := (by decide); omega)) H.size) H) (cwV 1 hts gwsMX11_putNumber_0 rfl rfl rfl (by decide +kernel) ⟨by (dsimp only [headSpec] <;> omega), by (dsimp only [headSpec] <;> omega)⟩) ⟨fun a U g mk q => by obtain ⟨q0, qh, q1, qP, qK, qD⟩ := q; exact ⟨q0, qh, q1, qP, va_K.moved (u := U) (U := U.calling g mk a) (Vm.Alike.refl U.vm) qK, qD⟩, va_recv hK hP (ci := 11) (q0 := 0) rfl rfl, fun U hU9 hW => ⟨rfl, hU9, by rw [hU9], by rw [hU9]; exact hP, va_K.moved hW.alike hK, hD.weaken (fun _ _ _ _ => trivial)⟩⟩ rfl rfl hl.1 rfl (lv_room (Nat.le_of_ble_eq_true rfl)) dX11_putNumber_53 ⟨by (dsimp only [headSpec] <;> omega), by (dsimp only [headSpec] <;> omega)⟩) hS (fun q _ h => hFc q h) hFc (fun u t9_ H1 locs ht hvm hw9 hB9 hz1 hk1 hS => ?_)
                obtain ⟨fX_sheet_40, dX_sheet_40, nX_sheet_40, iX_sheetLength_40⟩ := u
                try dsimp only at hw9 hB9
                obtain ⟨b_fX_sheet_40, b_nX_sheet_40, b_iX_sheetLength_40, b_shl_40, f40_0, f40_1⟩ := hw9
                obtain ⟨⟨hP1, hD1, hg1, hg2⟩, hSz⟩ := hB9
                rw [ht] at hP1 hSz hg1 hg2
                have hP := hP1
                have hD := hD1.weaken (fun _ q _ h => hFc q.1 h)
                have hz9 : H1.size ≤ s.heap.size + (nX_sheet_40 / 32 - (nX_sheet / 32)) := by (try dsimp only at hg1); omega
                have hn9 : nS s.heap.size H1 ≤ (2 * nX_sheet_40 - (2 * nX_sheet)) := by rw [hSz.n hS0]; (try dsimp only at hg2); omega
                refine W.tight (cells2 := (nX_sheet_40 / 32 - (nX_sheet / 32))) (slots2 := (2 * nX_sheet_40 - (2 * nX_sheet))) hz9 hn9 ?_
                clear hz9 hn9 hz0 hn0 hS0 hSz hg1 hg2
                generalize H1 = H at hP hS ⊢
                have hP : va_P (dC, dI) vwCl (WX hX aX kX hT hM fX_ready fX_sheet_40 dX_sheet_40 nX_sheet_40 iX_sheetLength_40 xX_reader xX_solver xX_prover xX_values xX_clauses xX_nets) H := hP
                have hD : va_D A (WX hX aX kX hT hM fX_ready fX_sheet_40 dX_sheet_40 nX_sheet_40 iX_sheetLength_40 xX_reader xX_solver xX_prover xX_values xX_clauses xX_nets) := hD
                refine lv_iload_n hx hb dX11_putNumber_56 rfl (lv_at hl 1 rfl) ?_
                refine lv_bipush (v := 10) hx hb dX11_putNumber_57 (by decide) ?_
                refine lv_idiv hx hb dX11_putNumber_59 (by decide) ?_
                refine lv_topi (fun v41 hv41 => ?_)
                clear hv41
                refine lv_istore_n hx hb dX11_putNumber_60 rfl hl (by decide) rfl (fun ls (hl : lv_has ls _ ([(3, .int v41), (4, .int l4_x29), (2, .int iX_sheetLength_j5), (0, .ref (hX 0)), (1, .int p1)])) => ?_)
                refine lv_iinc (v := (iI (l4_x29.toInt + 1))) hx hb dX11_putNumber_61 hl (k := 1) rfl (iI_add2 (iI_of _) (by decide : (1 : Int32) = iI 1)) (by decide) rfl (fun ls (hl : lv_has ls _ ([(4, .int (iI (l4_x29.toInt + 1))), (3, .int v41), (2, .int iX_sheetLength_j5), (0, .ref (hX 0)), (1, .int p1)])) => ?_)
                refine lv_goto (tgt := 29) hx hb dX11_putNumber_64 (by decide) ?_
                have hl : lv_has _ _ ([(4, .int (iI (l4_x29.toInt + 1))), (3, .int v41), (2, .int iX_sheetLength_j5), (0, .ref (hX 0)), (1, .int p1)]) := lv_sub hl [0, 1, 2, 3, 4] rfl
                exact ihx29 fX_sheet_40 dX_sheet_40 nX_sheet_40 iX_sheetLength_40 (iI (l4_x29.toInt + 1)) v41 _ _ _ b_fX_sheet_40 (by first | exact b_nX_sheet_40 | assumption | exact ⟨by omega, by omega⟩) (b_iX_sheetLength_40) (iI_rng (Int.le_trans (by decide) (Int.add_le_add (b_l4_x29.1) (Int.le_refl _))) (by omega) (by decide) (by decide)) (by first | assumption | omega | (rw [iI_t (by omega) (by omega)]; omega) | (have h7 : (0 : Int32).toInt = 0 := (by decide); omega)) (show iX_sheetLength.toInt ≤ iX_sheetLength_40.toInt from by omega) (show iX_sheetLength_j5.toInt ≤ iX_sheetLength_40.toInt from by omega) (show nX_sheet ≤ nX_sheet_40 from by omega) (by have e9 : ((iI (l4_x29.toInt + 1))).toInt = (l4_x29.toInt + 1) := (iI_t (Int.le_trans (by decide) (Int.add_le_add (b_l4_x29.1) (Int.le_refl _))) (Int.le_trans (Int.add_le_add (b_l4_x29.2) (Int.le_refl _)) (by decide))); omega) hP hD hS hl
        · rintro H locs ls stk ⟨hj2, hj3, ⟨hzj, hnj⟩, rfl, hP, hD, hS, hl⟩
          refine W.tight (cells2 := (nX_sheet_x29 / 32 - (nX_sheet / 32))) (slots2 := (2 * nX_sheet_x29 - (2 * nX_sheet))) (tg1 hzj hS.1) (tg2 hnj) ?_
          refine lv_aload_n hx hb dX11_putNumber_67 rfl (lv_at hl 3 rfl) ?_
          refine lv_iload_n hx hb dX11_putNumber_68 rfl (lv_at hl 2 rfl) ?_
          have hFc := allFree hD hS hA
          refine va_callv (va_runV (As := [.int iX_sheetLength_j5]) (rest := []) ⟨hx, hb, hml, hown, hts⟩ (m_X11_turnRound l dC dI hX aX kX hT hM fX_ready fX_sheet_x29 dX_sheet_x29 nX_sheet_x29 iX_sheetLength_x29 xX_reader xX_solver xX_prover xX_values xX_clauses xX_nets iX_sheetLength_j5 b_fX_sheet_x29 (by first | exact b_nX_sheet_x29 | assumption | exact ⟨by omega, by omega⟩) (b_iX_sheetLength_x29) (by first | assumption | omega | (rw [iI_t (by omega) (by omega)]; omega) | (have h7 : (0 : Int32).toInt = 0 := (by decide); omega)) (b_iX_sheetLength_j5) H.size) (cwV 1 hts gwsMX11_putNumber_1 rfl rfl rfl (by decide +kernel) ⟨by (dsimp only [headSpec] <;> omega), by (dsimp only [headSpec] <;> omega)⟩) (fz_pre (va_recv hK hP (ci := 11) (q0 := 0) rfl rfl) hP hK hD) rfl rfl hl.1 rfl (lv_room (Nat.le_of_ble_eq_true rfl)) dX11_putNumber_69 ⟨by (dsimp only [headSpec] <;> omega), by (dsimp only [headSpec] <;> omega)⟩) hS (fun q _ h => hFc q h) hFc (fun u t9_ H locs ht hvm hw9 hB9 hz1 hk1 hS => ?_)
          obtain ⟨fX_sheet_42, hwit42⟩ : ∃ w9, w9 = u := ⟨u, rfl⟩
          subst hwit42
          have b_fX_sheet_42 := hw9
          try dsimp only at b_fX_sheet_42
          have hP : va_P (dC, dI) vwCl (WX hX aX kX hT hM fX_ready fX_sheet_42 dX_sheet_x29 nX_sheet_x29 iX_sheetLength_x29 xX_reader xX_solver xX_prover xX_values xX_clauses xX_nets) H := fz_P ht hB9.1
          have hD : va_D A (WX hX aX kX hT hM fX_ready fX_sheet_42 dX_sheet_x29 nX_sheet_x29 iX_sheetLength_x29 xX_reader xX_solver xX_prover xX_values xX_clauses xX_nets) := hB9.2.weaken (fun _ q _ h => hFc q.1 h)
          refine W.known (fun hz9 hn9 => ?_)
          refine W.widen (k := 3751) (n := 300000) (by omega) (by omega) ?_
          exact W.vret hx hb hr (fun t9_ ht hW => ⟨⟨(fX_sheet_42, dX_sheet_x29, nX_sheet_x29, iX_sheetLength_x29), rfl, ⟨b_fX_sheet_42, (by (try dsimp only); exact (by first | exact b_nX_sheet_x29 | assumption | exact ⟨by omega, by omega⟩)), (by (try dsimp only); exact (b_iX_sheetLength_x29)), (by (try dsimp only); exact (by first | assumption | omega | (rw [iI_t (by omega) (by omega)]; omega) | (have h7 : (0 : Int32).toInt = 0 := (by decide); omega))), (by (try dsimp only); omega), (by (try dsimp only); first | omega | (rw [iI_t (by omega) (by omega)]; omega))⟩, by rw [ht]; exact hP, hD, by rw [ht]; (try dsimp only); omega, by rw [ht]; (try dsimp only); omega⟩, hS.F ht⟩) hS.2.2 dX11_putNumber_72

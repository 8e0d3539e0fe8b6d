theorem dX9_append_0 : decode cX9_append 0 = .ok (.aload_n 0, 1) := dk_42 (by decide +kernel)
theorem dX9_append_1 : decode cX9_append 1 = .ok (.getfield 19, 3) := dk_180 (by decide +kernel)
theorem dX9_append_4 : decode cX9_append 4 = .ok (.sipush 4000, 3) := dk_17 (by decide +kernel)
theorem dX9_append_7 : decode cX9_append 7 = .ok (.if_icmp .lt 4, 3) := dk_161 (by decide +kernel)
theorem dX9_append_11 : decode cX9_append 11 = .ok (.aload_n 0, 1) := dk_42 (by decide +kernel)
theorem dX9_append_12 : decode cX9_append 12 = .ok (.getfield 19, 3) := dk_180 (by decide +kernel)
theorem dX9_append_15 : decode cX9_append 15 = .ok (.aload_n 0, 1) := dk_42 (by decide +kernel)
theorem dX9_append_16 : decode cX9_append 16 = .ok (.getfield 9, 3) := dk_180 (by decide +kernel)
theorem dX9_append_19 : decode cX9_append 19 = .ok (.arraylength, 1) := dk_190 (by decide +kernel)
theorem dX9_append_20 : decode cX9_append 20 = .ok (.if_icmp .lt 21, 3) := dk_161 (by decide +kernel)
theorem dX9_append_23 : decode cX9_append 23 = .ok (.aload_n 0, 1) := dk_42 (by decide +kernel)
theorem dX9_append_24 : decode cX9_append 24 = .ok (.aload_n 0, 1) := dk_42 (by decide +kernel)
theorem dX9_append_25 : decode cX9_append 25 = .ok (.getfield 9, 3) := dk_180 (by decide +kernel)
theorem dX9_append_28 : decode cX9_append 28 = .ok (.aload_n 0, 1) := dk_42 (by decide +kernel)
theorem dX9_append_29 : decode cX9_append 29 = .ok (.getfield 9, 3) := dk_180 (by decide +kernel)
theorem dX9_append_32 : decode cX9_append 32 = .ok (.arraylength, 1) := dk_190 (by decide +kernel)
theorem dX9_append_33 : decode cX9_append 33 = .ok (.iconst 2, 1) := dk_5 (by decide +kernel)
theorem dX9_append_34 : decode cX9_append 34 = .ok (.imul, 1) := dk_104 (by decide +kernel)
theorem dX9_append_35 : decode cX9_append 35 = .ok (.invokestatic 22, 3) := dk_184 (by decide +kernel)
theorem dX9_append_38 : decode cX9_append 38 = .ok (.putfield 9, 3) := dk_181 (by decide +kernel)
theorem dX9_append_41 : decode cX9_append 41 = .ok (.aload_n 0, 1) := dk_42 (by decide +kernel)
theorem dX9_append_42 : decode cX9_append 42 = .ok (.getfield 9, 3) := dk_180 (by decide +kernel)
theorem dX9_append_45 : decode cX9_append 45 = .ok (.aload_n 0, 1) := dk_42 (by decide +kernel)
theorem dX9_append_46 : decode cX9_append 46 = .ok (.getfield 19, 3) := dk_180 (by decide +kernel)
theorem dX9_append_49 : decode cX9_append 49 = .ok (.iload_n 1, 1) := dk_27 (by decide +kernel)
theorem dX9_append_50 : decode cX9_append 50 = .ok (.i2b, 1) := dk_145 (by decide +kernel)
theorem dX9_append_51 : decode cX9_append 51 = .ok (.bastore, 1) := dk_84 (by decide +kernel)
theorem dX9_append_52 : decode cX9_append 52 = .ok (.aload_n 0, 1) := dk_42 (by decide +kernel)
theorem dX9_append_53 : decode cX9_append 53 = .ok (.dup, 1) := dk_89 (by decide +kernel)
theorem dX9_append_54 : decode cX9_append 54 = .ok (.getfield 19, 3) := dk_180 (by decide +kernel)
theorem dX9_append_57 : decode cX9_append 57 = .ok (.iconst 1, 1) := dk_4 (by decide +kernel)
theorem dX9_append_58 : decode cX9_append 58 = .ok (.iadd, 1) := dk_96 (by decide +kernel)
theorem dX9_append_59 : decode cX9_append 59 = .ok (.putfield 19, 3) := dk_181 (by decide +kernel)
theorem dX9_append_62 : decode cX9_append 62 = .ok (.return_, 1) := dk_177 (by decide +kernel)
def wsMX9_append : List Cond := .code yX9_append cX9_append 2 none :: ([.fieldLink RX9 19 "OptimaWorks$Words" "length" "I", .fieldLink RX9 9 "OptimaWorks$Words" "tape" "[B"] ++ wsX90 ++ (va_wsS RX9 22 yJ7_copyOf_9075b wsMJ7_copyOf_9075b))
theorem iwsMX9_append_in9 : ∀ w ∈ wsX90, w ∈ wsMX9_append := fun _ h => List.mem_cons_of_mem _ (List.mem_append_left _ (List.mem_append_right _ h))
theorem gwsMX9_append_0 : GoodIn wsMX9_append (va_wsS RX9 22 yJ7_copyOf_9075b wsMJ7_copyOf_9075b) := goodIn_sub (fun _ h => List.mem_cons_of_mem _ (List.mem_append_right _ h)) (gdS (by decide +kernel) gdwsMJ7_copyOf_9075b)
theorem gdwsMX9_append : wsMX9_append.all goodWord = true := gdC rfl (gdA (gdA (by decide +kernel : ([.fieldLink RX9 19 "OptimaWorks$Words" "length" "I", .fieldLink RX9 9 "OptimaWorks$Words" "tape" "[B"] : List Cond).all goodWord = true) gdwsX90) (gdS (by decide +kernel) gdwsMJ7_copyOf_9075b))
set_option maxHeartbeats 4000000 in
set_option maxRecDepth 100000 in
/-- a byte more on the tape -/
theorem m_X9_append (l : Launch) (dC : Nat → ClassId) (dI : Nat → Nat → Nat) (hT : Nat → Nat) (aT : Nat → Nat) (kT : Nat → ClassId) (fT_tape : Nat → Int32) (dT_tape : Nat) (nT_tape : Nat) (iT_length : Int32) (iT_fault : Int32) (iT_place : Int32) (iT_kind : Int32) (iT_at : Int32) (iT_number : Int32) (jT_name : Int64) (iT_next : Int32) (p1 : Int32) (b_fT_tape : ∀ q : Nat, (-128) ≤ (fT_tape q).toInt ∧ (fT_tape q).toInt ≤ 127) (b_nT_tape : 64 ≤ nT_tape ∧ nT_tape ≤ 2560) (b_iT_length : 0 ≤ iT_length.toInt ∧ iT_length.toInt ≤ 1280) (b_iT_at : 0 ≤ iT_at.toInt ∧ iT_at.toInt ≤ 1282) (b_iT_number : 0 ≤ iT_number.toInt ∧ iT_number.toInt ≤ 999999) (b_iT_next : 0 ≤ iT_next.toInt ∧ iT_next.toInt ≤ 1282) (b_len : iT_length.toInt ≤ ((nT_tape : Nat) : Int)) (hl79 : iT_length.toInt < 1280) (sz : Nat) : Met l yX9_append wsMX9_append ({ frames := 2, cells := 81, slots := 7680, locals := 40 }) (va_Pc [.ref (hT 0), .int p1] (fun U => U.heap.size = sz ∧ va_P (dC, dI) vwCl (WT hT aT kT fT_tape dT_tape nT_tape iT_length iT_fault iT_place iT_kind iT_at iT_number jT_name iT_next) U.heap ∧ va_K (dC, dI) vwCl (tT kT) U ∧ va_D (fun _ => True) (WT hT aT kT fT_tape dT_tape nT_tape iT_length iT_fault iT_place iT_kind iT_at iT_number jT_name iT_next))) (va_Qv (fun (u : (Nat → Int32) × (Nat) × (Nat) × (Int32)) => (∀ q : Nat, (-128) ≤ ((u.1) q).toInt ∧ ((u.1) q).toInt ≤ 127) ∧ (64 ≤ (u.2.2.1) ∧ (u.2.2.1) ≤ 2560) ∧ (0 ≤ (u.2.2.2).toInt ∧ (u.2.2.2).toInt ≤ 1280) ∧ ((u.2.2.2).toInt ≤ (((u.2.2.1) : Nat) : Int)) ∧ ((u.2.2.2).toInt = iT_length.toInt + 1) ∧ (nT_tape ≤ (u.2.2.1))) (fun (u : (Nat → Int32) × (Nat) × (Nat) × (Int32)) t => va_P (dC, dI) vwCl (WT hT aT kT (u.1) (u.2.1) (u.2.2.1) (u.2.2.2) iT_fault iT_place iT_kind iT_at iT_number jT_name iT_next) t.heap ∧ va_D (va_A (WT hT aT kT fT_tape dT_tape nT_tape iT_length iT_fault iT_place iT_kind iT_at iT_number jT_name iT_next) sz) (WT hT aT kT (u.1) (u.2.1) (u.2.2.1) (u.2.2.2) iT_fault iT_place iT_kind iT_at iT_number jT_name iT_next) ∧ t.heap.size + (nT_tape / 32) ≤ sz + ((u.2.2.1) / 32) ∧ nS sz t.heap + (2 * nT_tape) ≤ (2 * (u.2.2.1))) (va_A (WT hT aT kT fT_tape dT_tape nT_tape iT_length iT_fault iT_place iT_kind iT_at iT_number jT_name iT_next) sz)) 81 7680 (va_A (WT hT aT kT fT_tape dT_tape nT_tape iT_length iT_fault iT_place iT_kind iT_at iT_number jT_name iT_next) sz) := by
  refine Met.ofW (cc := cX9_append) (maxL := 2) (ret := none) (by decide) rfl ?_
  intro p e s m args below meth c s₁ B hml hv
  obtain ⟨rfl, hsz, hP, hK, hD0⟩ := hv
  have hx := B.exec
  have hb := B.bytes
  have hr := B.returns
  have hts := atoms_spec (ws := wsMX9_append) B.pre
  have hown : s.vm.findClass RX9 = some m.cls := findClass_of_methodNamed B.named
  have hlocks := B.notSynchronized
  subst hsz
  have hD := hD0.self (sz := s.heap.size)
  generalize hAe : va_A (WT hT aT kT fT_tape dT_tape nT_tape iT_length iT_fault iT_place iT_kind iT_at iT_number jT_name iT_next) s.heap.size = A at hD ⊢
  have hA : ∀ q : Nat, s.heap.size ≤ q → A q := fun q h => by rw [← hAe]; exact Or.inr h
  have hS : va_S A s.heap s.heap [] := va_S.rf
  have hl := lv_entry ([.ref (hT 0), .int p1]) (n := 2) (Nat.le_of_ble_eq_true rfl)
  rw [lg_entry_eq]
  generalize (lg_sl ([.ref (hT 0), .int p1]) ++ List.replicate (2 - (lg_sl ([.ref (hT 0), .int p1])).length) Slot.unset).toArray = ls at hl ⊢
  have hl : lv_has ls 2 [(0, .ref (hT 0)), (1, .int p1)] := hl
  refine W.widen (k := (nT_tape / 32 - (nT_tape / 32))) (n := (2 * nT_tape - (2 * nT_tape))) (Nat.zero_le _) (Nat.zero_le _) ?_
  refine lv_aload_n hx hb dX9_append_0 rfl (lv_at hl 0 rfl) ?_
  refine va_get (D := (dC, dI)) (ci := 9) (v := .int iT_length) (C := RX9) (T := TX9) (N := 9) hx hb hts iwsMX9_append_in9 hown hK hP 0 rfl rfl 1 (by decide) (hts (.fieldLink RX9 19 "OptimaWorks$Words" "length" "I") (by decide +kernel)) (fun _ h9 => h9) rfl dX9_append_1 ?_
  refine lv_sipush (v := 4000) hx hb dX9_append_4 (by decide) ?_
  refine lv_icmp_lt (tgt := 11) hx hb dX9_append_7 (by decide) (fun c_7 => ?_) (fun c9 => False.elim (by have t9 : ¬ iT_length.toInt < 4000 := toI_nlt c9 rfl (by decide : (4000 : Int32).toInt = 4000); omega))
  have t_7 : iT_length.toInt < 4000 := toI_lt c_7 rfl (by decide : (4000 : Int32).toInt = 4000)
  refine lv_aload_n hx hb dX9_append_11 rfl (lv_at hl 0 rfl) ?_
  refine va_get (D := (dC, dI)) (ci := 9) (v := .int iT_length) (C := RX9) (T := TX9) (N := 9) hx hb hts iwsMX9_append_in9 hown hK hP 0 rfl rfl 1 (by decide) (hts (.fieldLink RX9 19 "OptimaWorks$Words" "length" "I") (by decide +kernel)) (fun _ h9 => h9) rfl dX9_append_12 ?_
  refine lv_aload_n hx hb dX9_append_15 rfl (lv_at hl 0 rfl) ?_
  refine va_get (D := (dC, dI)) (ci := 9) (v := .ref dT_tape) (C := RX9) (T := TX9) (N := 9) hx hb hts iwsMX9_append_in9 hown hK hP 0 rfl rfl 0 (by decide) (hts (.fieldLink RX9 9 "OptimaWorks$Words" "tape" "[B") (by decide +kernel)) (fun _ h9 => h9) rfl dX9_append_16 ?_
  refine va_alen hx hb hK hP 1 0 rfl rfl (v := (iI ((nT_tape : Nat) : Int))) (iI_nat _) dX9_append_19 ?_
  refine W.known (fun hzk hnk => ?_)
  refine W.widen (k := 80) (n := 5120) (by omega) (by omega) ?_
  refine W.cut (pc := 41) (fun H locs ls stk => ∃ (fT_tape_j2 : Nat → Int32) (dT_tape_j2 : Nat) (nT_tape_j2 : Nat), (∀ q : Nat, (-128) ≤ (fT_tape_j2 q).toInt ∧ (fT_tape_j2 q).toInt ≤ 127) ∧ (64 ≤ nT_tape_j2 ∧ nT_tape_j2 ≤ 2560) ∧ (iT_length.toInt ≤ ((nT_tape_j2 : Nat) : Int)) ∧ (iT_length.toInt < ((nT_tape_j2 : Nat) : Int)) ∧ (nT_tape ≤ nT_tape_j2) ∧ (H.size + (nT_tape / 32) ≤ s.heap.size + (nT_tape_j2 / 32) ∧ nS s.heap.size H + (2 * nT_tape) ≤ (2 * nT_tape_j2)) ∧  stk = [] ∧ va_P (dC, dI) vwCl (WT hT aT kT fT_tape_j2 dT_tape_j2 nT_tape_j2 iT_length iT_fault iT_place iT_kind iT_at iT_number jT_name iT_next) H ∧ va_D A (WT hT aT kT fT_tape_j2 dT_tape_j2 nT_tape_j2 iT_length iT_fault iT_place iT_kind iT_at iT_number jT_name iT_next) ∧ va_S A s.heap H locs ∧ lv_has ls 2 [(0, .ref (hT 0)), (1, .int p1)]) (fun join2 => ?_) ?_
  · refine W.tight (cells2 := (nT_tape / 32 - (nT_tape / 32))) (slots2 := (2 * nT_tape - (2 * nT_tape))) hzk hnk ?_
    refine lv_icmp_lt (tgt := 41) hx hb dX9_append_20 (by decide) (fun c_20 => ?_) (fun c_20 => ?_)
    · first | (have t_20 : iT_length.toInt < ((nT_tape : Nat) : Int) := toI_lt c_20 rfl (iI_t (by omega) (by omega))) | skip
      have hl : lv_has _ _ ([(0, .ref (hT 0)), (1, .int p1)]) := lv_sub hl [0, 1] rfl
      refine W.known (fun hza hna => ?_)
      refine W.widen (k := 80) (n := 5120) (by omega) (by omega) ?_
      exact join2 _ _ _ _ ⟨fT_tape, dT_tape, nT_tape, b_fT_tape, (by first | exact b_nT_tape | assumption | exact ⟨by omega, by omega⟩), (by first | assumption | omega | (rw [iI_t (by omega) (by omega)]; omega)), (show iT_length.toInt < ((nT_tape : Nat) : Int) from by omega), (show nT_tape ≤ nT_tape from by omega), ⟨by omega, by omega⟩, rfl, hP, hD, hS, hl⟩
    · first | (have t_20 : ¬ iT_length.toInt < ((nT_tape : Nat) : Int) := toI_nlt c_20 rfl (iI_t (by omega) (by omega))) | skip
      refine lv_aload_n hx hb dX9_append_23 rfl (lv_at hl 0 rfl) ?_
      refine lv_aload_n hx hb dX9_append_24 rfl (lv_at hl 0 rfl) ?_
      refine va_get (D := (dC, dI)) (ci := 9) (v := .ref dT_tape) (C := RX9) (T := TX9) (N := 9) hx hb hts iwsMX9_append_in9 hown hK hP 0 rfl rfl 0 (by decide) (hts (.fieldLink RX9 9 "OptimaWorks$Words" "tape" "[B") (by decide +kernel)) (fun _ h9 => h9) rfl dX9_append_25 ?_
      refine lv_aload_n hx hb dX9_append_28 rfl (lv_at hl 0 rfl) ?_
      refine va_get (D := (dC, dI)) (ci := 9) (v := .ref dT_tape) (C := RX9) (T := TX9) (N := 9) hx hb hts iwsMX9_append_in9 hown hK hP 0 rfl rfl 0 (by decide) (hts (.fieldLink RX9 9 "OptimaWorks$Words" "tape" "[B") (by decide +kernel)) (fun _ h9 => h9) rfl dX9_append_29 ?_
      refine va_alen hx hb hK hP 1 0 rfl rfl (v := (iI ((nT_tape : Nat) : Int))) (iI_nat _) dX9_append_32 ?_
      refine lv_iconst (v := 2) hx hb dX9_append_33 (by decide) ?_
      refine lv_imul hx hb dX9_append_34 ?_
      refine lv_topi (fun y3 hy3 => ?_)
      obtain rfl : (iI (((nT_tape : Nat) : Int) * 2)) = y3 := (hy3.trans (iI_mul2 rfl (by decide : (2 : Int32) = iI 2))).symm
      obtain ⟨nn4, hnn4⟩ : ∃ k9 : Nat, (k9 : Int) = (((nT_tape : Nat) : Int) * 2) := ⟨((((nT_tape : Nat) : Int) * 2)).toNat, by omega⟩
      have hPc : va_P (dC, dI) vwCl (WH (fun _ => 0) (fun _ => dT_tape) (fun _ => kT 0) nT_tape fT_tape) _ := hP.sub [1] rfl
      have hDc : va_D _ (WH (fun _ => 0) (fun _ => dT_tape) (fun _ => kT 0) nT_tape fT_tape) := hD.sub [1] (by decide) rfl
      have hKc : va_K (dC, dI) vwCl (tH (fun _ => kT 0)) _ := hK.sub [0] rfl
      have hFc := va_free (wc := WH (fun _ => 0) (fun _ => dT_tape) (fun _ => kT 0) nT_tape fT_tape) hD hS hA [1] rfl
      refine va_callr (va_runS (As := [.ref dT_tape, .int (iI (((nT_tape : Nat) : Int) * 2))]) (rest := [.ref (hT 0)]) ⟨hx, hb, hml, hown, hts⟩ (m_J7_copyOf_9075b l dC dI (fun _ => 0) (fun _ => dT_tape) (fun _ => kT 0) nT_tape fT_tape (iI (((nT_tape : Nat) : Int) * 2)) nn4 ⟨by omega, by omega⟩ b_fT_tape ((iI_t (by omega) (by omega)).trans hnn4.symm) (by omega) (by omega) s.heap.size) (va_cwS 2 hts gwsMX9_append_0 rfl rfl rfl (by decide +kernel) ⟨(by (dsimp only [headSpec] <;> omega)), (by (dsimp only [headSpec] <;> omega))⟩) ⟨fun a U g mk q => by obtain ⟨q0, q1, qP, qK, qD⟩ := q; exact ⟨q0, q1, qP, va_K.moved (u := U) (U := U.calling g mk a) (Vm.Alike.refl U.vm) qK, qD⟩, fun U hU9 hW => ⟨rfl, by rw [hU9], by rw [hU9]; exact hPc, va_K.moved hW.alike hKc, hDc.weaken (fun _ _ _ _ => trivial)⟩⟩ rfl rfl hl.1 rfl (lv_room (Nat.le_of_ble_eq_true rfl)) dX9_append_35 ⟨(by (dsimp only [headSpec] <;> omega)), (by (dsimp only [headSpec] <;> omega))⟩) hS (fun q _ h => hFc q h) hFc (fun uC4 ra4 t9_ H locs ht hvm hw9 hB9 hz1 hk1 hS => ?_)
      obtain ⟨hP, hD⟩ := va_join (wr := [(hT 0, .inr (9, [.ref dT_tape, .int iT_length, .int iT_fault, .int iT_place, .int iT_kind, .int iT_at, .int iT_number, .long jT_name, .int iT_next]))]) (w1 := [(dT_tape, .inl (kT 0, nT_tape, .inl fT_tape)), (ra4, .inl (kT 0, nn4, .inl uC4))]) hP hD [1] [0] rfl rfl (by decide) (by decide) hk1 hFc (fz_P ht hB9.1) hB9.2
      have hP : va_P (dC, dI) vwCl ((WT hT aT kT fT_tape dT_tape nT_tape iT_length iT_fault iT_place iT_kind iT_at iT_number jT_name iT_next) ++ [(ra4, .inl (kT 0, nn4, .inl uC4))]) H := hP.sub [0, 1, 2] rfl
      have hD : va_D A ((WT hT aT kT fT_tape dT_tape nT_tape iT_length iT_fault iT_place iT_kind iT_at iT_number jT_name iT_next) ++ [(ra4, .inl (kT 0, nn4, .inl uC4))]) := hD.sub [0, 1, 2] (by decide) rfl
      have b_uC4 := hw9
      refine va_put (D := (dC, dI)) (ci := 9) (v := .ref ra4) (ty := .array .byte) (C := RX9) (T := TX9) (N := 9) hx hb hts iwsMX9_append_in9 tyX9 tyX9_ok nmX9 hown hK hP hD hS 0 rfl rfl 0 (by decide) (hts (.fieldLink RX9 9 "OptimaWorks$Words" "tape" "[B") (by decide +kernel)) (fun _ h9 => h9) rfl (by decide +kernel) rfl rfl (Nat.le_of_ble_eq_true rfl) dX9_append_38 (fun H locs hP hD hS => ?_)
      have hP : va_P (dC, dI) vwCl (WT hT aT kT uC4 ra4 nn4 iT_length iT_fault iT_place iT_kind iT_at iT_number jT_name iT_next) _ := hP.sub [0, 2] rfl
      have hD : va_D _ (WT hT aT kT uC4 ra4 nn4 iT_length iT_fault iT_place iT_kind iT_at iT_number jT_name iT_next) := hD.sub [0, 2] (by decide) rfl
      have hP : va_P (dC, dI) vwCl (WT hT aT kT uC4 ra4 nn4 iT_length iT_fault iT_place iT_kind iT_at iT_number jT_name iT_next) H := hP
      have hD : va_D A (WT hT aT kT uC4 ra4 nn4 iT_length iT_fault iT_place iT_kind iT_at iT_number jT_name iT_next) := hD
      refine W.widen (k := (nn4 / 32 - (nT_tape / 32))) (n := (2 * nn4 - (2 * nT_tape))) (by omega) (by omega) ?_
      have hl : lv_has _ _ ([(0, .ref (hT 0)), (1, .int p1)]) := lv_sub hl [0, 1] rfl
      refine W.known (fun hza hna => ?_)
      refine W.widen (k := 80) (n := 5120) (by omega) (by omega) ?_
      exact join2 _ _ _ _ ⟨uC4, ra4, nn4, b_uC4, (by first | exact b_nn4 | assumption | exact ⟨by omega, by omega⟩), (by first | assumption | omega | (rw [iI_t (by omega) (by omega)]; omega)), (show iT_length.toInt < ((nn4 : Nat) : Int) from by omega), (show nT_tape ≤ nn4 from by omega), ⟨by omega, by omega⟩, rfl, hP, hD, hS, hl⟩
  · rintro H locs ls stk ⟨fT_tape_j2, dT_tape_j2, nT_tape_j2, b_fT_tape_j2, b_nT_tape_j2, b_len_j2, hjn, hgm0_j2, ⟨hzj, hnj⟩, rfl, hP, hD, hS, hl⟩
    refine W.tight (cells2 := (nT_tape_j2 / 32 - (nT_tape / 32))) (slots2 := (2 * nT_tape_j2 - (2 * nT_tape))) (tg1 hzj hS.1) (tg2 hnj) ?_
    refine lv_aload_n hx hb dX9_append_41 rfl (lv_at hl 0 rfl) ?_
    refine va_get (D := (dC, dI)) (ci := 9) (v := .ref dT_tape_j2) (C := RX9) (T := TX9) (N := 9) hx hb hts iwsMX9_append_in9 hown hK hP 0 rfl rfl 0 (by decide) (hts (.fieldLink RX9 9 "OptimaWorks$Words" "tape" "[B") (by decide +kernel)) (fun _ h9 => h9) rfl dX9_append_42 ?_
    refine lv_aload_n hx hb dX9_append_45 rfl (lv_at hl 0 rfl) ?_
    refine va_get (D := (dC, dI)) (ci := 9) (v := .int iT_length) (C := RX9) (T := TX9) (N := 9) hx hb hts iwsMX9_append_in9 hown hK hP 0 rfl rfl 1 (by decide) (hts (.fieldLink RX9 19 "OptimaWorks$Words" "length" "I") (by decide +kernel)) (fun _ h9 => h9) rfl dX9_append_46 ?_
    refine lv_iload_n hx hb dX9_append_49 rfl (lv_at hl 1 rfl) ?_
    refine lv_i2b hx hb dX9_append_50 rfl ?_
    refine lv_topi (fun v5 hv5 => ?_)
    clear hv5
    refine va_bast (cA := kT 0) (n := nT_tape_j2) (f := fT_tape_j2) hx hb hK hP hD hS 1 0 rfl rfl (vp_in_iff.mpr ⟨b_iT_length.1, (by omega)⟩) dX9_append_51 (fun H locs hP hD hS => ?_)
    obtain ⟨u6, hu6⟩ : ∃ f9, f9 = upd fT_tape_j2 (iT_length).toNatClampNeg (vp_nar FieldType.byte v5) := ⟨_, rfl⟩
    have hP : va_P (dC, dI) vwCl (WT hT aT kT u6 dT_tape_j2 nT_tape_j2 iT_length iT_fault iT_place iT_kind iT_at iT_number jT_name iT_next) H := by rw [hu6]; exact hP
    have hD : va_D A (WT hT aT kT u6 dT_tape_j2 nT_tape_j2 iT_length iT_fault iT_place iT_kind iT_at iT_number jT_name iT_next) := by rw [hu6]; exact hD
    have b_u6 : ∀ q : Nat, (-128) ≤ (u6 q).toInt ∧ (u6 q).toInt ≤ 127 := by rw [hu6]; exact updb_r b_fT_tape_j2
    clear hu6
    refine lv_aload_n hx hb dX9_append_52 rfl (lv_at hl 0 rfl) ?_
    refine lv_dup hx hb dX9_append_53 rfl ?_
    refine va_get (D := (dC, dI)) (ci := 9) (v := .int iT_length) (C := RX9) (T := TX9) (N := 9) hx hb hts iwsMX9_append_in9 hown hK hP 0 rfl rfl 1 (by decide) (hts (.fieldLink RX9 19 "OptimaWorks$Words" "length" "I") (by decide +kernel)) (fun _ h9 => h9) rfl dX9_append_54 ?_
    refine lv_iconst (v := 1) hx hb dX9_append_57 (by decide) ?_
    refine lv_iadd hx hb dX9_append_58 ?_
    refine lv_topi (fun y7 hy7 => ?_)
    obtain rfl : (iI (iT_length.toInt + 1)) = y7 := (hy7.trans (iI_add2 (iI_of _) (by decide : (1 : Int32) = iI 1))).symm
    refine va_put (D := (dC, dI)) (ci := 9) (v := .int (iI (iT_length.toInt + 1))) (ty := .int) (C := RX9) (T := TX9) (N := 9) hx hb hts iwsMX9_append_in9 tyX9 tyX9_ok nmX9 hown hK hP hD hS 0 rfl rfl 1 (by decide) (hts (.fieldLink RX9 19 "OptimaWorks$Words" "length" "I") (by decide +kernel)) (fun _ h9 => h9) rfl (by decide +kernel) rfl rfl (Nat.le_of_ble_eq_true rfl) dX9_append_59 (fun H locs hP hD hS => ?_)
    have hP : va_P (dC, dI) vwCl (WT hT aT kT u6 dT_tape_j2 nT_tape_j2 (iI (iT_length.toInt + 1)) iT_fault iT_place iT_kind iT_at iT_number jT_name iT_next) H := hP
    have hD : va_D A (WT hT aT kT u6 dT_tape_j2 nT_tape_j2 (iI (iT_length.toInt + 1)) iT_fault iT_place iT_kind iT_at iT_number jT_name iT_next) := hD
    refine W.known (fun hz9 hn9 => ?_)
    refine W.widen (k := 81) (n := 7680) (by omega) (by omega) ?_
    exact W.vret hx hb hr (fun t9_ ht hW => ⟨⟨(u6, dT_tape_j2, nT_tape_j2, (iI (iT_length.toInt + 1))), rfl, ⟨b_u6, (by (try dsimp only); exact (by first | exact b_nT_tape_j2 | assumption | exact ⟨by omega, by omega⟩)), (by (try dsimp only); exact (iI_rng (Int.le_trans (by decide) (Int.add_le_add (b_iT_length.1) (Int.le_refl _))) (by omega) (by decide) (by decide))), (by (try dsimp only); exact (by first | assumption | omega | (rw [iI_t (by omega) (by omega)]; omega))), (by (try dsimp only); first | exact iI_t (by omega) (by omega) | omega), (by (try dsimp only); omega)⟩, by rw [ht]; exact hP, hD, by rw [ht]; (try dsimp only); omega, by rw [ht]; (try dsimp only); omega⟩, hS.F ht⟩) hS.2.2 dX9_append_62

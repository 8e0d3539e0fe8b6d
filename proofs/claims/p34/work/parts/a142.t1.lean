def WT (hT : Nat → Nat) (aT : Nat → Nat) (kT : Nat → ClassId) (fT_tape : Nat → Int32) (dT_tape : Nat) (nT_tape : Nat) (iT_length : Int32) (iT_fault : Int32) (iT_place : Int32) (iT_kind : Int32) (iT_at : Int32) (iT_number : Int32) (jT_name : Int64) (iT_next : Int32) : va_W := [(hT 0, .inr (9, [.ref dT_tape, .int iT_length, .int iT_fault, .int iT_place, .int iT_kind, .int iT_at, .int iT_number, .long jT_name, .int iT_next])), (dT_tape, .inl (kT 0, nT_tape, .inl fT_tape))]
def tT (kT : Nat → ClassId) : List (ClassId × FieldType) := [(kT 0, .byte)]
theorem dX9_fail_0 : decode cX9_fail 0 = .ok (.aload_n 0, 1) := dk_42 (by decide +kernel)
theorem dX9_fail_1 : decode cX9_fail 1 = .ok (.iload_n 1, 1) := dk_27 (by decide +kernel)
theorem dX9_fail_2 : decode cX9_fail 2 = .ok (.putfield 28, 3) := dk_181 (by decide +kernel)
theorem dX9_fail_5 : decode cX9_fail 5 = .ok (.aload_n 0, 1) := dk_42 (by decide +kernel)
theorem dX9_fail_6 : decode cX9_fail 6 = .ok (.iload_n 2, 1) := dk_28 (by decide +kernel)
theorem dX9_fail_7 : decode cX9_fail 7 = .ok (.putfield 15, 3) := dk_181 (by decide +kernel)
theorem dX9_fail_10 : decode cX9_fail 10 = .ok (.new 31, 3) := dk_187 (by decide +kernel)
theorem dX9_fail_13 : decode cX9_fail 13 = .ok (.dup, 1) := dk_89 (by decide +kernel)
theorem dX9_fail_14 : decode cX9_fail 14 = .ok (.invokespecial 33, 3) := dk_183 (by decide +kernel)
theorem dX9_fail_17 : decode cX9_fail 17 = .ok (.athrow, 1) := dk_191 (by decide +kernel)
def wsMX9_fail : List Cond := .code yX9_fail cX9_fail 3 none :: ([.fieldLink RX9 28 "OptimaWorks$Words" "fault" "I", .fieldLink RX9 15 "OptimaWorks$Words" "place" "I", .classLink RX9 31 "java/lang/IllegalArgumentException", .initialized "java/lang/IllegalArgumentException"] ++ wsX90 ++ ((vx_at0 RX9 33 "java/lang/IllegalArgumentException" ["java/lang/RuntimeException", "java/lang/Exception"]).filter goodWord))
theorem iwsMX9_fail_in9 : ∀ w ∈ wsX90, w ∈ wsMX9_fail := fun _ h => List.mem_cons_of_mem _ (List.mem_append_left _ (List.mem_append_right _ h))
theorem gdwsMX9_fail : wsMX9_fail.all goodWord = true := gdC rfl (gdA (gdA (by decide +kernel : ([.fieldLink RX9 28 "OptimaWorks$Words" "fault" "I", .fieldLink RX9 15 "OptimaWorks$Words" "place" "I", .classLink RX9 31 "java/lang/IllegalArgumentException", .initialized "java/lang/IllegalArgumentException"] : List Cond).all goodWord = true) gdwsX90) (gdF _))
set_option maxHeartbeats 4000000 in
set_option maxRecDepth 100000 in
/-- a fault -/
theorem m_X9_fail (l : Launch) (hst : l.stackTraces = false) (dC : Nat → ClassId) (dI : Nat → Nat → Nat) (hT : Nat → Nat) (aT : Nat → Nat) (kT : Nat → ClassId) (fT_tape : Nat → Int32) (dT_tape : Nat) (nT_tape : Nat) (iT_length : Int32) (iT_fault : Int32) (iT_place : Int32) (iT_kind : Int32) (iT_at : Int32) (iT_number : Int32) (jT_name : Int64) (iT_next : Int32) (p1 : Int32) (p2 : Int32) (b_fT_tape : ∀ q : Nat, (-128) ≤ (fT_tape q).toInt ∧ (fT_tape q).toInt ≤ 127) (b_nT_tape : 64 ≤ nT_tape ∧ nT_tape ≤ 2560) (b_iT_length : 0 ≤ iT_length.toInt ∧ iT_length.toInt ≤ 1280) (b_iT_at : 0 ≤ iT_at.toInt ∧ iT_at.toInt ≤ 1282) (b_iT_number : 0 ≤ iT_number.toInt ∧ iT_number.toInt ≤ 999999) (b_iT_next : 0 ≤ iT_next.toInt ∧ iT_next.toInt ≤ 1282) (b_len : iT_length.toInt ≤ ((nT_tape : Nat) : Int)) (sz : Nat) : vx_Met l yX9_fail wsMX9_fail ({ frames := 6, cells := 1, slots := 6, locals := 81 }) (va_Pc [.ref (hT 0), .int p1, .int p2] (fun U => U.heap.size = sz ∧ va_P (dC, dI) vwCl (WT hT aT kT fT_tape dT_tape nT_tape iT_length iT_fault iT_place iT_kind iT_at iT_number jT_name iT_next) U.heap ∧ va_K (dC, dI) vwCl (tT kT) U ∧ va_D (fun _ => True) (WT hT aT kT fT_tape dT_tape nT_tape iT_length iT_fault iT_place iT_kind iT_at iT_number jT_name iT_next) ∧ CE (va_A (WT hT aT kT fT_tape dT_tape nT_tape iT_length iT_fault iT_place iT_kind iT_at iT_number jT_name iT_next) sz) U U.heap)) (va_Qv (fun (u : (Int32) × (Int32)) => False) (fun (u : (Int32) × (Int32)) t => va_P (dC, dI) vwCl (WT hT aT kT fT_tape dT_tape nT_tape iT_length (u.1) (u.2) iT_kind iT_at iT_number jT_name iT_next) t.heap ∧ va_D (va_A (WT hT aT kT fT_tape dT_tape nT_tape iT_length iT_fault iT_place iT_kind iT_at iT_number jT_name iT_next) sz) (WT hT aT kT fT_tape dT_tape nT_tape iT_length (u.1) (u.2) iT_kind iT_at iT_number jT_name iT_next)) (va_A (WT hT aT kT fT_tape dT_tape nT_tape iT_length iT_fault iT_place iT_kind iT_at iT_number jT_name iT_next) sz)) (vx_X (fun (u : (Int32) × (Int32)) => True) (fun E (u : (Int32) × (Int32)) t => (E = "java/lang/IllegalArgumentException") ∧ va_P (dC, dI) vwCl (WT hT aT kT fT_tape dT_tape nT_tape iT_length (u.1) (u.2) iT_kind iT_at iT_number jT_name iT_next) t.heap ∧ va_D (va_A (WT hT aT kT fT_tape dT_tape nT_tape iT_length iT_fault iT_place iT_kind iT_at iT_number jT_name iT_next) sz) (WT hT aT kT fT_tape dT_tape nT_tape iT_length (u.1) (u.2) iT_kind iT_at iT_number jT_name iT_next)) (va_A (WT hT aT kT fT_tape dT_tape nT_tape iT_length iT_fault iT_place iT_kind iT_at iT_number jT_name iT_next) sz)) 1 6 (va_A (WT hT aT kT fT_tape dT_tape nT_tape iT_length iT_fault iT_place iT_kind iT_at iT_number jT_name iT_next) sz) := by
  refine vx_ofW (cc := cX9_fail) (maxL := 3) (ret := none) (by decide) rfl ?_
  intro p e s m args below meth c s₁ B hml htab hv
  obtain ⟨rfl, hsz, hP, hK, hD0, hE⟩ := hv
  have hx := B.exec
  have hb := B.bytes
  have hr := B.returns
  have hts := atoms_spec (ws := wsMX9_fail) B.pre
  have hown : s.vm.findClass RX9 = some m.cls := findClass_of_methodNamed B.named
  have hlocks := B.notSynchronized
  subst hsz
  have hD := hD0.self (sz := s.heap.size)
  generalize hAe : va_A (WT hT aT kT fT_tape dT_tape nT_tape iT_length iT_fault iT_place iT_kind iT_at iT_number jT_name iT_next) s.heap.size = A at hD hE ⊢
  have hA : ∀ q : Nat, s.heap.size ≤ q → A q := fun q h => by rw [← hAe]; exact Or.inr h
  have hS : va_S A s.heap s.heap [] := va_S.rf
  have hl := lv_entry ([.ref (hT 0), .int p1, .int p2]) (n := 3) (Nat.le_of_ble_eq_true rfl)
  rw [lg_entry_eq]
  generalize (lg_sl ([.ref (hT 0), .int p1, .int p2]) ++ List.replicate (3 - (lg_sl ([.ref (hT 0), .int p1, .int p2])).length) Slot.unset).toArray = ls at hl ⊢
  have hl : lv_has ls 3 [(0, .ref (hT 0)), (1, .int p1), (2, .int p2)] := hl
  refine lv_aload_n hx hb dX9_fail_0 rfl (lv_at hl 0 rfl) ?_
  refine lv_iload_n hx hb dX9_fail_1 rfl (lv_at hl 1 rfl) ?_
  refine va_put (D := (dC, dI)) (ci := 9) (v := .int p1) (ty := .int) (C := RX9) (T := TX9) (N := 9) hx hb hts iwsMX9_fail_in9 tyX9 tyX9_ok nmX9 hown hK hP hD hS 0 rfl rfl 2 (by decide) (hts (.fieldLink RX9 28 "OptimaWorks$Words" "fault" "I") (by decide +kernel)) (fun _ h9 => h9) rfl (by decide +kernel) rfl rfl (Nat.le_of_ble_eq_true rfl) dX9_fail_2 (fun H locs hP hD hS => ?_)
  have hP : va_P (dC, dI) vwCl (WT hT aT kT fT_tape dT_tape nT_tape iT_length p1 iT_place iT_kind iT_at iT_number jT_name iT_next) H := hP
  have hD : va_D A (WT hT aT kT fT_tape dT_tape nT_tape iT_length p1 iT_place iT_kind iT_at iT_number jT_name iT_next) := hD
  refine lv_aload_n hx hb dX9_fail_5 rfl (lv_at hl 0 rfl) ?_
  refine lv_iload_n hx hb dX9_fail_6 rfl (lv_at hl 2 rfl) ?_
  refine va_put (D := (dC, dI)) (ci := 9) (v := .int p2) (ty := .int) (C := RX9) (T := TX9) (N := 9) hx hb hts iwsMX9_fail_in9 tyX9 tyX9_ok nmX9 hown hK hP hD hS 0 rfl rfl 3 (by decide) (hts (.fieldLink RX9 15 "OptimaWorks$Words" "place" "I") (by decide +kernel)) (fun _ h9 => h9) rfl (by decide +kernel) rfl rfl (Nat.le_of_ble_eq_true rfl) dX9_fail_7 (fun H locs hP hD hS => ?_)
  have hP : va_P (dC, dI) vwCl (WT hT aT kT fT_tape dT_tape nT_tape iT_length p1 p2 iT_kind iT_at iT_number jT_name iT_next) H := hP
  have hD : va_D A (WT hT aT kT fT_tape dT_tape nT_tape iT_length p1 p2 iT_kind iT_at iT_number jT_name iT_next) := hD
  exact vx_throw0 (own := RX9) (cls := "java/lang/IllegalArgumentException") (names := ["java/lang/RuntimeException", "java/lang/Exception"]) (ik := 31) (ic := 33) (A := A) hx hb hst hown (by decide +kernel) (by decide +kernel) (hts (.classLink RX9 31 "java/lang/IllegalArgumentException") (by decide +kernel)) (hts (.initialized "java/lang/IllegalArgumentException") (by decide +kernel)) (vx_hat (B := ngX9_33) (fun w h => hts w (List.mem_cons_of_mem _ (List.mem_append_right _ h))) (fun _ h => h) (fun w h => va_Nw.use (ngX9_33_ot w h) (hE.2.2.1.1 w h))) (by decide +kernel) hE.2.1.1 hE.2.1.2 hS (by rw [hml]; exact hl.1) dX9_fail_10 dX9_fail_13 dX9_fail_14 dX9_fail_17 (fun x hx9 => (htab x hx9).elim) (by decide +kernel) (Nat.le_of_ble_eq_true rfl) (by decide +kernel) (by decide +kernel) hlocks (fun t hvm hz hk => ⟨(p1, p2), trivial, ⟨rfl, hP.kept (fun k q h => hk q.1 ((hP k q h).lt)), hD⟩, ⟨Nat.le_trans hS.1 hz, fun q h1 h2 => (hk q (Nat.lt_of_lt_of_le h1 hS.1)).trans (hS.2.1 q h1 h2)⟩⟩) hS.2.2 (by decide +kernel) (by decide +kernel)
theorem dX9_failHere_0 : decode cX9_failHere 0 = .ok (.aload_n 0, 1) := dk_42 (by decide +kernel)
theorem dX9_failHere_1 : decode cX9_failHere 1 = .ok (.iload_n 1, 1) := dk_27 (by decide +kernel)
theorem dX9_failHere_2 : decode cX9_failHere 2 = .ok (.putfield 28, 3) := dk_181 (by decide +kernel)
theorem dX9_failHere_5 : decode cX9_failHere 5 = .ok (.aload_n 0, 1) := dk_42 (by decide +kernel)
theorem dX9_failHere_6 : decode cX9_failHere 6 = .ok (.aload_n 0, 1) := dk_42 (by decide +kernel)
theorem dX9_failHere_7 : decode cX9_failHere 7 = .ok (.getfield 34, 3) := dk_180 (by decide +kernel)
theorem dX9_failHere_10 : decode cX9_failHere 10 = .ok (.putfield 15, 3) := dk_181 (by decide +kernel)
theorem dX9_failHere_13 : decode cX9_failHere 13 = .ok (.new 31, 3) := dk_187 (by decide +kernel)
theorem dX9_failHere_16 : decode cX9_failHere 16 = .ok (.dup, 1) := dk_89 (by decide +kernel)
theorem dX9_failHere_17 : decode cX9_failHere 17 = .ok (.invokespecial 33, 3) := dk_183 (by decide +kernel)
theorem dX9_failHere_20 : decode cX9_failHere 20 = .ok (.athrow, 1) := dk_191 (by decide +kernel)
def wsMX9_failHere : List Cond := .code yX9_failHere cX9_failHere 2 none :: ([.fieldLink RX9 28 "OptimaWorks$Words" "fault" "I", .fieldLink RX9 34 "OptimaWorks$Words" "at" "I", .fieldLink RX9 15 "OptimaWorks$Words" "place" "I", .classLink RX9 31 "java/lang/IllegalArgumentException", .initialized "java/lang/IllegalArgumentException"] ++ wsX90 ++ ((vx_at0 RX9 33 "java/lang/IllegalArgumentException" ["java/lang/RuntimeException", "java/lang/Exception"]).filter goodWord))
theorem iwsMX9_failHere_in9 : ∀ w ∈ wsX90, w ∈ wsMX9_failHere := fun _ h => List.mem_cons_of_mem _ (List.mem_append_left _ (List.mem_append_right _ h))
theorem gdwsMX9_failHere : wsMX9_failHere.all goodWord = true := gdC rfl (gdA (gdA (by decide +kernel : ([.fieldLink RX9 28 "OptimaWorks$Words" "fault" "I", .fieldLink RX9 34 "OptimaWorks$Words" "at" "I", .fieldLink RX9 15 "OptimaWorks$Words" "place" "I", .classLink RX9 31 "java/lang/IllegalArgumentException", .initialized "java/lang/IllegalArgumentException"] : List Cond).all goodWord = true) gdwsX90) (gdF _))
set_option maxHeartbeats 4000000 in
set_option maxRecDepth 100000 in
/-- a fault here -/
theorem m_X9_failHere (l : Launch) (hst : l.stackTraces = false) (dC : Nat → ClassId) (dI : Nat → Nat → Nat) (hT : Nat → Nat) (aT : Nat → Nat) (kT : Nat → ClassId) (fT_tape : Nat → Int32) (dT_tape : Nat) (nT_tape : Nat) (iT_length : Int32) (iT_fault : Int32) (iT_place : Int32) (iT_kind : Int32) (iT_at : Int32) (iT_number : Int32) (jT_name : Int64) (iT_next : Int32) (p1 : Int32) (b_fT_tape : ∀ q : Nat, (-128) ≤ (fT_tape q).toInt ∧ (fT_tape q).toInt ≤ 127) (b_nT_tape : 64 ≤ nT_tape ∧ nT_tape ≤ 2560) (b_iT_length : 0 ≤ iT_length.toInt ∧ iT_length.toInt ≤ 1280) (b_iT_at : 0 ≤ iT_at.toInt ∧ iT_at.toInt ≤ 1282) (b_iT_number : 0 ≤ iT_number.toInt ∧ iT_number.toInt ≤ 999999) (b_iT_next : 0 ≤ iT_next.toInt ∧ iT_next.toInt ≤ 1282) (b_len : iT_length.toInt ≤ ((nT_tape : Nat) : Int)) (sz : Nat) : vx_Met l yX9_failHere wsMX9_failHere ({ frames := 6, cells := 1, slots := 6, locals := 81 }) (va_Pc [.ref (hT 0), .int p1] (fun U => U.heap.size = sz ∧ va_P (dC, dI) vwCl (WT hT aT kT fT_tape dT_tape nT_tape iT_length iT_fault iT_place iT_kind iT_at iT_number jT_name iT_next) U.heap ∧ va_K (dC, dI) vwCl (tT kT) U ∧ va_D (fun _ => True) (WT hT aT kT fT_tape dT_tape nT_tape iT_length iT_fault iT_place iT_kind iT_at iT_number jT_name iT_next) ∧ CE (va_A (WT hT aT kT fT_tape dT_tape nT_tape iT_length iT_fault iT_place iT_kind iT_at iT_number jT_name iT_next) sz) U U.heap)) (va_Qv (fun (u : (Int32) × (Int32)) => False) (fun (u : (Int32) × (Int32)) t => va_P (dC, dI) vwCl (WT hT aT kT fT_tape dT_tape nT_tape iT_length (u.1) (u.2) iT_kind iT_at iT_number jT_name iT_next) t.heap ∧ va_D (va_A (WT hT aT kT fT_tape dT_tape nT_tape iT_length iT_fault iT_place iT_kind iT_at iT_number jT_name iT_next) sz) (WT hT aT kT fT_tape dT_tape nT_tape iT_length (u.1) (u.2) iT_kind iT_at iT_number jT_name iT_next)) (va_A (WT hT aT kT fT_tape dT_tape nT_tape iT_length iT_fault iT_place iT_kind iT_at iT_number jT_name iT_next) sz)) (vx_X (fun (u : (Int32) × (Int32)) => True) (fun E (u : (Int32) × (Int32)) t => (E = "java/lang/IllegalArgumentException") ∧ va_P (dC, dI) vwCl (WT hT aT kT fT_tape dT_tape nT_tape iT_length (u.1) (u.2) iT_kind iT_at iT_number jT_name iT_next) t.heap ∧ va_D (va_A (WT hT aT kT fT_tape dT_tape nT_tape iT_length iT_fault iT_place iT_kind iT_at iT_number jT_name iT_next) sz) (WT hT aT kT fT_tape dT_tape nT_tape iT_length (u.1) (u.2) iT_kind iT_at iT_number jT_name iT_next)) (va_A (WT hT aT kT fT_tape dT_tape nT_tape iT_length iT_fault iT_place iT_kind iT_at iT_number jT_name iT_next) sz)) 1 6 (va_A (WT hT aT kT fT_tape dT_tape nT_tape iT_length iT_fault iT_place iT_kind iT_at iT_number jT_name iT_next) sz) := by
  refine vx_ofW (cc := cX9_failHere) (maxL := 2) (ret := none) (by decide) rfl ?_
  intro p e s m args below meth c s₁ B hml htab hv
  obtain ⟨rfl, hsz, hP, hK, hD0, hE⟩ := hv
  have hx := B.exec
  have hb := B.bytes
  have hr := B.returns
  have hts := atoms_spec (ws := wsMX9_failHere) B.pre
  have hown : s.vm.findClass RX9 = some m.cls := findClass_of_methodNamed B.named
  have hlocks := B.notSynchronized
  subst hsz
  have hD := hD0.self (sz := s.heap.size)
  generalize hAe : va_A (WT hT aT kT fT_tape dT_tape nT_tape iT_length iT_fault iT_place iT_kind iT_at iT_number jT_name iT_next) s.heap.size = A at hD hE ⊢
  have hA : ∀ q : Nat, s.heap.size ≤ q → A q := fun q h => by rw [← hAe]; exact Or.inr h
  have hS : va_S A s.heap s.heap [] := va_S.rf
  have hl := lv_entry ([.ref (hT 0), .int p1]) (n := 2) (Nat.le_of_ble_eq_true rfl)
  rw [lg_entry_eq]
  generalize (lg_sl ([.ref (hT 0), .int p1]) ++ List.replicate (2 - (lg_sl ([.ref (hT 0), .int p1])).length) Slot.unset).toArray = ls at hl ⊢
  have hl : lv_has ls 2 [(0, .ref (hT 0)), (1, .int p1)] := hl
  refine lv_aload_n hx hb dX9_failHere_0 rfl (lv_at hl 0 rfl) ?_
  refine lv_iload_n hx hb dX9_failHere_1 rfl (lv_at hl 1 rfl) ?_
  refine va_put (D := (dC, dI)) (ci := 9) (v := .int p1) (ty := .int) (C := RX9) (T := TX9) (N := 9) hx hb hts iwsMX9_failHere_in9 tyX9 tyX9_ok nmX9 hown hK hP hD hS 0 rfl rfl 2 (by decide) (hts (.fieldLink RX9 28 "OptimaWorks$Words" "fault" "I") (by decide +kernel)) (fun _ h9 => h9) rfl (by decide +kernel) rfl rfl (Nat.le_of_ble_eq_true rfl) dX9_failHere_2 (fun H locs hP hD hS => ?_)
  have hP : va_P (dC, dI) vwCl (WT hT aT kT fT_tape dT_tape nT_tape iT_length p1 iT_place iT_kind iT_at iT_number jT_name iT_next) H := hP
  have hD : va_D A (WT hT aT kT fT_tape dT_tape nT_tape iT_length p1 iT_place iT_kind iT_at iT_number jT_name iT_next) := hD
  refine lv_aload_n hx hb dX9_failHere_5 rfl (lv_at hl 0 rfl) ?_
  refine lv_aload_n hx hb dX9_failHere_6 rfl (lv_at hl 0 rfl) ?_
  refine va_get (D := (dC, dI)) (ci := 9) (v := .int iT_at) (C := RX9) (T := TX9) (N := 9) hx hb hts iwsMX9_failHere_in9 hown hK hP 0 rfl rfl 5 (by decide) (hts (.fieldLink RX9 34 "OptimaWorks$Words" "at" "I") (by decide +kernel)) (fun _ h9 => h9) rfl dX9_failHere_7 ?_
  refine va_put (D := (dC, dI)) (ci := 9) (v := .int iT_at) (ty := .int) (C := RX9) (T := TX9) (N := 9) hx hb hts iwsMX9_failHere_in9 tyX9 tyX9_ok nmX9 hown hK hP hD hS 0 rfl rfl 3 (by decide) (hts (.fieldLink RX9 15 "OptimaWorks$Words" "place" "I") (by decide +kernel)) (fun _ h9 => h9) rfl (by decide +kernel) rfl rfl (Nat.le_of_ble_eq_true rfl) dX9_failHere_10 (fun H locs hP hD hS => ?_)
  have hP : va_P (dC, dI) vwCl (WT hT aT kT fT_tape dT_tape nT_tape iT_length p1 iT_at iT_kind iT_at iT_number jT_name iT_next) H := hP
  have hD : va_D A (WT hT aT kT fT_tape dT_tape nT_tape iT_length p1 iT_at iT_kind iT_at iT_number jT_name iT_next) := hD
  exact vx_throw0 (own := RX9) (cls := "java/lang/IllegalArgumentException") (names := ["java/lang/RuntimeException", "java/lang/Exception"]) (ik := 31) (ic := 33) (A := A) hx hb hst hown (by decide +kernel) (by decide +kernel) (hts (.classLink RX9 31 "java/lang/IllegalArgumentException") (by decide +kernel)) (hts (.initialized "java/lang/IllegalArgumentException") (by decide +kernel)) (vx_hat (B := ngX9_33) (fun w h => hts w (List.mem_cons_of_mem _ (List.mem_append_right _ h))) (fun _ h => h) (fun w h => va_Nw.use (ngX9_33_ot w h) (hE.2.2.1.1 w h))) (by decide +kernel) hE.2.1.1 hE.2.1.2 hS (by rw [hml]; exact hl.1) dX9_failHere_13 dX9_failHere_16 dX9_failHere_17 dX9_failHere_20 (fun x hx9 => (htab x hx9).elim) (by decide +kernel) (Nat.le_of_ble_eq_true rfl) (by decide +kernel) (by decide +kernel) hlocks (fun t hvm hz hk => ⟨(p1, iT_at), trivial, ⟨rfl, hP.kept (fun k q h => hk q.1 ((hP k q h).lt)), hD⟩, ⟨Nat.le_trans hS.1 hz, fun q h1 h2 => (hk q (Nat.lt_of_lt_of_le h1 hS.1)).trans (hS.2.1 q h1 h2)⟩⟩) hS.2.2 (by decide +kernel) (by decide +kernel)
theorem dX9_failWord_0 : decode cX9_failWord 0 = .ok (.aload_n 0, 1) := dk_42 (by decide +kernel)
theorem dX9_failWord_1 : decode cX9_failWord 1 = .ok (.aload_n 0, 1) := dk_42 (by decide +kernel)
theorem dX9_failWord_2 : decode cX9_failWord 2 = .ok (.getfield 37, 3) := dk_180 (by decide +kernel)
theorem dX9_failWord_5 : decode cX9_failWord 5 = .ok (.iconst 3, 1) := dk_6 (by decide +kernel)
theorem dX9_failWord_6 : decode cX9_failWord 6 = .ok (.if_icmp .ne 7, 3) := dk_160 (by decide +kernel)
theorem dX9_failWord_9 : decode cX9_failWord 9 = .ok (.iconst 2, 1) := dk_5 (by decide +kernel)
theorem dX9_failWord_10 : decode cX9_failWord 10 = .ok (.goto 4, 3) := dk_167 (by decide +kernel)
theorem dX9_failWord_13 : decode cX9_failWord 13 = .ok (.iconst 1, 1) := dk_4 (by decide +kernel)
theorem dX9_failWord_14 : decode cX9_failWord 14 = .ok (.putfield 28, 3) := dk_181 (by decide +kernel)
theorem dX9_failWord_17 : decode cX9_failWord 17 = .ok (.aload_n 0, 1) := dk_42 (by decide +kernel)
theorem dX9_failWord_18 : decode cX9_failWord 18 = .ok (.aload_n 0, 1) := dk_42 (by decide +kernel)
theorem dX9_failWord_19 : decode cX9_failWord 19 = .ok (.getfield 34, 3) := dk_180 (by decide +kernel)
theorem dX9_failWord_22 : decode cX9_failWord 22 = .ok (.putfield 15, 3) := dk_181 (by decide +kernel)
theorem dX9_failWord_25 : decode cX9_failWord 25 = .ok (.new 31, 3) := dk_187 (by decide +kernel)
theorem dX9_failWord_28 : decode cX9_failWord 28 = .ok (.dup, 1) := dk_89 (by decide +kernel)
theorem dX9_failWord_29 : decode cX9_failWord 29 = .ok (.invokespecial 33, 3) := dk_183 (by decide +kernel)
theorem dX9_failWord_32 : decode cX9_failWord 32 = .ok (.athrow, 1) := dk_191 (by decide +kernel)
def wsMX9_failWord : List Cond := .code yX9_failWord cX9_failWord 1 none :: ([.fieldLink RX9 37 "OptimaWorks$Words" "kind" "I", .fieldLink RX9 28 "OptimaWorks$Words" "fault" "I", .fieldLink RX9 34 "OptimaWorks$Words" "at" "I", .fieldLink RX9 15 "OptimaWorks$Words" "place" "I", .classLink RX9 31 "java/lang/IllegalArgumentException", .initialized "java/lang/IllegalArgumentException"] ++ wsX90 ++ ((vx_at0 RX9 33 "java/lang/IllegalArgumentException" ["java/lang/RuntimeException", "java/lang/Exception"]).filter goodWord))
theorem iwsMX9_failWord_in9 : ∀ w ∈ wsX90, w ∈ wsMX9_failWord := fun _ h => List.mem_cons_of_mem _ (List.mem_append_left _ (List.mem_append_right _ h))
theorem gdwsMX9_failWord : wsMX9_failWord.all goodWord = true := gdC rfl (gdA (gdA (by decide +kernel : ([.fieldLink RX9 37 "OptimaWorks$Words" "kind" "I", .fieldLink RX9 28 "OptimaWorks$Words" "fault" "I", .fieldLink RX9 34 "OptimaWorks$Words" "at" "I", .fieldLink RX9 15 "OptimaWorks$Words" "place" "I", .classLink RX9 31 "java/lang/IllegalArgumentException", .initialized "java/lang/IllegalArgumentException"] : List Cond).all goodWord = true) gdwsX90) (gdF _))
set_option maxHeartbeats 4000000 in
set_option maxRecDepth 100000 in
/-- a wrong word -/
theorem m_X9_failWord (l : Launch) (hst : l.stackTraces = false) (dC : Nat → ClassId) (dI : Nat → Nat → Nat) (hT : Nat → Nat) (aT : Nat → Nat) (kT : Nat → ClassId) (fT_tape : Nat → Int32) (dT_tape : Nat) (nT_tape : Nat) (iT_length : Int32) (iT_fault : Int32) (iT_place : Int32) (iT_kind : Int32) (iT_at : Int32) (iT_number : Int32) (jT_name : Int64) (iT_next : Int32) (b_fT_tape : ∀ q : Nat, (-128) ≤ (fT_tape q).toInt ∧ (fT_tape q).toInt ≤ 127) (b_nT_tape : 64 ≤ nT_tape ∧ nT_tape ≤ 2560) (b_iT_length : 0 ≤ iT_length.toInt ∧ iT_length.toInt ≤ 1280) (b_iT_at : 0 ≤ iT_at.toInt ∧ iT_at.toInt ≤ 1282) (b_iT_number : 0 ≤ iT_number.toInt ∧ iT_number.toInt ≤ 999999) (b_iT_next : 0 ≤ iT_next.toInt ∧ iT_next.toInt ≤ 1282) (b_len : iT_length.toInt ≤ ((nT_tape : Nat) : Int)) (sz : Nat) : vx_Met l yX9_failWord wsMX9_failWord ({ frames := 6, cells := 1, slots := 6, locals := 81 }) (va_Pc [.ref (hT 0)] (fun U => U.heap.size = sz ∧ va_P (dC, dI) vwCl (WT hT aT kT fT_tape dT_tape nT_tape iT_length iT_fault iT_place iT_kind iT_at iT_number jT_name iT_next) U.heap ∧ va_K (dC, dI) vwCl (tT kT) U ∧ va_D (fun _ => True) (WT hT aT kT fT_tape dT_tape nT_tape iT_length iT_fault iT_place iT_kind iT_at iT_number jT_name iT_next) ∧ CE (va_A (WT hT aT kT fT_tape dT_tape nT_tape iT_length iT_fault iT_place iT_kind iT_at iT_number jT_name iT_next) sz) U U.heap)) (va_Qv (fun (u : (Int32) × (Int32)) => False) (fun (u : (Int32) × (Int32)) t => va_P (dC, dI) vwCl (WT hT aT kT fT_tape dT_tape nT_tape iT_length (u.1) (u.2) iT_kind iT_at iT_number jT_name iT_next) t.heap ∧ va_D (va_A (WT hT aT kT fT_tape dT_tape nT_tape iT_length iT_fault iT_place iT_kind iT_at iT_number jT_name iT_next) sz) (WT hT aT kT fT_tape dT_tape nT_tape iT_length (u.1) (u.2) iT_kind iT_at iT_number jT_name iT_next)) (va_A (WT hT aT kT fT_tape dT_tape nT_tape iT_length iT_fault iT_place iT_kind iT_at iT_number jT_name iT_next) sz)) (vx_X (fun (u : (Int32) × (Int32)) => True) (fun E (u : (Int32) × (Int32)) t => (E = "java/lang/IllegalArgumentException") ∧ va_P (dC, dI) vwCl (WT hT aT kT fT_tape dT_tape nT_tape iT_length (u.1) (u.2) iT_kind iT_at iT_number jT_name iT_next) t.heap ∧ va_D (va_A (WT hT aT kT fT_tape dT_tape nT_tape iT_length iT_fault iT_place iT_kind iT_at iT_number jT_name iT_next) sz) (WT hT aT kT fT_tape dT_tape nT_tape iT_length (u.1) (u.2) iT_kind iT_at iT_number jT_name iT_next)) (va_A (WT hT aT kT fT_tape dT_tape nT_tape iT_length iT_fault iT_place iT_kind iT_at iT_number jT_name iT_next) sz)) 1 6 (va_A (WT hT aT kT fT_tape dT_tape nT_tape iT_length iT_fault iT_place iT_kind iT_at iT_number jT_name iT_next) sz) := by
  refine vx_ofW (cc := cX9_failWord) (maxL := 1) (ret := none) (by decide) rfl ?_
  intro p e s m args below meth c s₁ B hml htab hv
  obtain ⟨rfl, hsz, hP, hK, hD0, hE⟩ := hv
  have hx := B.exec
  have hb := B.bytes
  have hr := B.returns
  have hts := atoms_spec (ws := wsMX9_failWord) B.pre
  have hown : s.vm.findClass RX9 = some m.cls := findClass_of_methodNamed B.named
  have hlocks := B.notSynchronized
  subst hsz
  have hD := hD0.self (sz := s.heap.size)
  generalize hAe : va_A (WT hT aT kT fT_tape dT_tape nT_tape iT_length iT_fault iT_place iT_kind iT_at iT_number jT_name iT_next) s.heap.size = A at hD hE ⊢
  have hA : ∀ q : Nat, s.heap.size ≤ q → A q := fun q h => by rw [← hAe]; exact Or.inr h
  have hS : va_S A s.heap s.heap [] := va_S.rf
  have hl := lv_entry ([.ref (hT 0)]) (n := 1) (Nat.le_of_ble_eq_true rfl)
  rw [lg_entry_eq]
  generalize (lg_sl ([.ref (hT 0)]) ++ List.replicate (1 - (lg_sl ([.ref (hT 0)])).length) Slot.unset).toArray = ls at hl ⊢
  have hl : lv_has ls 1 [(0, .ref (hT 0))] := hl
  refine lv_aload_n hx hb dX9_failWord_0 rfl (lv_at hl 0 rfl) ?_
  refine lv_aload_n hx hb dX9_failWord_1 rfl (lv_at hl 0 rfl) ?_
  refine va_get (D := (dC, dI)) (ci := 9) (v := .int iT_kind) (C := RX9) (T := TX9) (N := 9) hx hb hts iwsMX9_failWord_in9 hown hK hP 0 rfl rfl 4 (by decide) (hts (.fieldLink RX9 37 "OptimaWorks$Words" "kind" "I") (by decide +kernel)) (fun _ h9 => h9) rfl dX9_failWord_2 ?_
  refine lv_iconst (v := 3) hx hb dX9_failWord_5 (by decide) ?_
  refine W.cut (pc := 14) (fun H locs ls stk => ∃ (k0_j2 : Int32), (1 ≤ k0_j2.toInt ∧ k0_j2.toInt ≤ 2) ∧  stk = [.int k0_j2, .ref (hT 0)] ∧ va_P (dC, dI) vwCl (WT hT aT kT fT_tape dT_tape nT_tape iT_length iT_fault iT_place iT_kind iT_at iT_number jT_name iT_next) H ∧ va_D A (WT hT aT kT fT_tape dT_tape nT_tape iT_length iT_fault iT_place iT_kind iT_at iT_number jT_name iT_next) ∧ va_S A s.heap H locs ∧ lv_has ls 1 [(0, .ref (hT 0))]) (fun join2 => ?_) ?_
  · refine lv_icmp_ne (tgt := 13) hx hb dX9_failWord_6 (by decide) (fun c_6 => ?_) (fun c_6 => ?_)
    · have t_6 : iT_kind.toInt ≠ 3 := toI_ne c_6 rfl (by decide : (3 : Int32).toInt = 3)
      refine lv_iconst (v := 1) hx hb dX9_failWord_13 (by decide) ?_
      have hl : lv_has _ _ ([(0, .ref (hT 0))]) := lv_sub hl [0] rfl
      exact join2 _ _ _ _ ⟨1, (show 1 ≤ (1 : Int32).toInt ∧ (1 : Int32).toInt ≤ 2 from by decide), rfl, hP, hD, hS, hl⟩
    · have t_6 : iT_kind.toInt = 3 := toI_nne c_6 rfl (by decide : (3 : Int32).toInt = 3)
      refine lv_iconst (v := 2) hx hb dX9_failWord_9 (by decide) ?_
      refine lv_goto (tgt := 14) hx hb dX9_failWord_10 (by decide) ?_
      have hl : lv_has _ _ ([(0, .ref (hT 0))]) := lv_sub hl [0] rfl
      exact join2 _ _ _ _ ⟨2, (show 1 ≤ (2 : Int32).toInt ∧ (2 : Int32).toInt ≤ 2 from by decide), rfl, hP, hD, hS, hl⟩
  · rintro H locs ls stk ⟨k0_j2, b_k0_j2, rfl, hP, hD, hS, hl⟩
    refine va_put (D := (dC, dI)) (ci := 9) (v := .int k0_j2) (ty := .int) (C := RX9) (T := TX9) (N := 9) hx hb hts iwsMX9_failWord_in9 tyX9 tyX9_ok nmX9 hown hK hP hD hS 0 rfl rfl 2 (by decide) (hts (.fieldLink RX9 28 "OptimaWorks$Words" "fault" "I") (by decide +kernel)) (fun _ h9 => h9) rfl (by decide +kernel) rfl rfl (Nat.le_of_ble_eq_true rfl) dX9_failWord_14 (fun H locs hP hD hS => ?_)
    have hP : va_P (dC, dI) vwCl (WT hT aT kT fT_tape dT_tape nT_tape iT_length k0_j2 iT_place iT_kind iT_at iT_number jT_name iT_next) H := hP
    have hD : va_D A (WT hT aT kT fT_tape dT_tape nT_tape iT_length k0_j2 iT_place iT_kind iT_at iT_number jT_name iT_next) := hD
    refine lv_aload_n hx hb dX9_failWord_17 rfl (lv_at hl 0 rfl) ?_
    refine lv_aload_n hx hb dX9_failWord_18 rfl (lv_at hl 0 rfl) ?_
    refine va_get (D := (dC, dI)) (ci := 9) (v := .int iT_at) (C := RX9) (T := TX9) (N := 9) hx hb hts iwsMX9_failWord_in9 hown hK hP 0 rfl rfl 5 (by decide) (hts (.fieldLink RX9 34 "OptimaWorks$Words" "at" "I") (by decide +kernel)) (fun _ h9 => h9) rfl dX9_failWord_19 ?_
    refine va_put (D := (dC, dI)) (ci := 9) (v := .int iT_at) (ty := .int) (C := RX9) (T := TX9) (N := 9) hx hb hts iwsMX9_failWord_in9 tyX9 tyX9_ok nmX9 hown hK hP hD hS 0 rfl rfl 3 (by decide) (hts (.fieldLink RX9 15 "OptimaWorks$Words" "place" "I") (by decide +kernel)) (fun _ h9 => h9) rfl (by decide +kernel) rfl rfl (Nat.le_of_ble_eq_true rfl) dX9_failWord_22 (fun H locs hP hD hS => ?_)
    have hP : va_P (dC, dI) vwCl (WT hT aT kT fT_tape dT_tape nT_tape iT_length k0_j2 iT_at iT_kind iT_at iT_number jT_name iT_next) H := hP
    have hD : va_D A (WT hT aT kT fT_tape dT_tape nT_tape iT_length k0_j2 iT_at iT_kind iT_at iT_number jT_name iT_next) := hD
    exact vx_throw0 (own := RX9) (cls := "java/lang/IllegalArgumentException") (names := ["java/lang/RuntimeException", "java/lang/Exception"]) (ik := 31) (ic := 33) (A := A) hx hb hst hown (by decide +kernel) (by decide +kernel) (hts (.classLink RX9 31 "java/lang/IllegalArgumentException") (by decide +kernel)) (hts (.initialized "java/lang/IllegalArgumentException") (by decide +kernel)) (vx_hat (B := ngX9_33) (fun w h => hts w (List.mem_cons_of_mem _ (List.mem_append_right _ h))) (fun _ h => h) (fun w h => va_Nw.use (ngX9_33_ot w h) (hE.2.2.1.1 w h))) (by decide +kernel) hE.2.1.1 hE.2.1.2 hS (by rw [hml]; exact hl.1) dX9_failWord_25 dX9_failWord_28 dX9_failWord_29 dX9_failWord_32 (fun x hx9 => (htab x hx9).elim) (by decide +kernel) (Nat.le_of_ble_eq_true rfl) (by decide +kernel) (by decide +kernel) hlocks (fun t hvm hz hk => ⟨(k0_j2, iT_at), trivial, ⟨rfl, hP.kept (fun k q h => hk q.1 ((hP k q h).lt)), hD⟩, ⟨Nat.le_trans hS.1 hz, fun q h1 h2 => (hk q (Nat.lt_of_lt_of_le h1 hS.1)).trans (hS.2.1 q h1 h2)⟩⟩) hS.2.2 (by decide +kernel) (by decide +kernel)
theorem dX9_skipBlanks_0 : decode cX9_skipBlanks 0 = .ok (.iconst 0, 1) := dk_3 (by decide +kernel)
theorem dX9_skipBlanks_1 : decode cX9_skipBlanks 1 = .ok (.istore_n 1, 1) := dk_60 (by decide +kernel)
theorem dX9_skipBlanks_2 : decode cX9_skipBlanks 2 = .ok (.aload_n 0, 1) := dk_42 (by decide +kernel)
theorem dX9_skipBlanks_3 : decode cX9_skipBlanks 3 = .ok (.getfield 40, 3) := dk_180 (by decide +kernel)
theorem dX9_skipBlanks_6 : decode cX9_skipBlanks 6 = .ok (.aload_n 0, 1) := dk_42 (by decide +kernel)
theorem dX9_skipBlanks_7 : decode cX9_skipBlanks 7 = .ok (.getfield 19, 3) := dk_180 (by decide +kernel)
theorem dX9_skipBlanks_10 : decode cX9_skipBlanks 10 = .ok (.if_icmp .ge 71, 3) := dk_162 (by decide +kernel)
theorem dX9_skipBlanks_13 : decode cX9_skipBlanks 13 = .ok (.aload_n 0, 1) := dk_42 (by decide +kernel)
theorem dX9_skipBlanks_14 : decode cX9_skipBlanks 14 = .ok (.getfield 9, 3) := dk_180 (by decide +kernel)
theorem dX9_skipBlanks_17 : decode cX9_skipBlanks 17 = .ok (.aload_n 0, 1) := dk_42 (by decide +kernel)
theorem dX9_skipBlanks_18 : decode cX9_skipBlanks 18 = .ok (.getfield 40, 3) := dk_180 (by decide +kernel)
theorem dX9_skipBlanks_21 : decode cX9_skipBlanks 21 = .ok (.baload, 1) := dk_51 (by decide +kernel)
theorem dX9_skipBlanks_22 : decode cX9_skipBlanks 22 = .ok (.istore_n 2, 1) := dk_61 (by decide +kernel)
theorem dX9_skipBlanks_23 : decode cX9_skipBlanks 23 = .ok (.iload_n 2, 1) := dk_28 (by decide +kernel)
theorem dX9_skipBlanks_24 : decode cX9_skipBlanks 24 = .ok (.bipush 10, 2) := dk_16 (by decide +kernel)
theorem dX9_skipBlanks_26 : decode cX9_skipBlanks 26 = .ok (.if_icmp .ne 8, 3) := dk_160 (by decide +kernel)
theorem dX9_skipBlanks_29 : decode cX9_skipBlanks 29 = .ok (.iconst 0, 1) := dk_3 (by decide +kernel)
theorem dX9_skipBlanks_30 : decode cX9_skipBlanks 30 = .ok (.istore_n 1, 1) := dk_60 (by decide +kernel)
theorem dX9_skipBlanks_31 : decode cX9_skipBlanks 31 = .ok (.goto 37, 3) := dk_167 (by decide +kernel)
theorem dX9_skipBlanks_34 : decode cX9_skipBlanks 34 = .ok (.iload_n 2, 1) := dk_28 (by decide +kernel)
theorem dX9_skipBlanks_35 : decode cX9_skipBlanks 35 = .ok (.bipush 35, 2) := dk_16 (by decide +kernel)
theorem dX9_skipBlanks_37 : decode cX9_skipBlanks 37 = .ok (.if_icmp .ne 8, 3) := dk_160 (by decide +kernel)
theorem dX9_skipBlanks_40 : decode cX9_skipBlanks 40 = .ok (.iconst 1, 1) := dk_4 (by decide +kernel)
theorem dX9_skipBlanks_41 : decode cX9_skipBlanks 41 = .ok (.istore_n 1, 1) := dk_60 (by decide +kernel)
theorem dX9_skipBlanks_42 : decode cX9_skipBlanks 42 = .ok (.goto 26, 3) := dk_167 (by decide +kernel)
theorem dX9_skipBlanks_45 : decode cX9_skipBlanks 45 = .ok (.iload_n 1, 1) := dk_27 (by decide +kernel)
theorem dX9_skipBlanks_46 : decode cX9_skipBlanks 46 = .ok (.ifCond .ne 22, 3) := dk_154 (by decide +kernel)
theorem dX9_skipBlanks_49 : decode cX9_skipBlanks 49 = .ok (.iload_n 2, 1) := dk_28 (by decide +kernel)
theorem dX9_skipBlanks_50 : decode cX9_skipBlanks 50 = .ok (.bipush 9, 2) := dk_16 (by decide +kernel)
theorem dX9_skipBlanks_52 : decode cX9_skipBlanks 52 = .ok (.if_icmp .eq 16, 3) := dk_159 (by decide +kernel)
theorem dX9_skipBlanks_55 : decode cX9_skipBlanks 55 = .ok (.iload_n 2, 1) := dk_28 (by decide +kernel)
theorem dX9_skipBlanks_56 : decode cX9_skipBlanks 56 = .ok (.bipush 13, 2) := dk_16 (by decide +kernel)
theorem dX9_skipBlanks_58 : decode cX9_skipBlanks 58 = .ok (.if_icmp .eq 10, 3) := dk_159 (by decide +kernel)
theorem dX9_skipBlanks_61 : decode cX9_skipBlanks 61 = .ok (.iload_n 2, 1) := dk_28 (by decide +kernel)
theorem dX9_skipBlanks_62 : decode cX9_skipBlanks 62 = .ok (.bipush 32, 2) := dk_16 (by decide +kernel)
theorem dX9_skipBlanks_64 : decode cX9_skipBlanks 64 = .ok (.if_icmp .eq 4, 3) := dk_159 (by decide +kernel)
theorem dX9_skipBlanks_67 : decode cX9_skipBlanks 67 = .ok (.return_, 1) := dk_177 (by decide +kernel)
theorem dX9_skipBlanks_68 : decode cX9_skipBlanks 68 = .ok (.aload_n 0, 1) := dk_42 (by decide +kernel)
theorem dX9_skipBlanks_69 : decode cX9_skipBlanks 69 = .ok (.dup, 1) := dk_89 (by decide +kernel)
theorem dX9_skipBlanks_70 : decode cX9_skipBlanks 70 = .ok (.getfield 40, 3) := dk_180 (by decide +kernel)
theorem dX9_skipBlanks_73 : decode cX9_skipBlanks 73 = .ok (.iconst 1, 1) := dk_4 (by decide +kernel)
theorem dX9_skipBlanks_74 : decode cX9_skipBlanks 74 = .ok (.iadd, 1) := dk_96 (by decide +kernel)
theorem dX9_skipBlanks_75 : decode cX9_skipBlanks 75 = .ok (.putfield 40, 3) := dk_181 (by decide +kernel)
theorem dX9_skipBlanks_78 : decode cX9_skipBlanks 78 = .ok (.goto (-76), 3) := dk_167 (by decide +kernel)
theorem dX9_skipBlanks_81 : decode cX9_skipBlanks 81 = .ok (.return_, 1) := dk_177 (by decide +kernel)
def wsMX9_skipBlanks : List Cond := .code yX9_skipBlanks cX9_skipBlanks 3 none :: ([.fieldLink RX9 40 "OptimaWorks$Words" "next" "I", .fieldLink RX9 19 "OptimaWorks$Words" "length" "I", .fieldLink RX9 9 "OptimaWorks$Words" "tape" "[B"] ++ wsX90)
theorem iwsMX9_skipBlanks_in9 : ∀ w ∈ wsX90, w ∈ wsMX9_skipBlanks := fun _ h => List.mem_cons_of_mem _ (List.mem_append_right _ h)
theorem gdwsMX9_skipBlanks : wsMX9_skipBlanks.all goodWord = true := gdC rfl (gdA (by decide +kernel : ([.fieldLink RX9 40 "OptimaWorks$Words" "next" "I", .fieldLink RX9 19 "OptimaWorks$Words" "length" "I", .fieldLink RX9 9 "OptimaWorks$Words" "tape" "[B"] : List Cond).all goodWord = true) gdwsX90)
set_option maxHeartbeats 4000000 in
set_option maxRecDepth 100000 in
/-- blanks -/
theorem m_X9_skipBlanks (l : Launch) (dC : Nat → ClassId) (dI : Nat → Nat → Nat) (hT : Nat → Nat) (aT : Nat → Nat) (kT : Nat → ClassId) (fT_tape : Nat → Int32) (dT_tape : Nat) (nT_tape : Nat) (iT_length : Int32) (iT_fault : Int32) (iT_place : Int32) (iT_kind : Int32) (iT_at : Int32) (iT_number : Int32) (jT_name : Int64) (iT_next : Int32) (b_fT_tape : ∀ q : Nat, (-128) ≤ (fT_tape q).toInt ∧ (fT_tape q).toInt ≤ 127) (b_nT_tape : 64 ≤ nT_tape ∧ nT_tape ≤ 2560) (b_iT_length : 0 ≤ iT_length.toInt ∧ iT_length.toInt ≤ 1280) (b_iT_at : 0 ≤ iT_at.toInt ∧ iT_at.toInt ≤ 1282) (b_iT_number : 0 ≤ iT_number.toInt ∧ iT_number.toInt ≤ 999999) (b_iT_next : 0 ≤ iT_next.toInt ∧ iT_next.toInt ≤ 1282) (b_len : iT_length.toInt ≤ ((nT_tape : Nat) : Int)) (hnl : iT_next.toInt ≤ iT_length.toInt) (sz : Nat) : Met l yX9_skipBlanks wsMX9_skipBlanks ({ frames := 0, cells := 0, slots := 0, locals := 0 }) (va_Pc [.ref (hT 0)] (fun U => U.heap.size = sz ∧ va_P (dC, dI) vwCl (WT hT aT kT fT_tape dT_tape nT_tape iT_length iT_fault iT_place iT_kind iT_at iT_number jT_name iT_next) U.heap ∧ va_K (dC, dI) vwCl (tT kT) U ∧ va_D (fun _ => True) (WT hT aT kT fT_tape dT_tape nT_tape iT_length iT_fault iT_place iT_kind iT_at iT_number jT_name iT_next))) (va_Qv (fun (u : Int32) => (0 ≤ u.toInt ∧ u.toInt ≤ 1282) ∧ (u.toInt ≤ iT_length.toInt) ∧ (iT_next.toInt ≤ u.toInt)) (fun (u : Int32) t => va_P (dC, dI) vwCl (WT hT aT kT fT_tape dT_tape nT_tape iT_length iT_fault iT_place iT_kind iT_at iT_number jT_name u) t.heap ∧ va_D (va_A (WT hT aT kT fT_tape dT_tape nT_tape iT_length iT_fault iT_place iT_kind iT_at iT_number jT_name iT_next) sz) (WT hT aT kT fT_tape dT_tape nT_tape iT_length iT_fault iT_place iT_kind iT_at iT_number jT_name u)) (va_A (WT hT aT kT fT_tape dT_tape nT_tape iT_length iT_fault iT_place iT_kind iT_at iT_number jT_name iT_next) sz)) 0 0 (va_A (WT hT aT kT fT_tape dT_tape nT_tape iT_length iT_fault iT_place iT_kind iT_at iT_number jT_name iT_next) sz) := by
  refine Met.ofW (cc := cX9_skipBlanks) (maxL := 3) (ret := none) (by decide) rfl ?_
  intro p e s m args below meth c s₁ B hml hv
  obtain ⟨rfl, hsz, hP, hK, hD0⟩ := hv
  have hx := B.exec
  have hb := B.bytes
  have hr := B.returns
  have hts := atoms_spec (ws := wsMX9_skipBlanks) B.pre
  have hown : s.vm.findClass RX9 = some m.cls := findClass_of_methodNamed B.named
  have hlocks := B.notSynchronized
  subst hsz
  have hD := hD0.self (sz := s.heap.size)
  generalize hAe : va_A (WT hT aT kT fT_tape dT_tape nT_tape iT_length iT_fault iT_place iT_kind iT_at iT_number jT_name iT_next) s.heap.size = A at hD ⊢
  have hA : ∀ q : Nat, s.heap.size ≤ q → A q := fun q h => by rw [← hAe]; exact Or.inr h
  have hS : va_S A s.heap s.heap [] := va_S.rf
  have hl := lv_entry ([.ref (hT 0)]) (n := 3) (Nat.le_of_ble_eq_true rfl)
  rw [lg_entry_eq]
  generalize (lg_sl ([.ref (hT 0)]) ++ List.replicate (3 - (lg_sl ([.ref (hT 0)])).length) Slot.unset).toArray = ls at hl ⊢
  have hl : lv_has ls 3 [(0, .ref (hT 0))] := hl
  refine lv_iconst (v := 0) hx hb dX9_skipBlanks_0 (by decide) ?_
  refine lv_istore_n hx hb dX9_skipBlanks_1 rfl hl (by decide) rfl (fun ls (hl : lv_has ls _ ([(1, .int 0), (0, .ref (hT 0))])) => ?_)
  have hl : lv_has _ _ ([(1, .int 0), (0, .ref (hT 0))]) := lv_sub hl [0, 1] rfl
  refine (fun (loop : ∀ (n9 : Nat) (iT_next_x2 : Int32) (l1_x2 : Int32) (H : Heap) (locs : List Loc) (ls : Array Slot), (0 ≤ iT_next_x2.toInt ∧ iT_next_x2.toInt ≤ 1282) → (0 ≤ l1_x2.toInt ∧ l1_x2.toInt ≤ 1) → (iT_next_x2.toInt ≤ iT_length.toInt) → (iT_next.toInt ≤ iT_next_x2.toInt) → (1282 - iT_next_x2.toInt < ((n9 : Nat) : Int)) → va_P (dC, dI) vwCl (WT hT aT kT fT_tape dT_tape nT_tape iT_length iT_fault iT_place iT_kind iT_at iT_number jT_name iT_next_x2) H → va_D A (WT hT aT kT fT_tape dT_tape nT_tape iT_length iT_fault iT_place iT_kind iT_at iT_number jT_name iT_next_x2) → va_S A s.heap H locs → lv_has ls 3 [(1, .int l1_x2), (0, .ref (hT 0))] → W p l e _ s m _ below meth c H locs 0 0 _ (F0 m 2 ls [])) => loop (1283) iT_next 0 _ _ _ (b_iT_next) (show 0 ≤ (0 : Int32).toInt ∧ (0 : Int32).toInt ≤ 1 from by decide) (show iT_next.toInt ≤ iT_length.toInt from by omega) (show iT_next.toInt ≤ iT_next.toInt from by omega) ((by have e9 : (iT_next).toInt = iT_next.toInt := rfl; omega)) hP hD hS hl) ?_
  intro n9
  induction n9 with
  | zero => intro iT_next_x2 l1_x2 H locs ls b_iT_next_x2 b_l1_x2 hnk hmo hf9; exact False.elim (by omega)
  | succ n9 ihx2 =>
    intro iT_next_x2 l1_x2 H locs ls b_iT_next_x2 b_l1_x2 hnk hmo hfx2 hP hD hS hl
    refine lv_aload_n hx hb dX9_skipBlanks_2 rfl (lv_at hl 1 rfl) ?_
    refine va_get (D := (dC, dI)) (ci := 9) (v := .int iT_next_x2) (C := RX9) (T := TX9) (N := 9) hx hb hts iwsMX9_skipBlanks_in9 hown hK hP 0 rfl rfl 8 (by decide) (hts (.fieldLink RX9 40 "OptimaWorks$Words" "next" "I") (by decide +kernel)) (fun _ h9 => h9) rfl dX9_skipBlanks_3 ?_
    refine lv_aload_n hx hb dX9_skipBlanks_6 rfl (lv_at hl 1 rfl) ?_
    refine va_get (D := (dC, dI)) (ci := 9) (v := .int iT_length) (C := RX9) (T := TX9) (N := 9) hx hb hts iwsMX9_skipBlanks_in9 hown hK hP 0 rfl rfl 1 (by decide) (hts (.fieldLink RX9 19 "OptimaWorks$Words" "length" "I") (by decide +kernel)) (fun _ h9 => h9) rfl dX9_skipBlanks_7 ?_
    refine lv_icmp_ge (tgt := 81) hx hb dX9_skipBlanks_10 (by decide) (fun c_10 => ?_) (fun c_10 => ?_)
    · have t_10 : iT_next_x2.toInt ≥ iT_length.toInt := toI_ge c_10 rfl rfl
      refine W.widen (k := 0) (n := 0) (by decide +kernel) (by decide +kernel) ?_
      exact W.vret hx hb hr (fun t9_ ht hW => ⟨⟨iT_next_x2, rfl, ⟨(by (try dsimp only); exact (b_iT_next_x2)), (by (try dsimp only); exact (hnk)), (by (try dsimp only); exact (hmo))⟩, by rw [ht]; exact hP, hD⟩, hS.F ht⟩) hS.2.2 dX9_skipBlanks_81
    · have t_10 : ¬ iT_next_x2.toInt ≥ iT_length.toInt := toI_nge c_10 rfl rfl
      refine lv_aload_n hx hb dX9_skipBlanks_13 rfl (lv_at hl 1 rfl) ?_
      refine va_get (D := (dC, dI)) (ci := 9) (v := .ref dT_tape) (C := RX9) (T := TX9) (N := 9) hx hb hts iwsMX9_skipBlanks_in9 hown hK hP 0 rfl rfl 0 (by decide) (hts (.fieldLink RX9 9 "OptimaWorks$Words" "tape" "[B") (by decide +kernel)) (fun _ h9 => h9) rfl dX9_skipBlanks_14 ?_
      refine lv_aload_n hx hb dX9_skipBlanks_17 rfl (lv_at hl 1 rfl) ?_
      refine va_get (D := (dC, dI)) (ci := 9) (v := .int iT_next_x2) (C := RX9) (T := TX9) (N := 9) hx hb hts iwsMX9_skipBlanks_in9 hown hK hP 0 rfl rfl 8 (by decide) (hts (.fieldLink RX9 40 "OptimaWorks$Words" "next" "I") (by decide +kernel)) (fun _ h9 => h9) rfl dX9_skipBlanks_18 ?_
      refine va_bald (cA := kT 0) (n := nT_tape) (f := fT_tape) hx hb hK hP 1 0 rfl rfl (vp_in_iff.mpr ⟨b_iT_next_x2.1, (by omega)⟩) dX9_skipBlanks_21 ?_
      refine lv_topi (fun v14 hv14 => ?_)
      have b_v14 : (-128) ≤ v14.toInt ∧ v14.toInt ≤ 127 := by rw [hv14]; exact b_fT_tape _
      clear hv14
      refine lv_istore_n hx hb dX9_skipBlanks_22 rfl hl (by decide) rfl (fun ls (hl : lv_has ls _ ([(2, .int v14), (1, .int l1_x2), (0, .ref (hT 0))])) => ?_)
      refine lv_iload_n hx hb dX9_skipBlanks_23 rfl (lv_at hl 0 rfl) ?_
      refine lv_bipush (v := 10) hx hb dX9_skipBlanks_24 (by decide) ?_
      refine lv_icmp_ne (tgt := 34) hx hb dX9_skipBlanks_26 (by decide) (fun c_26 => ?_) (fun c_26 => ?_)
      · have t_26 : v14.toInt ≠ 10 := toI_ne c_26 rfl (by decide : (10 : Int32).toInt = 10)
        refine lv_iload_n hx hb dX9_skipBlanks_34 rfl (lv_at hl 0 rfl) ?_
        refine lv_bipush (v := 35) hx hb dX9_skipBlanks_35 (by decide) ?_
        refine lv_icmp_ne (tgt := 45) hx hb dX9_skipBlanks_37 (by decide) (fun c_37 => ?_) (fun c_37 => ?_)
        · have t_37 : v14.toInt ≠ 35 := toI_ne c_37 rfl (by decide : (35 : Int32).toInt = 35)
          refine lv_iload_n hx hb dX9_skipBlanks_45 rfl (lv_at hl 1 rfl) ?_
          refine lv_if_ne (tgt := 68) hx hb dX9_skipBlanks_46 (by decide) (fun c_46 => ?_) (fun c_46 => ?_)
          · have t_46 : l1_x2.toInt ≠ 0 := toI_ne c_46 rfl (by decide : (0 : Int32).toInt = 0)
            refine lv_aload_n hx hb dX9_skipBlanks_68 rfl (lv_at hl 2 rfl) ?_
            refine lv_dup hx hb dX9_skipBlanks_69 rfl ?_
            refine va_get (D := (dC, dI)) (ci := 9) (v := .int iT_next_x2) (C := RX9) (T := TX9) (N := 9) hx hb hts iwsMX9_skipBlanks_in9 hown hK hP 0 rfl rfl 8 (by decide) (hts (.fieldLink RX9 40 "OptimaWorks$Words" "next" "I") (by decide +kernel)) (fun _ h9 => h9) rfl dX9_skipBlanks_70 ?_
            refine lv_iconst (v := 1) hx hb dX9_skipBlanks_73 (by decide) ?_
            refine lv_iadd hx hb dX9_skipBlanks_74 ?_
            refine lv_topi (fun y15 hy15 => ?_)
            obtain rfl : (iI (iT_next_x2.toInt + 1)) = y15 := (hy15.trans (iI_add2 (iI_of _) (by decide : (1 : Int32) = iI 1))).symm
            refine va_put (D := (dC, dI)) (ci := 9) (v := .int (iI (iT_next_x2.toInt + 1))) (ty := .int) (C := RX9) (T := TX9) (N := 9) hx hb hts iwsMX9_skipBlanks_in9 tyX9 tyX9_ok nmX9 hown hK hP hD hS 0 rfl rfl 8 (by decide) (hts (.fieldLink RX9 40 "OptimaWorks$Words" "next" "I") (by decide +kernel)) (fun _ h9 => h9) rfl (by decide +kernel) rfl rfl (Nat.le_of_ble_eq_true rfl) dX9_skipBlanks_75 (fun H locs hP hD hS => ?_)
            have hP : va_P (dC, dI) vwCl (WT hT aT kT fT_tape dT_tape nT_tape iT_length iT_fault iT_place iT_kind iT_at iT_number jT_name (iI (iT_next_x2.toInt + 1))) H := hP
            have hD : va_D A (WT hT aT kT fT_tape dT_tape nT_tape iT_length iT_fault iT_place iT_kind iT_at iT_number jT_name (iI (iT_next_x2.toInt + 1))) := hD
            refine lv_goto (tgt := 2) hx hb dX9_skipBlanks_78 (by decide) ?_
            have hl : lv_has _ _ ([(1, .int l1_x2), (0, .ref (hT 0))]) := lv_sub hl [1, 2] rfl
            exact ihx2 (iI (iT_next_x2.toInt + 1)) l1_x2 _ _ _ (iI_rng (Int.le_trans (by decide) (Int.add_le_add (b_iT_next_x2.1) (Int.le_refl _))) (by omega) (by decide) (by decide)) (b_l1_x2) (show (iI (iT_next_x2.toInt + 1)).toInt ≤ iT_length.toInt from by (try rw [iI_t (by omega) (by omega)]); omega) (show iT_next.toInt ≤ (iI (iT_next_x2.toInt + 1)).toInt from by (try rw [iI_t (by omega) (by omega)]); omega) (by have e9 : ((iI (iT_next_x2.toInt + 1))).toInt = (iT_next_x2.toInt + 1) := (iI_t (Int.le_trans (by decide) (Int.add_le_add (b_iT_next_x2.1) (Int.le_refl _))) (Int.le_trans (Int.add_le_add (b_iT_next_x2.2) (Int.le_refl _)) (by decide))); omega) hP hD hS hl
          · have t_46 : l1_x2.toInt = 0 := toI_nne c_46 rfl (by decide : (0 : Int32).toInt = 0)
            refine lv_iload_n hx hb dX9_skipBlanks_49 rfl (lv_at hl 0 rfl) ?_
            refine lv_bipush (v := 9) hx hb dX9_skipBlanks_50 (by decide) ?_
            refine lv_icmp_eq (tgt := 68) hx hb dX9_skipBlanks_52 (by decide) (fun c_52 => ?_) (fun c_52 => ?_)
            · have t_52 : v14.toInt = 9 := toI_eq c_52 rfl (by decide : (9 : Int32).toInt = 9)
              refine lv_aload_n hx hb dX9_skipBlanks_68 rfl (lv_at hl 2 rfl) ?_
              refine lv_dup hx hb dX9_skipBlanks_69 rfl ?_
              refine va_get (D := (dC, dI)) (ci := 9) (v := .int iT_next_x2) (C := RX9) (T := TX9) (N := 9) hx hb hts iwsMX9_skipBlanks_in9 hown hK hP 0 rfl rfl 8 (by decide) (hts (.fieldLink RX9 40 "OptimaWorks$Words" "next" "I") (by decide +kernel)) (fun _ h9 => h9) rfl dX9_skipBlanks_70 ?_
              refine lv_iconst (v := 1) hx hb dX9_skipBlanks_73 (by decide) ?_
              refine lv_iadd hx hb dX9_skipBlanks_74 ?_
              refine lv_topi (fun y16 hy16 => ?_)
              obtain rfl : (iI (iT_next_x2.toInt + 1)) = y16 := (hy16.trans (iI_add2 (iI_of _) (by decide : (1 : Int32) = iI 1))).symm
              refine va_put (D := (dC, dI)) (ci := 9) (v := .int (iI (iT_next_x2.toInt + 1))) (ty := .int) (C := RX9) (T := TX9) (N := 9) hx hb hts iwsMX9_skipBlanks_in9 tyX9 tyX9_ok nmX9 hown hK hP hD hS 0 rfl rfl 8 (by decide) (hts (.fieldLink RX9 40 "OptimaWorks$Words" "next" "I") (by decide +kernel)) (fun _ h9 => h9) rfl (by decide +kernel) rfl rfl (Nat.le_of_ble_eq_true rfl) dX9_skipBlanks_75 (fun H locs hP hD hS => ?_)
              have hP : va_P (dC, dI) vwCl (WT hT aT kT fT_tape dT_tape nT_tape iT_length iT_fault iT_place iT_kind iT_at iT_number jT_name (iI (iT_next_x2.toInt + 1))) H := hP
              have hD : va_D A (WT hT aT kT fT_tape dT_tape nT_tape iT_length iT_fault iT_place iT_kind iT_at iT_number jT_name (iI (iT_next_x2.toInt + 1))) := hD
              refine lv_goto (tgt := 2) hx hb dX9_skipBlanks_78 (by decide) ?_
              have hl : lv_has _ _ ([(1, .int l1_x2), (0, .ref (hT 0))]) := lv_sub hl [1, 2] rfl
              exact ihx2 (iI (iT_next_x2.toInt + 1)) l1_x2 _ _ _ (iI_rng (Int.le_trans (by decide) (Int.add_le_add (b_iT_next_x2.1) (Int.le_refl _))) (by omega) (by decide) (by decide)) (b_l1_x2) (show (iI (iT_next_x2.toInt + 1)).toInt ≤ iT_length.toInt from by (try rw [iI_t (by omega) (by omega)]); omega) (show iT_next.toInt ≤ (iI (iT_next_x2.toInt + 1)).toInt from by (try rw [iI_t (by omega) (by omega)]); omega) (by have e9 : ((iI (iT_next_x2.toInt + 1))).toInt = (iT_next_x2.toInt + 1) := (iI_t (Int.le_trans (by decide) (Int.add_le_add (b_iT_next_x2.1) (Int.le_refl _))) (Int.le_trans (Int.add_le_add (b_iT_next_x2.2) (Int.le_refl _)) (by decide))); omega) hP hD hS hl
            · have t_52 : ¬ v14.toInt = 9 := toI_neq c_52 rfl (by decide : (9 : Int32).toInt = 9)
              refine lv_iload_n hx hb dX9_skipBlanks_55 rfl (lv_at hl 0 rfl) ?_
              refine lv_bipush (v := 13) hx hb dX9_skipBlanks_56 (by decide) ?_
              refine lv_icmp_eq (tgt := 68) hx hb dX9_skipBlanks_58 (by decide) (fun c_58 => ?_) (fun c_58 => ?_)
              · have t_58 : v14.toInt = 13 := toI_eq c_58 rfl (by decide : (13 : Int32).toInt = 13)
                refine lv_aload_n hx hb dX9_skipBlanks_68 rfl (lv_at hl 2 rfl) ?_
                refine lv_dup hx hb dX9_skipBlanks_69 rfl ?_
                refine va_get (D := (dC, dI)) (ci := 9) (v := .int iT_next_x2) (C := RX9) (T := TX9) (N := 9) hx hb hts iwsMX9_skipBlanks_in9 hown hK hP 0 rfl rfl 8 (by decide) (hts (.fieldLink RX9 40 "OptimaWorks$Words" "next" "I") (by decide +kernel)) (fun _ h9 => h9) rfl dX9_skipBlanks_70 ?_
                refine lv_iconst (v := 1) hx hb dX9_skipBlanks_73 (by decide) ?_
                refine lv_iadd hx hb dX9_skipBlanks_74 ?_
                refine lv_topi (fun y17 hy17 => ?_)
                obtain rfl : (iI (iT_next_x2.toInt + 1)) = y17 := (hy17.trans (iI_add2 (iI_of _) (by decide : (1 : Int32) = iI 1))).symm
                refine va_put (D := (dC, dI)) (ci := 9) (v := .int (iI (iT_next_x2.toInt + 1))) (ty := .int) (C := RX9) (T := TX9) (N := 9) hx hb hts iwsMX9_skipBlanks_in9 tyX9 tyX9_ok nmX9 hown hK hP hD hS 0 rfl rfl 8 (by decide) (hts (.fieldLink RX9 40 "OptimaWorks$Words" "next" "I") (by decide +kernel)) (fun _ h9 => h9) rfl (by decide +kernel) rfl rfl (Nat.le_of_ble_eq_true rfl) dX9_skipBlanks_75 (fun H locs hP hD hS => ?_)
                have hP : va_P (dC, dI) vwCl (WT hT aT kT fT_tape dT_tape nT_tape iT_length iT_fault iT_place iT_kind iT_at iT_number jT_name (iI (iT_next_x2.toInt + 1))) H := hP
                have hD : va_D A (WT hT aT kT fT_tape dT_tape nT_tape iT_length iT_fault iT_place iT_kind iT_at iT_number jT_name (iI (iT_next_x2.toInt + 1))) := hD
                refine lv_goto (tgt := 2) hx hb dX9_skipBlanks_78 (by decide) ?_
                have hl : lv_has _ _ ([(1, .int l1_x2), (0, .ref (hT 0))]) := lv_sub hl [1, 2] rfl
                exact ihx2 (iI (iT_next_x2.toInt + 1)) l1_x2 _ _ _ (iI_rng (Int.le_trans (by decide) (Int.add_le_add (b_iT_next_x2.1) (Int.le_refl _))) (by omega) (by decide) (by decide)) (b_l1_x2) (show (iI (iT_next_x2.toInt + 1)).toInt ≤ iT_length.toInt from by (try rw [iI_t (by omega) (by omega)]); omega) (show iT_next.toInt ≤ (iI (iT_next_x2.toInt + 1)).toInt from by (try rw [iI_t (by omega) (by omega)]); omega) (by have e9 : ((iI (iT_next_x2.toInt + 1))).toInt = (iT_next_x2.toInt + 1) := (iI_t (Int.le_trans (by decide) (Int.add_le_add (b_iT_next_x2.1) (Int.le_refl _))) (Int.le_trans (Int.add_le_add (b_iT_next_x2.2) (Int.le_refl _)) (by decide))); omega) hP hD hS hl
              · have t_58 : ¬ v14.toInt = 13 := toI_neq c_58 rfl (by decide : (13 : Int32).toInt = 13)
                refine lv_iload_n hx hb dX9_skipBlanks_61 rfl (lv_at hl 0 rfl) ?_
                refine lv_bipush (v := 32) hx hb dX9_skipBlanks_62 (by decide) ?_
                refine lv_icmp_eq (tgt := 68) hx hb dX9_skipBlanks_64 (by decide) (fun c_64 => ?_) (fun c_64 => ?_)
                · have t_64 : v14.toInt = 32 := toI_eq c_64 rfl (by decide : (32 : Int32).toInt = 32)
                  refine lv_aload_n hx hb dX9_skipBlanks_68 rfl (lv_at hl 2 rfl) ?_
                  refine lv_dup hx hb dX9_skipBlanks_69 rfl ?_
                  refine va_get (D := (dC, dI)) (ci := 9) (v := .int iT_next_x2) (C := RX9) (T := TX9) (N := 9) hx hb hts iwsMX9_skipBlanks_in9 hown hK hP 0 rfl rfl 8 (by decide) (hts (.fieldLink RX9 40 "OptimaWorks$Words" "next" "I") (by decide +kernel)) (fun _ h9 => h9) rfl dX9_skipBlanks_70 ?_
                  refine lv_iconst (v := 1) hx hb dX9_skipBlanks_73 (by decide) ?_
                  refine lv_iadd hx hb dX9_skipBlanks_74 ?_
                  refine lv_topi (fun y18 hy18 => ?_)
                  obtain rfl : (iI (iT_next_x2.toInt + 1)) = y18 := (hy18.trans (iI_add2 (iI_of _) (by decide : (1 : Int32) = iI 1))).symm
                  refine va_put (D := (dC, dI)) (ci := 9) (v := .int (iI (iT_next_x2.toInt + 1))) (ty := .int) (C := RX9) (T := TX9) (N := 9) hx hb hts iwsMX9_skipBlanks_in9 tyX9 tyX9_ok nmX9 hown hK hP hD hS 0 rfl rfl 8 (by decide) (hts (.fieldLink RX9 40 "OptimaWorks$Words" "next" "I") (by decide +kernel)) (fun _ h9 => h9) rfl (by decide +kernel) rfl rfl (Nat.le_of_ble_eq_true rfl) dX9_skipBlanks_75 (fun H locs hP hD hS => ?_)
                  have hP : va_P (dC, dI) vwCl (WT hT aT kT fT_tape dT_tape nT_tape iT_length iT_fault iT_place iT_kind iT_at iT_number jT_name (iI (iT_next_x2.toInt + 1))) H := hP
                  have hD : va_D A (WT hT aT kT fT_tape dT_tape nT_tape iT_length iT_fault iT_place iT_kind iT_at iT_number jT_name (iI (iT_next_x2.toInt + 1))) := hD
                  refine lv_goto (tgt := 2) hx hb dX9_skipBlanks_78 (by decide) ?_
                  have hl : lv_has _ _ ([(1, .int l1_x2), (0, .ref (hT 0))]) := lv_sub hl [1, 2] rfl
                  exact ihx2 (iI (iT_next_x2.toInt + 1)) l1_x2 _ _ _ (iI_rng (Int.le_trans (by decide) (Int.add_le_add (b_iT_next_x2.1) (Int.le_refl _))) (by omega) (by decide) (by decide)) (b_l1_x2) (show (iI (iT_next_x2.toInt + 1)).toInt ≤ iT_length.toInt from by (try rw [iI_t (by omega) (by omega)]); omega) (show iT_next.toInt ≤ (iI (iT_next_x2.toInt + 1)).toInt from by (try rw [iI_t (by omega) (by omega)]); omega) (by have e9 : ((iI (iT_next_x2.toInt + 1))).toInt = (iT_next_x2.toInt + 1) := (iI_t (Int.le_trans (by decide) (Int.add_le_add (b_iT_next_x2.1) (Int.le_refl _))) (Int.le_trans (Int.add_le_add (b_iT_next_x2.2) (Int.le_refl _)) (by decide))); omega) hP hD hS hl
                · have t_64 : ¬ v14.toInt = 32 := toI_neq c_64 rfl (by decide : (32 : Int32).toInt = 32)
                  refine W.widen (k := 0) (n := 0) (by decide +kernel) (by decide +kernel) ?_
                  exact W.vret hx hb hr (fun t9_ ht hW => ⟨⟨iT_next_x2, rfl, ⟨(by (try dsimp only); exact (b_iT_next_x2)), (by (try dsimp only); exact (hnk)), (by (try dsimp only); exact (hmo))⟩, by rw [ht]; exact hP, hD⟩, hS.F ht⟩) hS.2.2 dX9_skipBlanks_67
        · have t_37 : v14.toInt = 35 := toI_nne c_37 rfl (by decide : (35 : Int32).toInt = 35)
          refine lv_iconst (v := 1) hx hb dX9_skipBlanks_40 (by decide) ?_
          refine lv_istore_n hx hb dX9_skipBlanks_41 rfl hl (by decide) rfl (fun ls (hl : lv_has ls _ ([(1, .int 1), (2, .int v14), (0, .ref (hT 0))])) => ?_)
          refine lv_goto (tgt := 68) hx hb dX9_skipBlanks_42 (by decide) ?_
          refine lv_aload_n hx hb dX9_skipBlanks_68 rfl (lv_at hl 2 rfl) ?_
          refine lv_dup hx hb dX9_skipBlanks_69 rfl ?_
          refine va_get (D := (dC, dI)) (ci := 9) (v := .int iT_next_x2) (C := RX9) (T := TX9) (N := 9) hx hb hts iwsMX9_skipBlanks_in9 hown hK hP 0 rfl rfl 8 (by decide) (hts (.fieldLink RX9 40 "OptimaWorks$Words" "next" "I") (by decide +kernel)) (fun _ h9 => h9) rfl dX9_skipBlanks_70 ?_
          refine lv_iconst (v := 1) hx hb dX9_skipBlanks_73 (by decide) ?_
          refine lv_iadd hx hb dX9_skipBlanks_74 ?_
          refine lv_topi (fun y19 hy19 => ?_)
          obtain rfl : (iI (iT_next_x2.toInt + 1)) = y19 := (hy19.trans (iI_add2 (iI_of _) (by decide : (1 : Int32) = iI 1))).symm
          refine va_put (D := (dC, dI)) (ci := 9) (v := .int (iI (iT_next_x2.toInt + 1))) (ty := .int) (C := RX9) (T := TX9) (N := 9) hx hb hts iwsMX9_skipBlanks_in9 tyX9 tyX9_ok nmX9 hown hK hP hD hS 0 rfl rfl 8 (by decide) (hts (.fieldLink RX9 40 "OptimaWorks$Words" "next" "I") (by decide +kernel)) (fun _ h9 => h9) rfl (by decide +kernel) rfl rfl (Nat.le_of_ble_eq_true rfl) dX9_skipBlanks_75 (fun H locs hP hD hS => ?_)
          have hP : va_P (dC, dI) vwCl (WT hT aT kT fT_tape dT_tape nT_tape iT_length iT_fault iT_place iT_kind iT_at iT_number jT_name (iI (iT_next_x2.toInt + 1))) H := hP
          have hD : va_D A (WT hT aT kT fT_tape dT_tape nT_tape iT_length iT_fault iT_place iT_kind iT_at iT_number jT_name (iI (iT_next_x2.toInt + 1))) := hD
          refine lv_goto (tgt := 2) hx hb dX9_skipBlanks_78 (by decide) ?_
          have hl : lv_has _ _ ([(1, .int 1), (0, .ref (hT 0))]) := lv_sub hl [0, 2] rfl
          exact ihx2 (iI (iT_next_x2.toInt + 1)) 1 _ _ _ (iI_rng (Int.le_trans (by decide) (Int.add_le_add (b_iT_next_x2.1) (Int.le_refl _))) (by omega) (by decide) (by decide)) (show 0 ≤ (1 : Int32).toInt ∧ (1 : Int32).toInt ≤ 1 from by decide) (show (iI (iT_next_x2.toInt + 1)).toInt ≤ iT_length.toInt from by (try rw [iI_t (by omega) (by omega)]); omega) (show iT_next.toInt ≤ (iI (iT_next_x2.toInt + 1)).toInt from by (try rw [iI_t (by omega) (by omega)]); omega) (by have e9 : ((iI (iT_next_x2.toInt + 1))).toInt = (iT_next_x2.toInt + 1) := (iI_t (Int.le_trans (by decide) (Int.add_le_add (b_iT_next_x2.1) (Int.le_refl _))) (Int.le_trans (Int.add_le_add (b_iT_next_x2.2) (Int.le_refl _)) (by decide))); omega) hP hD hS hl
      · have t_26 : v14.toInt = 10 := toI_nne c_26 rfl (by decide : (10 : Int32).toInt = 10)
        refine lv_iconst (v := 0) hx hb dX9_skipBlanks_29 (by decide) ?_
        refine lv_istore_n hx hb dX9_skipBlanks_30 rfl hl (by decide) rfl (fun ls (hl : lv_has ls _ ([(1, .int 0), (2, .int v14), (0, .ref (hT 0))])) => ?_)
        refine lv_goto (tgt := 68) hx hb dX9_skipBlanks_31 (by decide) ?_
        refine lv_aload_n hx hb dX9_skipBlanks_68 rfl (lv_at hl 2 rfl) ?_
        refine lv_dup hx hb dX9_skipBlanks_69 rfl ?_
        refine va_get (D := (dC, dI)) (ci := 9) (v := .int iT_next_x2) (C := RX9) (T := TX9) (N := 9) hx hb hts iwsMX9_skipBlanks_in9 hown hK hP 0 rfl rfl 8 (by decide) (hts (.fieldLink RX9 40 "OptimaWorks$Words" "next" "I") (by decide +kernel)) (fun _ h9 => h9) rfl dX9_skipBlanks_70 ?_
        refine lv_iconst (v := 1) hx hb dX9_skipBlanks_73 (by decide) ?_
        refine lv_iadd hx hb dX9_skipBlanks_74 ?_
        refine lv_topi (fun y20 hy20 => ?_)
        obtain rfl : (iI (iT_next_x2.toInt + 1)) = y20 := (hy20.trans (iI_add2 (iI_of _) (by decide : (1 : Int32) = iI 1))).symm
        refine va_put (D := (dC, dI)) (ci := 9) (v := .int (iI (iT_next_x2.toInt + 1))) (ty := .int) (C := RX9) (T := TX9) (N := 9) hx hb hts iwsMX9_skipBlanks_in9 tyX9 tyX9_ok nmX9 hown hK hP hD hS 0 rfl rfl 8 (by decide) (hts (.fieldLink RX9 40 "OptimaWorks$Words" "next" "I") (by decide +kernel)) (fun _ h9 => h9) rfl (by decide +kernel) rfl rfl (Nat.le_of_ble_eq_true rfl) dX9_skipBlanks_75 (fun H locs hP hD hS => ?_)
        have hP : va_P (dC, dI) vwCl (WT hT aT kT fT_tape dT_tape nT_tape iT_length iT_fault iT_place iT_kind iT_at iT_number jT_name (iI (iT_next_x2.toInt + 1))) H := hP
        have hD : va_D A (WT hT aT kT fT_tape dT_tape nT_tape iT_length iT_fault iT_place iT_kind iT_at iT_number jT_name (iI (iT_next_x2.toInt + 1))) := hD
        refine lv_goto (tgt := 2) hx hb dX9_skipBlanks_78 (by decide) ?_
        have hl : lv_has _ _ ([(1, .int 0), (0, .ref (hT 0))]) := lv_sub hl [0, 2] rfl
        exact ihx2 (iI (iT_next_x2.toInt + 1)) 0 _ _ _ (iI_rng (Int.le_trans (by decide) (Int.add_le_add (b_iT_next_x2.1) (Int.le_refl _))) (by omega) (by decide) (by decide)) (show 0 ≤ (0 : Int32).toInt ∧ (0 : Int32).toInt ≤ 1 from by decide) (show (iI (iT_next_x2.toInt + 1)).toInt ≤ iT_length.toInt from by (try rw [iI_t (by omega) (by omega)]); omega) (show iT_next.toInt ≤ (iI (iT_next_x2.toInt + 1)).toInt from by (try rw [iI_t (by omega) (by omega)]); omega) (by have e9 : ((iI (iT_next_x2.toInt + 1))).toInt = (iT_next_x2.toInt + 1) := (iI_t (Int.le_trans (by decide) (Int.add_le_add (b_iT_next_x2.1) (Int.le_refl _))) (Int.le_trans (Int.add_le_add (b_iT_next_x2.2) (Int.le_refl _)) (by decide))); omega) hP hD hS hl
theorem dX9_takeName_0 : decode cX9_takeName 0 = .ok (.aload_n 0, 1) := dk_42 (by decide +kernel)
theorem dX9_takeName_1 : decode cX9_takeName 1 = .ok (.lconst 0, 1) := dk_9 (by decide +kernel)
theorem dX9_takeName_2 : decode cX9_takeName 2 = .ok (.putfield 66, 3) := dk_181 (by decide +kernel)
theorem dX9_takeName_5 : decode cX9_takeName 5 = .ok (.iconst 1, 1) := dk_4 (by decide +kernel)
theorem dX9_takeName_6 : decode cX9_takeName 6 = .ok (.istore_n 1, 1) := dk_60 (by decide +kernel)
theorem dX9_takeName_7 : decode cX9_takeName 7 = .ok (.aload_n 0, 1) := dk_42 (by decide +kernel)
theorem dX9_takeName_8 : decode cX9_takeName 8 = .ok (.getfield 40, 3) := dk_180 (by decide +kernel)
theorem dX9_takeName_11 : decode cX9_takeName 11 = .ok (.istore_n 2, 1) := dk_61 (by decide +kernel)
theorem dX9_takeName_12 : decode cX9_takeName 12 = .ok (.iload_n 2, 1) := dk_28 (by decide +kernel)
theorem dX9_takeName_13 : decode cX9_takeName 13 = .ok (.aload_n 0, 1) := dk_42 (by decide +kernel)
theorem dX9_takeName_14 : decode cX9_takeName 14 = .ok (.getfield 19, 3) := dk_180 (by decide +kernel)
theorem dX9_takeName_17 : decode cX9_takeName 17 = .ok (.if_icmp .ge 90, 3) := dk_162 (by decide +kernel)
theorem dX9_takeName_20 : decode cX9_takeName 20 = .ok (.iload_n 1, 1) := dk_27 (by decide +kernel)
theorem dX9_takeName_21 : decode cX9_takeName 21 = .ok (.ifCond .eq 86, 3) := dk_153 (by decide +kernel)
theorem dX9_takeName_24 : decode cX9_takeName 24 = .ok (.aload_n 0, 1) := dk_42 (by decide +kernel)
theorem dX9_takeName_25 : decode cX9_takeName 25 = .ok (.getfield 9, 3) := dk_180 (by decide +kernel)
theorem dX9_takeName_28 : decode cX9_takeName 28 = .ok (.iload_n 2, 1) := dk_28 (by decide +kernel)
theorem dX9_takeName_29 : decode cX9_takeName 29 = .ok (.baload, 1) := dk_51 (by decide +kernel)
theorem dX9_takeName_30 : decode cX9_takeName 30 = .ok (.istore_n 3, 1) := dk_62 (by decide +kernel)
theorem dX9_takeName_31 : decode cX9_takeName 31 = .ok (.iload_n 3, 1) := dk_29 (by decide +kernel)
theorem dX9_takeName_32 : decode cX9_takeName 32 = .ok (.bipush 97, 2) := dk_16 (by decide +kernel)
theorem dX9_takeName_34 : decode cX9_takeName 34 = .ok (.if_icmp .lt 9, 3) := dk_161 (by decide +kernel)
theorem dX9_takeName_37 : decode cX9_takeName 37 = .ok (.iload_n 3, 1) := dk_29 (by decide +kernel)
theorem dX9_takeName_38 : decode cX9_takeName 38 = .ok (.bipush 122, 2) := dk_16 (by decide +kernel)
theorem dX9_takeName_40 : decode cX9_takeName 40 = .ok (.if_icmp .le 27, 3) := dk_164 (by decide +kernel)
theorem dX9_takeName_43 : decode cX9_takeName 43 = .ok (.iload_n 3, 1) := dk_29 (by decide +kernel)
theorem dX9_takeName_44 : decode cX9_takeName 44 = .ok (.bipush 65, 2) := dk_16 (by decide +kernel)
theorem dX9_takeName_46 : decode cX9_takeName 46 = .ok (.if_icmp .lt 9, 3) := dk_161 (by decide +kernel)
theorem dX9_takeName_49 : decode cX9_takeName 49 = .ok (.iload_n 3, 1) := dk_29 (by decide +kernel)
theorem dX9_takeName_50 : decode cX9_takeName 50 = .ok (.bipush 90, 2) := dk_16 (by decide +kernel)
theorem dX9_takeName_52 : decode cX9_takeName 52 = .ok (.if_icmp .le 15, 3) := dk_164 (by decide +kernel)
theorem dX9_takeName_55 : decode cX9_takeName 55 = .ok (.iload_n 3, 1) := dk_29 (by decide +kernel)
theorem dX9_takeName_56 : decode cX9_takeName 56 = .ok (.bipush 48, 2) := dk_16 (by decide +kernel)
theorem dX9_takeName_58 : decode cX9_takeName 58 = .ok (.if_icmp .lt 13, 3) := dk_161 (by decide +kernel)
theorem dX9_takeName_61 : decode cX9_takeName 61 = .ok (.iload_n 3, 1) := dk_29 (by decide +kernel)
theorem dX9_takeName_62 : decode cX9_takeName 62 = .ok (.bipush 57, 2) := dk_16 (by decide +kernel)
theorem dX9_takeName_64 : decode cX9_takeName 64 = .ok (.if_icmp .gt 7, 3) := dk_163 (by decide +kernel)
theorem dX9_takeName_67 : decode cX9_takeName 67 = .ok (.iconst 1, 1) := dk_4 (by decide +kernel)
theorem dX9_takeName_68 : decode cX9_takeName 68 = .ok (.goto 4, 3) := dk_167 (by decide +kernel)
theorem dX9_takeName_71 : decode cX9_takeName 71 = .ok (.iconst 0, 1) := dk_3 (by decide +kernel)
theorem dX9_takeName_72 : decode cX9_takeName 72 = .ok (.istore_n 1, 1) := dk_60 (by decide +kernel)
theorem dX9_takeName_73 : decode cX9_takeName 73 = .ok (.iload_n 1, 1) := dk_27 (by decide +kernel)
theorem dX9_takeName_74 : decode cX9_takeName 74 = .ok (.ifCond .eq 27, 3) := dk_153 (by decide +kernel)
theorem dX9_takeName_77 : decode cX9_takeName 77 = .ok (.aload_n 0, 1) := dk_42 (by decide +kernel)
theorem dX9_takeName_78 : decode cX9_takeName 78 = .ok (.aload_n 0, 1) := dk_42 (by decide +kernel)
theorem dX9_takeName_79 : decode cX9_takeName 79 = .ok (.getfield 66, 3) := dk_180 (by decide +kernel)
theorem dX9_takeName_82 : decode cX9_takeName 82 = .ok (.bipush 8, 2) := dk_16 (by decide +kernel)
theorem dX9_takeName_84 : decode cX9_takeName 84 = .ok (.lshl, 1) := dk_121 (by decide +kernel)
theorem dX9_takeName_85 : decode cX9_takeName 85 = .ok (.iload_n 3, 1) := dk_29 (by decide +kernel)
theorem dX9_takeName_86 : decode cX9_takeName 86 = .ok (.i2l, 1) := dk_133 (by decide +kernel)
theorem dX9_takeName_87 : decode cX9_takeName 87 = .ok (.lor, 1) := dk_129 (by decide +kernel)
theorem dX9_takeName_88 : decode cX9_takeName 88 = .ok (.putfield 66, 3) := dk_181 (by decide +kernel)
theorem dX9_takeName_91 : decode cX9_takeName 91 = .ok (.aload_n 0, 1) := dk_42 (by decide +kernel)
theorem dX9_takeName_92 : decode cX9_takeName 92 = .ok (.dup, 1) := dk_89 (by decide +kernel)
theorem dX9_takeName_93 : decode cX9_takeName 93 = .ok (.getfield 40, 3) := dk_180 (by decide +kernel)
theorem dX9_takeName_96 : decode cX9_takeName 96 = .ok (.iconst 1, 1) := dk_4 (by decide +kernel)
theorem dX9_takeName_97 : decode cX9_takeName 97 = .ok (.iadd, 1) := dk_96 (by decide +kernel)
theorem dX9_takeName_98 : decode cX9_takeName 98 = .ok (.putfield 40, 3) := dk_181 (by decide +kernel)
theorem dX9_takeName_101 : decode cX9_takeName 101 = .ok (.iinc 2 1, 3) := dk_132 (by decide +kernel)
theorem dX9_takeName_104 : decode cX9_takeName 104 = .ok (.goto (-92), 3) := dk_167 (by decide +kernel)
theorem dX9_takeName_107 : decode cX9_takeName 107 = .ok (.return_, 1) := dk_177 (by decide +kernel)
def wsMX9_takeName : List Cond := .code yX9_takeName cX9_takeName 4 none :: ([.fieldLink RX9 66 "OptimaWorks$Words" "name" "J", .fieldLink RX9 40 "OptimaWorks$Words" "next" "I", .fieldLink RX9 19 "OptimaWorks$Words" "length" "I", .fieldLink RX9 9 "OptimaWorks$Words" "tape" "[B"] ++ wsX90)
theorem iwsMX9_takeName_in9 : ∀ w ∈ wsX90, w ∈ wsMX9_takeName := fun _ h => List.mem_cons_of_mem _ (List.mem_append_right _ h)
theorem gdwsMX9_takeName : wsMX9_takeName.all goodWord = true := gdC rfl (gdA (by decide +kernel : ([.fieldLink RX9 66 "OptimaWorks$Words" "name" "J", .fieldLink RX9 40 "OptimaWorks$Words" "next" "I", .fieldLink RX9 19 "OptimaWorks$Words" "length" "I", .fieldLink RX9 9 "OptimaWorks$Words" "tape" "[B"] : List Cond).all goodWord = true) gdwsX90)
set_option maxHeartbeats 4000000 in
set_option maxRecDepth 100000 in
/-- a name -/
theorem m_X9_takeName (l : Launch) (dC : Nat → ClassId) (dI : Nat → Nat → Nat) (hT : Nat → Nat) (aT : Nat → Nat) (kT : Nat → ClassId) (fT_tape : Nat → Int32) (dT_tape : Nat) (nT_tape : Nat) (iT_length : Int32) (iT_fault : Int32) (iT_place : Int32) (iT_kind : Int32) (iT_at : Int32) (iT_number : Int32) (jT_name : Int64) (iT_next : Int32) (b_fT_tape : ∀ q : Nat, (-128) ≤ (fT_tape q).toInt ∧ (fT_tape q).toInt ≤ 127) (b_nT_tape : 64 ≤ nT_tape ∧ nT_tape ≤ 2560) (b_iT_length : 0 ≤ iT_length.toInt ∧ iT_length.toInt ≤ 1280) (b_iT_at : 0 ≤ iT_at.toInt ∧ iT_at.toInt ≤ 1282) (b_iT_number : 0 ≤ iT_number.toInt ∧ iT_number.toInt ≤ 999999) (b_iT_next : 0 ≤ iT_next.toInt ∧ iT_next.toInt ≤ 1282) (b_len : iT_length.toInt ≤ ((nT_tape : Nat) : Int)) (hnl : iT_next.toInt ≤ iT_length.toInt) (sz : Nat) : Met l yX9_takeName wsMX9_takeName ({ frames := 0, cells := 0, slots := 0, locals := 0 }) (va_Pc [.ref (hT 0)] (fun U => U.heap.size = sz ∧ va_P (dC, dI) vwCl (WT hT aT kT fT_tape dT_tape nT_tape iT_length iT_fault iT_place iT_kind iT_at iT_number jT_name iT_next) U.heap ∧ va_K (dC, dI) vwCl (tT kT) U ∧ va_D (fun _ => True) (WT hT aT kT fT_tape dT_tape nT_tape iT_length iT_fault iT_place iT_kind iT_at iT_number jT_name iT_next))) (va_Qv (fun (u : (Int64) × (Int32)) => (0 ≤ (u.2).toInt ∧ (u.2).toInt ≤ 1282) ∧ ((u.2).toInt ≤ iT_length.toInt) ∧ (iT_next.toInt ≤ (u.2).toInt)) (fun (u : (Int64) × (Int32)) t => va_P (dC, dI) vwCl (WT hT aT kT fT_tape dT_tape nT_tape iT_length iT_fault iT_place iT_kind iT_at iT_number (u.1) (u.2)) t.heap ∧ va_D (va_A (WT hT aT kT fT_tape dT_tape nT_tape iT_length iT_fault iT_place iT_kind iT_at iT_number jT_name iT_next) sz) (WT hT aT kT fT_tape dT_tape nT_tape iT_length iT_fault iT_place iT_kind iT_at iT_number (u.1) (u.2))) (va_A (WT hT aT kT fT_tape dT_tape nT_tape iT_length iT_fault iT_place iT_kind iT_at iT_number jT_name iT_next) sz)) 0 0 (va_A (WT hT aT kT fT_tape dT_tape nT_tape iT_length iT_fault iT_place iT_kind iT_at iT_number jT_name iT_next) sz) := by
  refine Met.ofW (cc := cX9_takeName) (maxL := 4) (ret := none) (by decide) rfl ?_
  intro p e s m args below meth c s₁ B hml hv
  obtain ⟨rfl, hsz, hP, hK, hD0⟩ := hv
  have hx := B.exec
  have hb := B.bytes
  have hr := B.returns
  have hts := atoms_spec (ws := wsMX9_takeName) B.pre
  have hown : s.vm.findClass RX9 = some m.cls := findClass_of_methodNamed B.named
  have hlocks := B.notSynchronized
  subst hsz
  have hD := hD0.self (sz := s.heap.size)
  generalize hAe : va_A (WT hT aT kT fT_tape dT_tape nT_tape iT_length iT_fault iT_place iT_kind iT_at iT_number jT_name iT_next) s.heap.size = A at hD ⊢
  have hA : ∀ q : Nat, s.heap.size ≤ q → A q := fun q h => by rw [← hAe]; exact Or.inr h
  have hS : va_S A s.heap s.heap [] := va_S.rf
  have hl := lv_entry ([.ref (hT 0)]) (n := 4) (Nat.le_of_ble_eq_true rfl)
  rw [lg_entry_eq]
  generalize (lg_sl ([.ref (hT 0)]) ++ List.replicate (4 - (lg_sl ([.ref (hT 0)])).length) Slot.unset).toArray = ls at hl ⊢
  have hl : lv_has ls 4 [(0, .ref (hT 0))] := hl
  refine lv_aload_n hx hb dX9_takeName_0 rfl (lv_at hl 0 rfl) ?_
  refine lv_lconst (v := 0) hx hb dX9_takeName_1 (by decide) ?_
  refine va_put (D := (dC, dI)) (ci := 9) (v := .long 0) (ty := .long) (C := RX9) (T := TX9) (N := 9) hx hb hts iwsMX9_takeName_in9 tyX9 tyX9_ok nmX9 hown hK hP hD hS 0 rfl rfl 7 (by decide) (hts (.fieldLink RX9 66 "OptimaWorks$Words" "name" "J") (by decide +kernel)) (fun _ h9 => h9) rfl (by decide +kernel) rfl rfl (Nat.le_of_ble_eq_true rfl) dX9_takeName_2 (fun H locs hP hD hS => ?_)
  have hP : va_P (dC, dI) vwCl (WT hT aT kT fT_tape dT_tape nT_tape iT_length iT_fault iT_place iT_kind iT_at iT_number 0 iT_next) H := hP
  have hD : va_D A (WT hT aT kT fT_tape dT_tape nT_tape iT_length iT_fault iT_place iT_kind iT_at iT_number 0 iT_next) := hD
  refine lv_iconst (v := 1) hx hb dX9_takeName_5 (by decide) ?_
  refine lv_istore_n hx hb dX9_takeName_6 rfl hl (by decide) rfl (fun ls (hl : lv_has ls _ ([(1, .int 1), (0, .ref (hT 0))])) => ?_)
  refine lv_aload_n hx hb dX9_takeName_7 rfl (lv_at hl 1 rfl) ?_
  refine va_get (D := (dC, dI)) (ci := 9) (v := .int iT_next) (C := RX9) (T := TX9) (N := 9) hx hb hts iwsMX9_takeName_in9 hown hK hP 0 rfl rfl 8 (by decide) (hts (.fieldLink RX9 40 "OptimaWorks$Words" "next" "I") (by decide +kernel)) (fun _ h9 => h9) rfl dX9_takeName_8 ?_
  refine lv_istore_n hx hb dX9_takeName_11 rfl hl (by decide) rfl (fun ls (hl : lv_has ls _ ([(2, .int iT_next), (1, .int 1), (0, .ref (hT 0))])) => ?_)
  have hl : lv_has _ _ ([(2, .int iT_next), (1, .int 1), (0, .ref (hT 0))]) := lv_sub hl [0, 1, 2] rfl
  refine (fun (loop : ∀ (n9 : Nat) (jT_name_x12 : Int64) (iT_next_x12 : Int32) (l2_x12 : Int32) (l1_x12 : Int32) (H : Heap) (locs : List Loc) (ls : Array Slot), (0 ≤ iT_next_x12.toInt ∧ iT_next_x12.toInt ≤ 1282) → (0 ≤ l2_x12.toInt ∧ l2_x12.toInt ≤ 1282) → (0 ≤ l1_x12.toInt ∧ l1_x12.toInt ≤ 1) → (iT_next_x12.toInt ≤ l2_x12.toInt) → (iT_next_x12.toInt ≤ iT_length.toInt) → (iT_next.toInt ≤ iT_next_x12.toInt) → (1282 - l2_x12.toInt < ((n9 : Nat) : Int)) → va_P (dC, dI) vwCl (WT hT aT kT fT_tape dT_tape nT_tape iT_length iT_fault iT_place iT_kind iT_at iT_number jT_name_x12 iT_next_x12) H → va_D A (WT hT aT kT fT_tape dT_tape nT_tape iT_length iT_fault iT_place iT_kind iT_at iT_number jT_name_x12 iT_next_x12) → va_S A s.heap H locs → lv_has ls 4 [(2, .int l2_x12), (1, .int l1_x12), (0, .ref (hT 0))] → W p l e _ s m _ below meth c H locs 0 0 _ (F0 m 12 ls [])) => loop (1283) 0 iT_next iT_next 1 _ _ _ (b_iT_next) (b_iT_next) (show 0 ≤ (1 : Int32).toInt ∧ (1 : Int32).toInt ≤ 1 from by decide) (show iT_next.toInt ≤ iT_next.toInt from by omega) (show iT_next.toInt ≤ iT_length.toInt from by omega) (show iT_next.toInt ≤ iT_next.toInt from by omega) ((by have e9 : (iT_next).toInt = iT_next.toInt := rfl; omega)) hP hD hS hl) ?_
  intro n9
  induction n9 with
  | zero => intro jT_name_x12 iT_next_x12 l2_x12 l1_x12 H locs ls b_iT_next_x12 b_l2_x12 b_l1_x12 hni hnk hmo hf9; exact False.elim (by omega)
  | succ n9 ihx12 =>
    intro jT_name_x12 iT_next_x12 l2_x12 l1_x12 H locs ls b_iT_next_x12 b_l2_x12 b_l1_x12 hni hnk hmo hfx12 hP hD hS hl
    refine lv_iload_n hx hb dX9_takeName_12 rfl (lv_at hl 0 rfl) ?_
    refine lv_aload_n hx hb dX9_takeName_13 rfl (lv_at hl 2 rfl) ?_
    refine va_get (D := (dC, dI)) (ci := 9) (v := .int iT_length) (C := RX9) (T := TX9) (N := 9) hx hb hts iwsMX9_takeName_in9 hown hK hP 0 rfl rfl 1 (by decide) (hts (.fieldLink RX9 19 "OptimaWorks$Words" "length" "I") (by decide +kernel)) (fun _ h9 => h9) rfl dX9_takeName_14 ?_
    refine W.cut (pc := 107) (fun H locs ls stk =>  stk = [] ∧ va_P (dC, dI) vwCl (WT hT aT kT fT_tape dT_tape nT_tape iT_length iT_fault iT_place iT_kind iT_at iT_number jT_name_x12 iT_next_x12) H ∧ va_D A (WT hT aT kT fT_tape dT_tape nT_tape iT_length iT_fault iT_place iT_kind iT_at iT_number jT_name_x12 iT_next_x12) ∧ va_S A s.heap H locs ∧ lv_has ls 4 [(2, .int l2_x12), (1, .int l1_x12), (0, .ref (hT 0))]) (fun join15 => ?_) ?_
    · refine lv_icmp_ge (tgt := 107) hx hb dX9_takeName_17 (by decide) (fun c_17 => ?_) (fun c_17 => ?_)
      · have t_17 : l2_x12.toInt ≥ iT_length.toInt := toI_ge c_17 rfl rfl
        have hl : lv_has _ _ ([(2, .int l2_x12), (1, .int l1_x12), (0, .ref (hT 0))]) := lv_sub hl [0, 1, 2] rfl
        exact join15 _ _ _ _ ⟨rfl, hP, hD, hS, hl⟩
      · have t_17 : ¬ l2_x12.toInt ≥ iT_length.toInt := toI_nge c_17 rfl rfl
        refine lv_iload_n hx hb dX9_takeName_20 rfl (lv_at hl 1 rfl) ?_
        refine lv_if_eq (tgt := 107) hx hb dX9_takeName_21 (by decide) (fun c_21 => ?_) (fun c_21 => ?_)
        · have t_21 : l1_x12.toInt = 0 := toI_eq c_21 rfl (by decide : (0 : Int32).toInt = 0)
          have hl : lv_has _ _ ([(2, .int l2_x12), (1, .int l1_x12), (0, .ref (hT 0))]) := lv_sub hl [0, 1, 2] rfl
          exact join15 _ _ _ _ ⟨rfl, hP, hD, hS, hl⟩
        · have t_21 : ¬ l1_x12.toInt = 0 := toI_neq c_21 rfl (by decide : (0 : Int32).toInt = 0)
          refine lv_aload_n hx hb dX9_takeName_24 rfl (lv_at hl 2 rfl) ?_
          refine va_get (D := (dC, dI)) (ci := 9) (v := .ref dT_tape) (C := RX9) (T := TX9) (N := 9) hx hb hts iwsMX9_takeName_in9 hown hK hP 0 rfl rfl 0 (by decide) (hts (.fieldLink RX9 9 "OptimaWorks$Words" "tape" "[B") (by decide +kernel)) (fun _ h9 => h9) rfl dX9_takeName_25 ?_
          refine lv_iload_n hx hb dX9_takeName_28 rfl (lv_at hl 0 rfl) ?_
          refine va_bald (cA := kT 0) (n := nT_tape) (f := fT_tape) hx hb hK hP 1 0 rfl rfl (vp_in_iff.mpr ⟨b_l2_x12.1, (by omega)⟩) dX9_takeName_29 ?_
          refine lv_topi (fun v26 hv26 => ?_)
          have b_v26 : (-128) ≤ v26.toInt ∧ v26.toInt ≤ 127 := by rw [hv26]; exact b_fT_tape _
          clear hv26
          refine lv_istore_n hx hb dX9_takeName_30 rfl hl (by decide) rfl (fun ls (hl : lv_has ls _ ([(3, .int v26), (2, .int l2_x12), (1, .int l1_x12), (0, .ref (hT 0))])) => ?_)
          refine lv_iload_n hx hb dX9_takeName_31 rfl (lv_at hl 0 rfl) ?_
          refine lv_bipush (v := 97) hx hb dX9_takeName_32 (by decide) ?_
          refine W.cut (pc := 72) (fun H locs ls stk => ∃ (k0_j16 : Int32), (0 ≤ k0_j16.toInt ∧ k0_j16.toInt ≤ 1) ∧  stk = [.int k0_j16] ∧ va_P (dC, dI) vwCl (WT hT aT kT fT_tape dT_tape nT_tape iT_length iT_fault iT_place iT_kind iT_at iT_number jT_name_x12 iT_next_x12) H ∧ va_D A (WT hT aT kT fT_tape dT_tape nT_tape iT_length iT_fault iT_place iT_kind iT_at iT_number jT_name_x12 iT_next_x12) ∧ va_S A s.heap H locs ∧ lv_has ls 4 [(3, .int v26), (2, .int l2_x12), (1, .int l1_x12), (0, .ref (hT 0))]) (fun join16 => ?_) ?_
          · refine lv_icmp_lt (tgt := 43) hx hb dX9_takeName_34 (by decide) (fun c_34 => ?_) (fun c_34 => ?_)
            · have t_34 : v26.toInt < 97 := toI_lt c_34 rfl (by decide : (97 : Int32).toInt = 97)
              refine lv_iload_n hx hb dX9_takeName_43 rfl (lv_at hl 0 rfl) ?_
              refine lv_bipush (v := 65) hx hb dX9_takeName_44 (by decide) ?_
              refine lv_icmp_lt (tgt := 55) hx hb dX9_takeName_46 (by decide) (fun c_46 => ?_) (fun c_46 => ?_)
              · have t_46 : v26.toInt < 65 := toI_lt c_46 rfl (by decide : (65 : Int32).toInt = 65)
                refine lv_iload_n hx hb dX9_takeName_55 rfl (lv_at hl 0 rfl) ?_
                refine lv_bipush (v := 48) hx hb dX9_takeName_56 (by decide) ?_
                refine lv_icmp_lt (tgt := 71) hx hb dX9_takeName_58 (by decide) (fun c_58 => ?_) (fun c_58 => ?_)
                · have t_58 : v26.toInt < 48 := toI_lt c_58 rfl (by decide : (48 : Int32).toInt = 48)
                  refine lv_iconst (v := 0) hx hb dX9_takeName_71 (by decide) ?_
                  have hl : lv_has _ _ ([(3, .int v26), (2, .int l2_x12), (1, .int l1_x12), (0, .ref (hT 0))]) := lv_sub hl [0, 1, 2, 3] rfl
                  exact join16 _ _ _ _ ⟨0, (show 0 ≤ (0 : Int32).toInt ∧ (0 : Int32).toInt ≤ 1 from by decide), rfl, hP, hD, hS, hl⟩
                · have t_58 : ¬ v26.toInt < 48 := toI_nlt c_58 rfl (by decide : (48 : Int32).toInt = 48)
                  refine lv_iload_n hx hb dX9_takeName_61 rfl (lv_at hl 0 rfl) ?_
                  refine lv_bipush (v := 57) hx hb dX9_takeName_62 (by decide) ?_
                  refine lv_icmp_gt (tgt := 71) hx hb dX9_takeName_64 (by decide) (fun c_64 => ?_) (fun c_64 => ?_)
                  · have t_64 : v26.toInt > 57 := toI_gt c_64 rfl (by decide : (57 : Int32).toInt = 57)
                    refine lv_iconst (v := 0) hx hb dX9_takeName_71 (by decide) ?_
                    have hl : lv_has _ _ ([(3, .int v26), (2, .int l2_x12), (1, .int l1_x12), (0, .ref (hT 0))]) := lv_sub hl [0, 1, 2, 3] rfl
                    exact join16 _ _ _ _ ⟨0, (show 0 ≤ (0 : Int32).toInt ∧ (0 : Int32).toInt ≤ 1 from by decide), rfl, hP, hD, hS, hl⟩
                  · have t_64 : ¬ v26.toInt > 57 := toI_ngt c_64 rfl (by decide : (57 : Int32).toInt = 57)
                    refine lv_iconst (v := 1) hx hb dX9_takeName_67 (by decide) ?_
                    refine lv_goto (tgt := 72) hx hb dX9_takeName_68 (by decide) ?_
                    have hl : lv_has _ _ ([(3, .int v26), (2, .int l2_x12), (1, .int l1_x12), (0, .ref (hT 0))]) := lv_sub hl [0, 1, 2, 3] rfl
                    exact join16 _ _ _ _ ⟨1, (show 0 ≤ (1 : Int32).toInt ∧ (1 : Int32).toInt ≤ 1 from by decide), rfl, hP, hD, hS, hl⟩
              · have t_46 : ¬ v26.toInt < 65 := toI_nlt c_46 rfl (by decide : (65 : Int32).toInt = 65)
                refine lv_iload_n hx hb dX9_takeName_49 rfl (lv_at hl 0 rfl) ?_
                refine lv_bipush (v := 90) hx hb dX9_takeName_50 (by decide) ?_
                refine lv_icmp_le (tgt := 67) hx hb dX9_takeName_52 (by decide) (fun c_52 => ?_) (fun c_52 => ?_)
                · have t_52 : v26.toInt ≤ 90 := toI_le c_52 rfl (by decide : (90 : Int32).toInt = 90)
                  refine lv_iconst (v := 1) hx hb dX9_takeName_67 (by decide) ?_
                  refine lv_goto (tgt := 72) hx hb dX9_takeName_68 (by decide) ?_
                  have hl : lv_has _ _ ([(3, .int v26), (2, .int l2_x12), (1, .int l1_x12), (0, .ref (hT 0))]) := lv_sub hl [0, 1, 2, 3] rfl
                  exact join16 _ _ _ _ ⟨1, (show 0 ≤ (1 : Int32).toInt ∧ (1 : Int32).toInt ≤ 1 from by decide), rfl, hP, hD, hS, hl⟩
                · have t_52 : ¬ v26.toInt ≤ 90 := toI_nle c_52 rfl (by decide : (90 : Int32).toInt = 90)
                  refine lv_iload_n hx hb dX9_takeName_55 rfl (lv_at hl 0 rfl) ?_
                  refine lv_bipush (v := 48) hx hb dX9_takeName_56 (by decide) ?_
                  refine lv_icmp_lt (tgt := 71) hx hb dX9_takeName_58 (by decide) (fun c_58 => ?_) (fun c_58 => ?_)
                  · have t_58 : v26.toInt < 48 := toI_lt c_58 rfl (by decide : (48 : Int32).toInt = 48)
                    refine lv_iconst (v := 0) hx hb dX9_takeName_71 (by decide) ?_
                    have hl : lv_has _ _ ([(3, .int v26), (2, .int l2_x12), (1, .int l1_x12), (0, .ref (hT 0))]) := lv_sub hl [0, 1, 2, 3] rfl
                    exact join16 _ _ _ _ ⟨0, (show 0 ≤ (0 : Int32).toInt ∧ (0 : Int32).toInt ≤ 1 from by decide), rfl, hP, hD, hS, hl⟩
                  · have t_58 : ¬ v26.toInt < 48 := toI_nlt c_58 rfl (by decide : (48 : Int32).toInt = 48)
                    refine lv_iload_n hx hb dX9_takeName_61 rfl (lv_at hl 0 rfl) ?_
                    refine lv_bipush (v := 57) hx hb dX9_takeName_62 (by decide) ?_
                    refine lv_icmp_gt (tgt := 71) hx hb dX9_takeName_64 (by decide) (fun c_64 => ?_) (fun c_64 => ?_)
                    · have t_64 : v26.toInt > 57 := toI_gt c_64 rfl (by decide : (57 : Int32).toInt = 57)
                      refine lv_iconst (v := 0) hx hb dX9_takeName_71 (by decide) ?_
                      have hl : lv_has _ _ ([(3, .int v26), (2, .int l2_x12), (1, .int l1_x12), (0, .ref (hT 0))]) := lv_sub hl [0, 1, 2, 3] rfl
                      exact join16 _ _ _ _ ⟨0, (show 0 ≤ (0 : Int32).toInt ∧ (0 : Int32).toInt ≤ 1 from by decide), rfl, hP, hD, hS, hl⟩
                    · have t_64 : ¬ v26.toInt > 57 := toI_ngt c_64 rfl (by decide : (57 : Int32).toInt = 57)
                      refine lv_iconst (v := 1) hx hb dX9_takeName_67 (by decide) ?_
                      refine lv_goto (tgt := 72) hx hb dX9_takeName_68 (by decide) ?_
                      have hl : lv_has _ _ ([(3, .int v26), (2, .int l2_x12), (1, .int l1_x12), (0, .ref (hT 0))]) := lv_sub hl [0, 1, 2, 3] rfl
                      exact join16 _ _ _ _ ⟨1, (show 0 ≤ (1 : Int32).toInt ∧ (1 : Int32).toInt ≤ 1 from by decide), rfl, hP, hD, hS, hl⟩
            · have t_34 : ¬ v26.toInt < 97 := toI_nlt c_34 rfl (by decide : (97 : Int32).toInt = 97)
              refine lv_iload_n hx hb dX9_takeName_37 rfl (lv_at hl 0 rfl) ?_
              refine lv_bipush (v := 122) hx hb dX9_takeName_38 (by decide) ?_
              refine lv_icmp_le (tgt := 67) hx hb dX9_takeName_40 (by decide) (fun c_40 => ?_) (fun c_40 => ?_)
              · have t_40 : v26.toInt ≤ 122 := toI_le c_40 rfl (by decide : (122 : Int32).toInt = 122)
                refine lv_iconst (v := 1) hx hb dX9_takeName_67 (by decide) ?_
                refine lv_goto (tgt := 72) hx hb dX9_takeName_68 (by decide) ?_
                have hl : lv_has _ _ ([(3, .int v26), (2, .int l2_x12), (1, .int l1_x12), (0, .ref (hT 0))]) := lv_sub hl [0, 1, 2, 3] rfl
                exact join16 _ _ _ _ ⟨1, (show 0 ≤ (1 : Int32).toInt ∧ (1 : Int32).toInt ≤ 1 from by decide), rfl, hP, hD, hS, hl⟩
              · have t_40 : ¬ v26.toInt ≤ 122 := toI_nle c_40 rfl (by decide : (122 : Int32).toInt = 122)
                refine lv_iload_n hx hb dX9_takeName_43 rfl (lv_at hl 0 rfl) ?_
                refine lv_bipush (v := 65) hx hb dX9_takeName_44 (by decide) ?_
                refine lv_icmp_lt (tgt := 55) hx hb dX9_takeName_46 (by decide) (fun c_46 => ?_) (fun c_46 => ?_)
                · have t_46 : v26.toInt < 65 := toI_lt c_46 rfl (by decide : (65 : Int32).toInt = 65)
                  refine lv_iload_n hx hb dX9_takeName_55 rfl (lv_at hl 0 rfl) ?_
                  refine lv_bipush (v := 48) hx hb dX9_takeName_56 (by decide) ?_
                  refine lv_icmp_lt (tgt := 71) hx hb dX9_takeName_58 (by decide) (fun c_58 => ?_) (fun c_58 => ?_)
                  · have t_58 : v26.toInt < 48 := toI_lt c_58 rfl (by decide : (48 : Int32).toInt = 48)
                    refine lv_iconst (v := 0) hx hb dX9_takeName_71 (by decide) ?_
                    have hl : lv_has _ _ ([(3, .int v26), (2, .int l2_x12), (1, .int l1_x12), (0, .ref (hT 0))]) := lv_sub hl [0, 1, 2, 3] rfl
                    exact join16 _ _ _ _ ⟨0, (show 0 ≤ (0 : Int32).toInt ∧ (0 : Int32).toInt ≤ 1 from by decide), rfl, hP, hD, hS, hl⟩
                  · have t_58 : ¬ v26.toInt < 48 := toI_nlt c_58 rfl (by decide : (48 : Int32).toInt = 48)
                    refine lv_iload_n hx hb dX9_takeName_61 rfl (lv_at hl 0 rfl) ?_
                    refine lv_bipush (v := 57) hx hb dX9_takeName_62 (by decide) ?_
                    refine lv_icmp_gt (tgt := 71) hx hb dX9_takeName_64 (by decide) (fun c_64 => ?_) (fun c_64 => ?_)
                    · have t_64 : v26.toInt > 57 := toI_gt c_64 rfl (by decide : (57 : Int32).toInt = 57)
                      refine lv_iconst (v := 0) hx hb dX9_takeName_71 (by decide) ?_
                      have hl : lv_has _ _ ([(3, .int v26), (2, .int l2_x12), (1, .int l1_x12), (0, .ref (hT 0))]) := lv_sub hl [0, 1, 2, 3] rfl
                      exact join16 _ _ _ _ ⟨0, (show 0 ≤ (0 : Int32).toInt ∧ (0 : Int32).toInt ≤ 1 from by decide), rfl, hP, hD, hS, hl⟩
                    · have t_64 : ¬ v26.toInt > 57 := toI_ngt c_64 rfl (by decide : (57 : Int32).toInt = 57)
                      refine lv_iconst (v := 1) hx hb dX9_takeName_67 (by decide) ?_
                      refine lv_goto (tgt := 72) hx hb dX9_takeName_68 (by decide) ?_
                      have hl : lv_has _ _ ([(3, .int v26), (2, .int l2_x12), (1, .int l1_x12), (0, .ref (hT 0))]) := lv_sub hl [0, 1, 2, 3] rfl
                      exact join16 _ _ _ _ ⟨1, (show 0 ≤ (1 : Int32).toInt ∧ (1 : Int32).toInt ≤ 1 from by decide), rfl, hP, hD, hS, hl⟩
                · have t_46 : ¬ v26.toInt < 65 := toI_nlt c_46 rfl (by decide : (65 : Int32).toInt = 65)
                  refine lv_iload_n hx hb dX9_takeName_49 rfl (lv_at hl 0 rfl) ?_
                  refine lv_bipush (v := 90) hx hb dX9_takeName_50 (by decide) ?_
                  refine lv_icmp_le (tgt := 67) hx hb dX9_takeName_52 (by decide) (fun c_52 => ?_) (fun c_52 => ?_)
                  · have t_52 : v26.toInt ≤ 90 := toI_le c_52 rfl (by decide : (90 : Int32).toInt = 90)
                    refine lv_iconst (v := 1) hx hb dX9_takeName_67 (by decide) ?_
                    refine lv_goto (tgt := 72) hx hb dX9_takeName_68 (by decide) ?_
                    have hl : lv_has _ _ ([(3, .int v26), (2, .int l2_x12), (1, .int l1_x12), (0, .ref (hT 0))]) := lv_sub hl [0, 1, 2, 3] rfl
                    exact join16 _ _ _ _ ⟨1, (show 0 ≤ (1 : Int32).toInt ∧ (1 : Int32).toInt ≤ 1 from by decide), rfl, hP, hD, hS, hl⟩
                  · have t_52 : ¬ v26.toInt ≤ 90 := toI_nle c_52 rfl (by decide : (90 : Int32).toInt = 90)
                    refine lv_iload_n hx hb dX9_takeName_55 rfl (lv_at hl 0 rfl) ?_
                    refine lv_bipush (v := 48) hx hb dX9_takeName_56 (by decide) ?_
                    refine lv_icmp_lt (tgt := 71) hx hb dX9_takeName_58 (by decide) (fun c_58 => ?_) (fun c_58 => ?_)
                    · have t_58 : v26.toInt < 48 := toI_lt c_58 rfl (by decide : (48 : Int32).toInt = 48)
                      refine lv_iconst (v := 0) hx hb dX9_takeName_71 (by decide) ?_
                      have hl : lv_has _ _ ([(3, .int v26), (2, .int l2_x12), (1, .int l1_x12), (0, .ref (hT 0))]) := lv_sub hl [0, 1, 2, 3] rfl
                      exact join16 _ _ _ _ ⟨0, (show 0 ≤ (0 : Int32).toInt ∧ (0 : Int32).toInt ≤ 1 from by decide), rfl, hP, hD, hS, hl⟩
                    · have t_58 : ¬ v26.toInt < 48 := toI_nlt c_58 rfl (by decide : (48 : Int32).toInt = 48)
                      refine lv_iload_n hx hb dX9_takeName_61 rfl (lv_at hl 0 rfl) ?_
                      refine lv_bipush (v := 57) hx hb dX9_takeName_62 (by decide) ?_
                      refine lv_icmp_gt (tgt := 71) hx hb dX9_takeName_64 (by decide) (fun c_64 => ?_) (fun c_64 => ?_)
                      · have t_64 : v26.toInt > 57 := toI_gt c_64 rfl (by decide : (57 : Int32).toInt = 57)
                        refine lv_iconst (v := 0) hx hb dX9_takeName_71 (by decide) ?_
                        have hl : lv_has _ _ ([(3, .int v26), (2, .int l2_x12), (1, .int l1_x12), (0, .ref (hT 0))]) := lv_sub hl [0, 1, 2, 3] rfl
                        exact join16 _ _ _ _ ⟨0, (show 0 ≤ (0 : Int32).toInt ∧ (0 : Int32).toInt ≤ 1 from by decide), rfl, hP, hD, hS, hl⟩
                      · have t_64 : ¬ v26.toInt > 57 := toI_ngt c_64 rfl (by decide : (57 : Int32).toInt = 57)
                        refine lv_iconst (v := 1) hx hb dX9_takeName_67 (by decide) ?_
                        refine lv_goto (tgt := 72) hx hb dX9_takeName_68 (by decide) ?_
                        have hl : lv_has _ _ ([(3, .int v26), (2, .int l2_x12), (1, .int l1_x12), (0, .ref (hT 0))]) := lv_sub hl [0, 1, 2, 3] rfl
                        exact join16 _ _ _ _ ⟨1, (show 0 ≤ (1 : Int32).toInt ∧ (1 : Int32).toInt ≤ 1 from by decide), rfl, hP, hD, hS, hl⟩
          · rintro H locs ls stk ⟨k0_j16, b_k0_j16, rfl, hP, hD, hS, hl⟩
            refine lv_istore_n hx hb dX9_takeName_72 rfl hl (by decide) rfl (fun ls (hl : lv_has ls _ ([(1, .int k0_j16), (3, .int v26), (2, .int l2_x12), (0, .ref (hT 0))])) => ?_)
            refine lv_iload_n hx hb dX9_takeName_73 rfl (lv_at hl 0 rfl) ?_
            refine lv_if_eq (tgt := 101) hx hb dX9_takeName_74 (by decide) (fun c_74 => ?_) (fun c_74 => ?_)
            · have t_74 : k0_j16.toInt = 0 := toI_eq c_74 rfl (by decide : (0 : Int32).toInt = 0)
              refine lv_iinc (v := (iI (l2_x12.toInt + 1))) hx hb dX9_takeName_101 hl (k := 2) rfl (iI_add2 (iI_of _) (by decide : (1 : Int32) = iI 1)) (by decide) rfl (fun ls (hl : lv_has ls _ ([(2, .int (iI (l2_x12.toInt + 1))), (1, .int k0_j16), (3, .int v26), (0, .ref (hT 0))])) => ?_)
              refine lv_goto (tgt := 12) hx hb dX9_takeName_104 (by decide) ?_
              have hl : lv_has _ _ ([(2, .int (iI (l2_x12.toInt + 1))), (1, .int k0_j16), (0, .ref (hT 0))]) := lv_sub hl [0, 1, 3] rfl
              exact ihx12 jT_name_x12 iT_next_x12 (iI (l2_x12.toInt + 1)) k0_j16 _ _ _ (b_iT_next_x12) (iI_rng (Int.le_trans (by decide) (Int.add_le_add (b_l2_x12.1) (Int.le_refl _))) (by omega) (by decide) (by decide)) (b_k0_j16) (show iT_next_x12.toInt ≤ (iI (l2_x12.toInt + 1)).toInt from by (try rw [iI_t (E := iT_next_x12.toInt + 1) (by omega) (by omega)]); rw [iI_t (by omega) (by omega)]; omega) (show iT_next_x12.toInt ≤ iT_length.toInt from by (try rw [iI_t (by omega) (by omega)]); omega) (show iT_next.toInt ≤ iT_next_x12.toInt from by (try rw [iI_t (by omega) (by omega)]); omega) (by have e9 : ((iI (l2_x12.toInt + 1))).toInt = (l2_x12.toInt + 1) := (iI_t (Int.le_trans (by decide) (Int.add_le_add (b_l2_x12.1) (Int.le_refl _))) (Int.le_trans (Int.add_le_add (b_l2_x12.2) (Int.le_refl _)) (by decide))); omega) hP hD hS hl
            · have t_74 : ¬ k0_j16.toInt = 0 := toI_neq c_74 rfl (by decide : (0 : Int32).toInt = 0)
              refine lv_aload_n hx hb dX9_takeName_77 rfl (lv_at hl 3 rfl) ?_
              refine lv_aload_n hx hb dX9_takeName_78 rfl (lv_at hl 3 rfl) ?_
              refine va_get (D := (dC, dI)) (ci := 9) (v := .long jT_name_x12) (C := RX9) (T := TX9) (N := 9) hx hb hts iwsMX9_takeName_in9 hown hK hP 0 rfl rfl 7 (by decide) (hts (.fieldLink RX9 66 "OptimaWorks$Words" "name" "J") (by decide +kernel)) (fun _ h9 => h9) rfl dX9_takeName_79 ?_
              refine lv_bipush (v := 8) hx hb dX9_takeName_82 (by decide) ?_
              refine lv_lshl hx hb dX9_takeName_84 rfl ?_
              refine lv_topl (fun v27 hv27 => ?_)
              clear hv27
              refine lv_iload_n hx hb dX9_takeName_85 rfl (lv_at hl 1 rfl) ?_
              refine lv_i2l hx hb dX9_takeName_86 rfl ?_
              refine lv_topl (fun v28 hv28 => ?_)
              clear hv28
              refine lv_lor hx hb dX9_takeName_87 ?_
              refine lv_topl (fun v29 hv29 => ?_)
              clear hv29
              refine va_put (D := (dC, dI)) (ci := 9) (v := .long v29) (ty := .long) (C := RX9) (T := TX9) (N := 9) hx hb hts iwsMX9_takeName_in9 tyX9 tyX9_ok nmX9 hown hK hP hD hS 0 rfl rfl 7 (by decide) (hts (.fieldLink RX9 66 "OptimaWorks$Words" "name" "J") (by decide +kernel)) (fun _ h9 => h9) rfl (by decide +kernel) rfl rfl (Nat.le_of_ble_eq_true rfl) dX9_takeName_88 (fun H locs hP hD hS => ?_)
              have hP : va_P (dC, dI) vwCl (WT hT aT kT fT_tape dT_tape nT_tape iT_length iT_fault iT_place iT_kind iT_at iT_number v29 iT_next_x12) H := hP
              have hD : va_D A (WT hT aT kT fT_tape dT_tape nT_tape iT_length iT_fault iT_place iT_kind iT_at iT_number v29 iT_next_x12) := hD
              refine lv_aload_n hx hb dX9_takeName_91 rfl (lv_at hl 3 rfl) ?_
              refine lv_dup hx hb dX9_takeName_92 rfl ?_
              refine va_get (D := (dC, dI)) (ci := 9) (v := .int iT_next_x12) (C := RX9) (T := TX9) (N := 9) hx hb hts iwsMX9_takeName_in9 hown hK hP 0 rfl rfl 8 (by decide) (hts (.fieldLink RX9 40 "OptimaWorks$Words" "next" "I") (by decide +kernel)) (fun _ h9 => h9) rfl dX9_takeName_93 ?_
              refine lv_iconst (v := 1) hx hb dX9_takeName_96 (by decide) ?_
              refine lv_iadd hx hb dX9_takeName_97 ?_
              refine lv_topi (fun y30 hy30 => ?_)
              obtain rfl : (iI (iT_next_x12.toInt + 1)) = y30 := (hy30.trans (iI_add2 (iI_of _) (by decide : (1 : Int32) = iI 1))).symm
              refine va_put (D := (dC, dI)) (ci := 9) (v := .int (iI (iT_next_x12.toInt + 1))) (ty := .int) (C := RX9) (T := TX9) (N := 9) hx hb hts iwsMX9_takeName_in9 tyX9 tyX9_ok nmX9 hown hK hP hD hS 0 rfl rfl 8 (by decide) (hts (.fieldLink RX9 40 "OptimaWorks$Words" "next" "I") (by decide +kernel)) (fun _ h9 => h9) rfl (by decide +kernel) rfl rfl (Nat.le_of_ble_eq_true rfl) dX9_takeName_98 (fun H locs hP hD hS => ?_)
              have hP : va_P (dC, dI) vwCl (WT hT aT kT fT_tape dT_tape nT_tape iT_length iT_fault iT_place iT_kind iT_at iT_number v29 (iI (iT_next_x12.toInt + 1))) H := hP
              have hD : va_D A (WT hT aT kT fT_tape dT_tape nT_tape iT_length iT_fault iT_place iT_kind iT_at iT_number v29 (iI (iT_next_x12.toInt + 1))) := hD
              refine lv_iinc (v := (iI (l2_x12.toInt + 1))) hx hb dX9_takeName_101 hl (k := 2) rfl (iI_add2 (iI_of _) (by decide : (1 : Int32) = iI 1)) (by decide) rfl (fun ls (hl : lv_has ls _ ([(2, .int (iI (l2_x12.toInt + 1))), (1, .int k0_j16), (3, .int v26), (0, .ref (hT 0))])) => ?_)
              refine lv_goto (tgt := 12) hx hb dX9_takeName_104 (by decide) ?_
              have hl : lv_has _ _ ([(2, .int (iI (l2_x12.toInt + 1))), (1, .int k0_j16), (0, .ref (hT 0))]) := lv_sub hl [0, 1, 3] rfl
              exact ihx12 v29 (iI (iT_next_x12.toInt + 1)) (iI (l2_x12.toInt + 1)) k0_j16 _ _ _ (iI_rng (Int.le_trans (by decide) (Int.add_le_add (b_iT_next_x12.1) (Int.le_refl _))) (by omega) (by decide) (by decide)) (iI_rng (Int.le_trans (by decide) (Int.add_le_add (b_l2_x12.1) (Int.le_refl _))) (by omega) (by decide) (by decide)) (b_k0_j16) (show (iI (iT_next_x12.toInt + 1)).toInt ≤ (iI (l2_x12.toInt + 1)).toInt from by (try rw [iI_t (E := iT_next_x12.toInt + 1) (by omega) (by omega)]); rw [iI_t (by omega) (by omega)]; omega) (show (iI (iT_next_x12.toInt + 1)).toInt ≤ iT_length.toInt from by (try rw [iI_t (by omega) (by omega)]); omega) (show iT_next.toInt ≤ (iI (iT_next_x12.toInt + 1)).toInt from by (try rw [iI_t (by omega) (by omega)]); omega) (by have e9 : ((iI (l2_x12.toInt + 1))).toInt = (l2_x12.toInt + 1) := (iI_t (Int.le_trans (by decide) (Int.add_le_add (b_l2_x12.1) (Int.le_refl _))) (Int.le_trans (Int.add_le_add (b_l2_x12.2) (Int.le_refl _)) (by decide))); omega) hP hD hS hl
    · rintro H locs ls stk ⟨rfl, hP, hD, hS, hl⟩
      refine W.widen (k := 0) (n := 0) (by decide +kernel) (by decide +kernel) ?_
      exact W.vret hx hb hr (fun t9_ ht hW => ⟨⟨(jT_name_x12, iT_next_x12), rfl, ⟨(by (try dsimp only); exact (b_iT_next_x12)), (by (try dsimp only); exact (hnk)), (by (try dsimp only); exact (hmo))⟩, by rw [ht]; exact hP, hD⟩, hS.F ht⟩) hS.2.2 dX9_takeName_107
theorem dX9_takeNumber_0 : decode cX9_takeNumber 0 = .ok (.aload_n 0, 1) := dk_42 (by decide +kernel)
theorem dX9_takeNumber_1 : decode cX9_takeNumber 1 = .ok (.iconst 0, 1) := dk_3 (by decide +kernel)
theorem dX9_takeNumber_2 : decode cX9_takeNumber 2 = .ok (.putfield 81, 3) := dk_181 (by decide +kernel)
theorem dX9_takeNumber_5 : decode cX9_takeNumber 5 = .ok (.aload_n 0, 1) := dk_42 (by decide +kernel)
theorem dX9_takeNumber_6 : decode cX9_takeNumber 6 = .ok (.getfield 40, 3) := dk_180 (by decide +kernel)
theorem dX9_takeNumber_9 : decode cX9_takeNumber 9 = .ok (.aload_n 0, 1) := dk_42 (by decide +kernel)
theorem dX9_takeNumber_10 : decode cX9_takeNumber 10 = .ok (.getfield 19, 3) := dk_180 (by decide +kernel)
theorem dX9_takeNumber_13 : decode cX9_takeNumber 13 = .ok (.if_icmp .ge 82, 3) := dk_162 (by decide +kernel)
theorem dX9_takeNumber_16 : decode cX9_takeNumber 16 = .ok (.aload_n 0, 1) := dk_42 (by decide +kernel)
theorem dX9_takeNumber_17 : decode cX9_takeNumber 17 = .ok (.getfield 9, 3) := dk_180 (by decide +kernel)
theorem dX9_takeNumber_20 : decode cX9_takeNumber 20 = .ok (.aload_n 0, 1) := dk_42 (by decide +kernel)
theorem dX9_takeNumber_21 : decode cX9_takeNumber 21 = .ok (.getfield 40, 3) := dk_180 (by decide +kernel)
theorem dX9_takeNumber_24 : decode cX9_takeNumber 24 = .ok (.baload, 1) := dk_51 (by decide +kernel)
theorem dX9_takeNumber_25 : decode cX9_takeNumber 25 = .ok (.bipush 48, 2) := dk_16 (by decide +kernel)
theorem dX9_takeNumber_27 : decode cX9_takeNumber 27 = .ok (.if_icmp .lt 68, 3) := dk_161 (by decide +kernel)
theorem dX9_takeNumber_30 : decode cX9_takeNumber 30 = .ok (.aload_n 0, 1) := dk_42 (by decide +kernel)
theorem dX9_takeNumber_31 : decode cX9_takeNumber 31 = .ok (.getfield 9, 3) := dk_180 (by decide +kernel)
theorem dX9_takeNumber_34 : decode cX9_takeNumber 34 = .ok (.aload_n 0, 1) := dk_42 (by decide +kernel)
theorem dX9_takeNumber_35 : decode cX9_takeNumber 35 = .ok (.getfield 40, 3) := dk_180 (by decide +kernel)
theorem dX9_takeNumber_38 : decode cX9_takeNumber 38 = .ok (.baload, 1) := dk_51 (by decide +kernel)
theorem dX9_takeNumber_39 : decode cX9_takeNumber 39 = .ok (.bipush 57, 2) := dk_16 (by decide +kernel)
theorem dX9_takeNumber_41 : decode cX9_takeNumber 41 = .ok (.if_icmp .gt 54, 3) := dk_163 (by decide +kernel)
theorem dX9_takeNumber_44 : decode cX9_takeNumber 44 = .ok (.aload_n 0, 1) := dk_42 (by decide +kernel)
theorem dX9_takeNumber_45 : decode cX9_takeNumber 45 = .ok (.getfield 40, 3) := dk_180 (by decide +kernel)
theorem dX9_takeNumber_48 : decode cX9_takeNumber 48 = .ok (.aload_n 0, 1) := dk_42 (by decide +kernel)
theorem dX9_takeNumber_49 : decode cX9_takeNumber 49 = .ok (.getfield 34, 3) := dk_180 (by decide +kernel)
theorem dX9_takeNumber_52 : decode cX9_takeNumber 52 = .ok (.isub, 1) := dk_100 (by decide +kernel)
theorem dX9_takeNumber_53 : decode cX9_takeNumber 53 = .ok (.bipush 6, 2) := dk_16 (by decide +kernel)
theorem dX9_takeNumber_55 : decode cX9_takeNumber 55 = .ok (.if_icmp .ge 27, 3) := dk_162 (by decide +kernel)
theorem dX9_takeNumber_58 : decode cX9_takeNumber 58 = .ok (.aload_n 0, 1) := dk_42 (by decide +kernel)
theorem dX9_takeNumber_59 : decode cX9_takeNumber 59 = .ok (.aload_n 0, 1) := dk_42 (by decide +kernel)
theorem dX9_takeNumber_60 : decode cX9_takeNumber 60 = .ok (.getfield 81, 3) := dk_180 (by decide +kernel)
theorem dX9_takeNumber_63 : decode cX9_takeNumber 63 = .ok (.bipush 10, 2) := dk_16 (by decide +kernel)
theorem dX9_takeNumber_65 : decode cX9_takeNumber 65 = .ok (.imul, 1) := dk_104 (by decide +kernel)
theorem dX9_takeNumber_66 : decode cX9_takeNumber 66 = .ok (.aload_n 0, 1) := dk_42 (by decide +kernel)
theorem dX9_takeNumber_67 : decode cX9_takeNumber 67 = .ok (.getfield 9, 3) := dk_180 (by decide +kernel)
theorem dX9_takeNumber_70 : decode cX9_takeNumber 70 = .ok (.aload_n 0, 1) := dk_42 (by decide +kernel)
theorem dX9_takeNumber_71 : decode cX9_takeNumber 71 = .ok (.getfield 40, 3) := dk_180 (by decide +kernel)
theorem dX9_takeNumber_74 : decode cX9_takeNumber 74 = .ok (.baload, 1) := dk_51 (by decide +kernel)
theorem dX9_takeNumber_75 : decode cX9_takeNumber 75 = .ok (.iadd, 1) := dk_96 (by decide +kernel)
theorem dX9_takeNumber_76 : decode cX9_takeNumber 76 = .ok (.bipush 48, 2) := dk_16 (by decide +kernel)
theorem dX9_takeNumber_78 : decode cX9_takeNumber 78 = .ok (.isub, 1) := dk_100 (by decide +kernel)
theorem dX9_takeNumber_79 : decode cX9_takeNumber 79 = .ok (.putfield 81, 3) := dk_181 (by decide +kernel)
theorem dX9_takeNumber_82 : decode cX9_takeNumber 82 = .ok (.aload_n 0, 1) := dk_42 (by decide +kernel)
theorem dX9_takeNumber_83 : decode cX9_takeNumber 83 = .ok (.dup, 1) := dk_89 (by decide +kernel)
theorem dX9_takeNumber_84 : decode cX9_takeNumber 84 = .ok (.getfield 40, 3) := dk_180 (by decide +kernel)
theorem dX9_takeNumber_87 : decode cX9_takeNumber 87 = .ok (.iconst 1, 1) := dk_4 (by decide +kernel)
theorem dX9_takeNumber_88 : decode cX9_takeNumber 88 = .ok (.iadd, 1) := dk_96 (by decide +kernel)
theorem dX9_takeNumber_89 : decode cX9_takeNumber 89 = .ok (.putfield 40, 3) := dk_181 (by decide +kernel)
theorem dX9_takeNumber_92 : decode cX9_takeNumber 92 = .ok (.goto (-87), 3) := dk_167 (by decide +kernel)
theorem dX9_takeNumber_95 : decode cX9_takeNumber 95 = .ok (.aload_n 0, 1) := dk_42 (by decide +kernel)
theorem dX9_takeNumber_96 : decode cX9_takeNumber 96 = .ok (.aload_n 0, 1) := dk_42 (by decide +kernel)
theorem dX9_takeNumber_97 : decode cX9_takeNumber 97 = .ok (.getfield 40, 3) := dk_180 (by decide +kernel)
theorem dX9_takeNumber_100 : decode cX9_takeNumber 100 = .ok (.aload_n 0, 1) := dk_42 (by decide +kernel)
theorem dX9_takeNumber_101 : decode cX9_takeNumber 101 = .ok (.getfield 34, 3) := dk_180 (by decide +kernel)
theorem dX9_takeNumber_104 : decode cX9_takeNumber 104 = .ok (.isub, 1) := dk_100 (by decide +kernel)
theorem dX9_takeNumber_105 : decode cX9_takeNumber 105 = .ok (.bipush 6, 2) := dk_16 (by decide +kernel)
theorem dX9_takeNumber_107 : decode cX9_takeNumber 107 = .ok (.if_icmp .le 7, 3) := dk_164 (by decide +kernel)
theorem dX9_takeNumber_110 : decode cX9_takeNumber 110 = .ok (.iconst 3, 1) := dk_6 (by decide +kernel)
theorem dX9_takeNumber_111 : decode cX9_takeNumber 111 = .ok (.goto 4, 3) := dk_167 (by decide +kernel)
theorem dX9_takeNumber_114 : decode cX9_takeNumber 114 = .ok (.iconst 2, 1) := dk_5 (by decide +kernel)
theorem dX9_takeNumber_115 : decode cX9_takeNumber 115 = .ok (.putfield 37, 3) := dk_181 (by decide +kernel)
theorem dX9_takeNumber_118 : decode cX9_takeNumber 118 = .ok (.return_, 1) := dk_177 (by decide +kernel)
def wsMX9_takeNumber : List Cond := .code yX9_takeNumber cX9_takeNumber 1 none :: ([.fieldLink RX9 81 "OptimaWorks$Words" "number" "I", .fieldLink RX9 40 "OptimaWorks$Words" "next" "I", .fieldLink RX9 19 "OptimaWorks$Words" "length" "I", .fieldLink RX9 9 "OptimaWorks$Words" "tape" "[B", .fieldLink RX9 34 "OptimaWorks$Words" "at" "I", .fieldLink RX9 37 "OptimaWorks$Words" "kind" "I"] ++ wsX90)
theorem iwsMX9_takeNumber_in9 : ∀ w ∈ wsX90, w ∈ wsMX9_takeNumber := fun _ h => List.mem_cons_of_mem _ (List.mem_append_right _ h)
theorem gdwsMX9_takeNumber : wsMX9_takeNumber.all goodWord = true := gdC rfl (gdA (by decide +kernel : ([.fieldLink RX9 81 "OptimaWorks$Words" "number" "I", .fieldLink RX9 40 "OptimaWorks$Words" "next" "I", .fieldLink RX9 19 "OptimaWorks$Words" "length" "I", .fieldLink RX9 9 "OptimaWorks$Words" "tape" "[B", .fieldLink RX9 34 "OptimaWorks$Words" "at" "I", .fieldLink RX9 37 "OptimaWorks$Words" "kind" "I"] : List Cond).all goodWord = true) gdwsX90)
set_option maxHeartbeats 4000000 in
set_option maxRecDepth 100000 in
/-- a number -/
theorem m_X9_takeNumber (l : Launch) (dC : Nat → ClassId) (dI : Nat → Nat → Nat) (hT : Nat → Nat) (aT : Nat → Nat) (kT : Nat → ClassId) (fT_tape : Nat → Int32) (dT_tape : Nat) (nT_tape : Nat) (iT_length : Int32) (iT_fault : Int32) (iT_place : Int32) (iT_kind : Int32) (iT_at : Int32) (iT_number : Int32) (jT_name : Int64) (iT_next : Int32) (b_fT_tape : ∀ q : Nat, (-128) ≤ (fT_tape q).toInt ∧ (fT_tape q).toInt ≤ 127) (b_nT_tape : 64 ≤ nT_tape ∧ nT_tape ≤ 2560) (b_iT_length : 0 ≤ iT_length.toInt ∧ iT_length.toInt ≤ 1280) (b_iT_at : 0 ≤ iT_at.toInt ∧ iT_at.toInt ≤ 1282) (b_iT_number : 0 ≤ iT_number.toInt ∧ iT_number.toInt ≤ 999999) (b_iT_next : 0 ≤ iT_next.toInt ∧ iT_next.toInt ≤ 1282) (b_len : iT_length.toInt ≤ ((nT_tape : Nat) : Int)) (hnl : iT_next.toInt ≤ iT_length.toInt) (hat : iT_at.toInt = iT_next.toInt) (sz : Nat) : Met l yX9_takeNumber wsMX9_takeNumber ({ frames := 0, cells := 0, slots := 0, locals := 0 }) (va_Pc [.ref (hT 0)] (fun U => U.heap.size = sz ∧ va_P (dC, dI) vwCl (WT hT aT kT fT_tape dT_tape nT_tape iT_length iT_fault iT_place iT_kind iT_at iT_number jT_name iT_next) U.heap ∧ va_K (dC, dI) vwCl (tT kT) U ∧ va_D (fun _ => True) (WT hT aT kT fT_tape dT_tape nT_tape iT_length iT_fault iT_place iT_kind iT_at iT_number jT_name iT_next))) (va_Qv (fun (u : (Int32) × (Int32) × (Int32)) => (0 ≤ (u.2.1).toInt ∧ (u.2.1).toInt ≤ 999999) ∧ (0 ≤ (u.2.2).toInt ∧ (u.2.2).toInt ≤ 1282) ∧ ((u.2.2).toInt ≤ iT_length.toInt) ∧ (iT_next.toInt ≤ (u.2.2).toInt) ∧ ((u.1).toInt ≤ 3)) (fun (u : (Int32) × (Int32) × (Int32)) t => va_P (dC, dI) vwCl (WT hT aT kT fT_tape dT_tape nT_tape iT_length iT_fault iT_place (u.1) iT_at (u.2.1) jT_name (u.2.2)) t.heap ∧ va_D (va_A (WT hT aT kT fT_tape dT_tape nT_tape iT_length iT_fault iT_place iT_kind iT_at iT_number jT_name iT_next) sz) (WT hT aT kT fT_tape dT_tape nT_tape iT_length iT_fault iT_place (u.1) iT_at (u.2.1) jT_name (u.2.2))) (va_A (WT hT aT kT fT_tape dT_tape nT_tape iT_length iT_fault iT_place iT_kind iT_at iT_number jT_name iT_next) sz)) 0 0 (va_A (WT hT aT kT fT_tape dT_tape nT_tape iT_length iT_fault iT_place iT_kind iT_at iT_number jT_name iT_next) sz) := by
  refine Met.ofW (cc := cX9_takeNumber) (maxL := 1) (ret := none) (by decide) rfl ?_
  intro p e s m args below meth c s₁ B hml hv
  obtain ⟨rfl, hsz, hP, hK, hD0⟩ := hv
  have hx := B.exec
  have hb := B.bytes
  have hr := B.returns
  have hts := atoms_spec (ws := wsMX9_takeNumber) B.pre
  have hown : s.vm.findClass RX9 = some m.cls := findClass_of_methodNamed B.named
  have hlocks := B.notSynchronized
  subst hsz
  have hD := hD0.self (sz := s.heap.size)
  generalize hAe : va_A (WT hT aT kT fT_tape dT_tape nT_tape iT_length iT_fault iT_place iT_kind iT_at iT_number jT_name iT_next) s.heap.size = A at hD ⊢
  have hA : ∀ q : Nat, s.heap.size ≤ q → A q := fun q h => by rw [← hAe]; exact Or.inr h
  have hS : va_S A s.heap s.heap [] := va_S.rf
  have hl := lv_entry ([.ref (hT 0)]) (n := 1) (Nat.le_of_ble_eq_true rfl)
  rw [lg_entry_eq]
  generalize (lg_sl ([.ref (hT 0)]) ++ List.replicate (1 - (lg_sl ([.ref (hT 0)])).length) Slot.unset).toArray = ls at hl ⊢
  have hl : lv_has ls 1 [(0, .ref (hT 0))] := hl
  refine lv_aload_n hx hb dX9_takeNumber_0 rfl (lv_at hl 0 rfl) ?_
  refine lv_iconst (v := 0) hx hb dX9_takeNumber_1 (by decide) ?_
  refine va_put (D := (dC, dI)) (ci := 9) (v := .int 0) (ty := .int) (C := RX9) (T := TX9) (N := 9) hx hb hts iwsMX9_takeNumber_in9 tyX9 tyX9_ok nmX9 hown hK hP hD hS 0 rfl rfl 6 (by decide) (hts (.fieldLink RX9 81 "OptimaWorks$Words" "number" "I") (by decide +kernel)) (fun _ h9 => h9) rfl (by decide +kernel) rfl rfl (Nat.le_of_ble_eq_true rfl) dX9_takeNumber_2 (fun H locs hP hD hS => ?_)
  have hP : va_P (dC, dI) vwCl (WT hT aT kT fT_tape dT_tape nT_tape iT_length iT_fault iT_place iT_kind iT_at 0 jT_name iT_next) H := hP
  have hD : va_D A (WT hT aT kT fT_tape dT_tape nT_tape iT_length iT_fault iT_place iT_kind iT_at 0 jT_name iT_next) := hD
  have hl : lv_has _ _ ([(0, .ref (hT 0))]) := lv_sub hl [0] rfl
  refine (fun (loop : ∀ (n9 : Nat) (iT_number_x5 : Int32) (iT_next_x5 : Int32) (H : Heap) (locs : List Loc) (ls : Array Slot), (0 ≤ iT_number_x5.toInt ∧ iT_number_x5.toInt ≤ 999999) → (0 ≤ iT_next_x5.toInt ∧ iT_next_x5.toInt ≤ 1282) → (iT_next_x5.toInt ≤ iT_length.toInt) → (iT_next.toInt ≤ iT_next_x5.toInt) → ((iT_next_x5.toInt ≤ iT_at.toInt → iT_number_x5.toInt ≤ 0) ∧ (iT_next_x5.toInt ≤ iT_at.toInt + 1 → iT_number_x5.toInt ≤ 9) ∧ (iT_next_x5.toInt ≤ iT_at.toInt + 2 → iT_number_x5.toInt ≤ 99) ∧ (iT_next_x5.toInt ≤ iT_at.toInt + 3 → iT_number_x5.toInt ≤ 999) ∧ (iT_next_x5.toInt ≤ iT_at.toInt + 4 → iT_number_x5.toInt ≤ 9999) ∧ (iT_next_x5.toInt ≤ iT_at.toInt + 5 → iT_number_x5.toInt ≤ 99999)) → (1282 - iT_next_x5.toInt < ((n9 : Nat) : Int)) → va_P (dC, dI) vwCl (WT hT aT kT fT_tape dT_tape nT_tape iT_length iT_fault iT_place iT_kind iT_at iT_number_x5 jT_name iT_next_x5) H → va_D A (WT hT aT kT fT_tape dT_tape nT_tape iT_length iT_fault iT_place iT_kind iT_at iT_number_x5 jT_name iT_next_x5) → va_S A s.heap H locs → lv_has ls 1 [(0, .ref (hT 0))] → W p l e _ s m _ below meth c H locs 0 0 _ (F0 m 5 ls [])) => loop (1283) 0 iT_next _ _ _ (show 0 ≤ (0 : Int32).toInt ∧ (0 : Int32).toInt ≤ 999999 from by decide) (b_iT_next) (show iT_next.toInt ≤ iT_length.toInt from by omega) (show iT_next.toInt ≤ iT_next.toInt from by omega) (show (iT_next.toInt ≤ iT_at.toInt → (0 : Int32).toInt ≤ 0) ∧ (iT_next.toInt ≤ iT_at.toInt + 1 → (0 : Int32).toInt ≤ 9) ∧ (iT_next.toInt ≤ iT_at.toInt + 2 → (0 : Int32).toInt ≤ 99) ∧ (iT_next.toInt ≤ iT_at.toInt + 3 → (0 : Int32).toInt ≤ 999) ∧ (iT_next.toInt ≤ iT_at.toInt + 4 → (0 : Int32).toInt ≤ 9999) ∧ (iT_next.toInt ≤ iT_at.toInt + 5 → (0 : Int32).toInt ≤ 99999) from by have h8 : (0 : Int32).toInt = 0 := (by decide); omega) ((by have e9 : (iT_next).toInt = iT_next.toInt := rfl; omega)) hP hD hS hl) ?_
  intro n9
  induction n9 with
  | zero => intro iT_number_x5 iT_next_x5 H locs ls b_iT_number_x5 b_iT_next_x5 hnk hmo hdg hf9; exact False.elim (by omega)
  | succ n9 ihx5 =>
    intro iT_number_x5 iT_next_x5 H locs ls b_iT_number_x5 b_iT_next_x5 hnk hmo hdg hfx5 hP hD hS hl
    refine lv_aload_n hx hb dX9_takeNumber_5 rfl (lv_at hl 0 rfl) ?_
    refine va_get (D := (dC, dI)) (ci := 9) (v := .int iT_next_x5) (C := RX9) (T := TX9) (N := 9) hx hb hts iwsMX9_takeNumber_in9 hown hK hP 0 rfl rfl 8 (by decide) (hts (.fieldLink RX9 40 "OptimaWorks$Words" "next" "I") (by decide +kernel)) (fun _ h9 => h9) rfl dX9_takeNumber_6 ?_
    refine lv_aload_n hx hb dX9_takeNumber_9 rfl (lv_at hl 0 rfl) ?_
    refine va_get (D := (dC, dI)) (ci := 9) (v := .int iT_length) (C := RX9) (T := TX9) (N := 9) hx hb hts iwsMX9_takeNumber_in9 hown hK hP 0 rfl rfl 1 (by decide) (hts (.fieldLink RX9 19 "OptimaWorks$Words" "length" "I") (by decide +kernel)) (fun _ h9 => h9) rfl dX9_takeNumber_10 ?_
    refine W.cut (pc := 95) (fun H locs ls stk =>  stk = [] ∧ va_P (dC, dI) vwCl (WT hT aT kT fT_tape dT_tape nT_tape iT_length iT_fault iT_place iT_kind iT_at iT_number_x5 jT_name iT_next_x5) H ∧ va_D A (WT hT aT kT fT_tape dT_tape nT_tape iT_length iT_fault iT_place iT_kind iT_at iT_number_x5 jT_name iT_next_x5) ∧ va_S A s.heap H locs ∧ lv_has ls 1 [(0, .ref (hT 0))]) (fun join22 => ?_) ?_
    · refine lv_icmp_ge (tgt := 95) hx hb dX9_takeNumber_13 (by decide) (fun c_13 => ?_) (fun c_13 => ?_)
      · have t_13 : iT_next_x5.toInt ≥ iT_length.toInt := toI_ge c_13 rfl rfl
        have hl : lv_has _ _ ([(0, .ref (hT 0))]) := lv_sub hl [0] rfl
        exact join22 _ _ _ _ ⟨rfl, hP, hD, hS, hl⟩
      · have t_13 : ¬ iT_next_x5.toInt ≥ iT_length.toInt := toI_nge c_13 rfl rfl
        refine lv_aload_n hx hb dX9_takeNumber_16 rfl (lv_at hl 0 rfl) ?_
        refine va_get (D := (dC, dI)) (ci := 9) (v := .ref dT_tape) (C := RX9) (T := TX9) (N := 9) hx hb hts iwsMX9_takeNumber_in9 hown hK hP 0 rfl rfl 0 (by decide) (hts (.fieldLink RX9 9 "OptimaWorks$Words" "tape" "[B") (by decide +kernel)) (fun _ h9 => h9) rfl dX9_takeNumber_17 ?_
        refine lv_aload_n hx hb dX9_takeNumber_20 rfl (lv_at hl 0 rfl) ?_
        refine va_get (D := (dC, dI)) (ci := 9) (v := .int iT_next_x5) (C := RX9) (T := TX9) (N := 9) hx hb hts iwsMX9_takeNumber_in9 hown hK hP 0 rfl rfl 8 (by decide) (hts (.fieldLink RX9 40 "OptimaWorks$Words" "next" "I") (by decide +kernel)) (fun _ h9 => h9) rfl dX9_takeNumber_21 ?_
        refine va_bald (cA := kT 0) (n := nT_tape) (f := fT_tape) hx hb hK hP 1 0 rfl rfl (vp_in_iff.mpr ⟨b_iT_next_x5.1, (by omega)⟩) dX9_takeNumber_24 ?_
        refine lv_topi (fun v63 hv63 => ?_)
        have b_v63 : (-128) ≤ v63.toInt ∧ v63.toInt ≤ 127 := by rw [hv63]; exact b_fT_tape _
        have b1_v63 : v63 = fT_tape (iT_next_x5).toNatClampNeg := hv63
        clear hv63
        refine lv_bipush (v := 48) hx hb dX9_takeNumber_25 (by decide) ?_
        refine lv_icmp_lt (tgt := 95) hx hb dX9_takeNumber_27 (by decide) (fun c_27 => ?_) (fun c_27 => ?_)
        · have t_27 : v63.toInt < 48 := toI_lt c_27 rfl (by decide : (48 : Int32).toInt = 48)
          have hl : lv_has _ _ ([(0, .ref (hT 0))]) := lv_sub hl [0] rfl
          exact join22 _ _ _ _ ⟨rfl, hP, hD, hS, hl⟩
        · have t_27 : ¬ v63.toInt < 48 := toI_nlt c_27 rfl (by decide : (48 : Int32).toInt = 48)
          refine lv_aload_n hx hb dX9_takeNumber_30 rfl (lv_at hl 0 rfl) ?_
          refine va_get (D := (dC, dI)) (ci := 9) (v := .ref dT_tape) (C := RX9) (T := TX9) (N := 9) hx hb hts iwsMX9_takeNumber_in9 hown hK hP 0 rfl rfl 0 (by decide) (hts (.fieldLink RX9 9 "OptimaWorks$Words" "tape" "[B") (by decide +kernel)) (fun _ h9 => h9) rfl dX9_takeNumber_31 ?_
          refine lv_aload_n hx hb dX9_takeNumber_34 rfl (lv_at hl 0 rfl) ?_
          refine va_get (D := (dC, dI)) (ci := 9) (v := .int iT_next_x5) (C := RX9) (T := TX9) (N := 9) hx hb hts iwsMX9_takeNumber_in9 hown hK hP 0 rfl rfl 8 (by decide) (hts (.fieldLink RX9 40 "OptimaWorks$Words" "next" "I") (by decide +kernel)) (fun _ h9 => h9) rfl dX9_takeNumber_35 ?_
          refine va_bald (cA := kT 0) (n := nT_tape) (f := fT_tape) hx hb hK hP 1 0 rfl rfl (vp_in_iff.mpr ⟨b_iT_next_x5.1, (by omega)⟩) dX9_takeNumber_38 ?_
          refine lv_topi (fun v64 hv64 => ?_)
          have b_v64 : (-128) ≤ v64.toInt ∧ v64.toInt ≤ 127 := by rw [hv64]; exact b_fT_tape _
          have b1_v64 : v64 = fT_tape (iT_next_x5).toNatClampNeg := hv64
          have b2_v64 : v64.toInt = v63.toInt := by rw [hv64]; exact (congrArg Int32.toInt b1_v63).symm
          clear hv64
          refine lv_bipush (v := 57) hx hb dX9_takeNumber_39 (by decide) ?_
          refine lv_icmp_gt (tgt := 95) hx hb dX9_takeNumber_41 (by decide) (fun c_41 => ?_) (fun c_41 => ?_)
          · have t_41 : v64.toInt > 57 := toI_gt c_41 rfl (by decide : (57 : Int32).toInt = 57)
            have hl : lv_has _ _ ([(0, .ref (hT 0))]) := lv_sub hl [0] rfl
            exact join22 _ _ _ _ ⟨rfl, hP, hD, hS, hl⟩
          · have t_41 : ¬ v64.toInt > 57 := toI_ngt c_41 rfl (by decide : (57 : Int32).toInt = 57)
            refine lv_aload_n hx hb dX9_takeNumber_44 rfl (lv_at hl 0 rfl) ?_
            refine va_get (D := (dC, dI)) (ci := 9) (v := .int iT_next_x5) (C := RX9) (T := TX9) (N := 9) hx hb hts iwsMX9_takeNumber_in9 hown hK hP 0 rfl rfl 8 (by decide) (hts (.fieldLink RX9 40 "OptimaWorks$Words" "next" "I") (by decide +kernel)) (fun _ h9 => h9) rfl dX9_takeNumber_45 ?_
            refine lv_aload_n hx hb dX9_takeNumber_48 rfl (lv_at hl 0 rfl) ?_
            refine va_get (D := (dC, dI)) (ci := 9) (v := .int iT_at) (C := RX9) (T := TX9) (N := 9) hx hb hts iwsMX9_takeNumber_in9 hown hK hP 0 rfl rfl 5 (by decide) (hts (.fieldLink RX9 34 "OptimaWorks$Words" "at" "I") (by decide +kernel)) (fun _ h9 => h9) rfl dX9_takeNumber_49 ?_
            refine lv_isub hx hb dX9_takeNumber_52 ?_
            refine lv_topi (fun y65 hy65 => ?_)
            obtain rfl : (iI (iT_next_x5.toInt - iT_at.toInt)) = y65 := (hy65.trans (iI_sub2 (iI_of _) (iI_of _))).symm
            refine lv_bipush (v := 6) hx hb dX9_takeNumber_53 (by decide) ?_
            refine W.cut (pc := 82) (fun H locs ls stk => ∃ (iT_number_j23 : Int32), (0 ≤ iT_number_j23.toInt ∧ iT_number_j23.toInt ≤ 999999) ∧ (((iI (iT_next_x5.toInt + 1)).toInt ≤ iT_at.toInt → iT_number_j23.toInt ≤ 0) ∧ ((iI (iT_next_x5.toInt + 1)).toInt ≤ iT_at.toInt + 1 → iT_number_j23.toInt ≤ 9) ∧ ((iI (iT_next_x5.toInt + 1)).toInt ≤ iT_at.toInt + 2 → iT_number_j23.toInt ≤ 99) ∧ ((iI (iT_next_x5.toInt + 1)).toInt ≤ iT_at.toInt + 3 → iT_number_j23.toInt ≤ 999) ∧ ((iI (iT_next_x5.toInt + 1)).toInt ≤ iT_at.toInt + 4 → iT_number_j23.toInt ≤ 9999) ∧ ((iI (iT_next_x5.toInt + 1)).toInt ≤ iT_at.toInt + 5 → iT_number_j23.toInt ≤ 99999)) ∧  stk = [] ∧ va_P (dC, dI) vwCl (WT hT aT kT fT_tape dT_tape nT_tape iT_length iT_fault iT_place iT_kind iT_at iT_number_j23 jT_name iT_next_x5) H ∧ va_D A (WT hT aT kT fT_tape dT_tape nT_tape iT_length iT_fault iT_place iT_kind iT_at iT_number_j23 jT_name iT_next_x5) ∧ va_S A s.heap H locs ∧ lv_has ls 1 [(0, .ref (hT 0))]) (fun join23 => ?_) ?_
            · refine lv_icmp_ge (tgt := 82) hx hb dX9_takeNumber_55 (by decide) (fun c_55 => ?_) (fun c_55 => ?_)
              · have t_55 : (iT_next_x5.toInt - iT_at.toInt) ≥ 6 := toI_ge c_55 (iI_t (Int.le_trans (by decide) (Int.sub_le_sub (b_iT_next_x5.1) (b_iT_at.2))) (Int.le_trans (Int.sub_le_sub (b_iT_next_x5.2) (b_iT_at.1)) (by decide))) (by decide : (6 : Int32).toInt = 6)
                have hl : lv_has _ _ ([(0, .ref (hT 0))]) := lv_sub hl [0] rfl
                exact join23 _ _ _ _ ⟨iT_number_x5, (b_iT_number_x5), (show ((iI (iT_next_x5.toInt + 1)).toInt ≤ iT_at.toInt → iT_number_x5.toInt ≤ 0) ∧ ((iI (iT_next_x5.toInt + 1)).toInt ≤ iT_at.toInt + 1 → iT_number_x5.toInt ≤ 9) ∧ ((iI (iT_next_x5.toInt + 1)).toInt ≤ iT_at.toInt + 2 → iT_number_x5.toInt ≤ 99) ∧ ((iI (iT_next_x5.toInt + 1)).toInt ≤ iT_at.toInt + 3 → iT_number_x5.toInt ≤ 999) ∧ ((iI (iT_next_x5.toInt + 1)).toInt ≤ iT_at.toInt + 4 → iT_number_x5.toInt ≤ 9999) ∧ ((iI (iT_next_x5.toInt + 1)).toInt ≤ iT_at.toInt + 5 → iT_number_x5.toInt ≤ 99999) from by rw [iI_t (E := iT_next_x5.toInt + 1) (by omega) (by omega)]; (try rw [iI_t (by omega) (by omega)]); omega), rfl, hP, hD, hS, hl⟩
              · have t_55 : ¬ (iT_next_x5.toInt - iT_at.toInt) ≥ 6 := toI_nge c_55 (iI_t (Int.le_trans (by decide) (Int.sub_le_sub (b_iT_next_x5.1) (b_iT_at.2))) (Int.le_trans (Int.sub_le_sub (b_iT_next_x5.2) (b_iT_at.1)) (by decide))) (by decide : (6 : Int32).toInt = 6)
                refine lv_aload_n hx hb dX9_takeNumber_58 rfl (lv_at hl 0 rfl) ?_
                refine lv_aload_n hx hb dX9_takeNumber_59 rfl (lv_at hl 0 rfl) ?_
                refine va_get (D := (dC, dI)) (ci := 9) (v := .int iT_number_x5) (C := RX9) (T := TX9) (N := 9) hx hb hts iwsMX9_takeNumber_in9 hown hK hP 0 rfl rfl 6 (by decide) (hts (.fieldLink RX9 81 "OptimaWorks$Words" "number" "I") (by decide +kernel)) (fun _ h9 => h9) rfl dX9_takeNumber_60 ?_
                refine lv_bipush (v := 10) hx hb dX9_takeNumber_63 (by decide) ?_
                refine lv_imul hx hb dX9_takeNumber_65 ?_
                refine lv_topi (fun y70 hy70 => ?_)
                obtain rfl : (iI (iT_number_x5.toInt * 10)) = y70 := (hy70.trans (iI_mul2 (iI_of _) (by decide : (10 : Int32) = iI 10))).symm
                refine lv_aload_n hx hb dX9_takeNumber_66 rfl (lv_at hl 0 rfl) ?_
                refine va_get (D := (dC, dI)) (ci := 9) (v := .ref dT_tape) (C := RX9) (T := TX9) (N := 9) hx hb hts iwsMX9_takeNumber_in9 hown hK hP 0 rfl rfl 0 (by decide) (hts (.fieldLink RX9 9 "OptimaWorks$Words" "tape" "[B") (by decide +kernel)) (fun _ h9 => h9) rfl dX9_takeNumber_67 ?_
                refine lv_aload_n hx hb dX9_takeNumber_70 rfl (lv_at hl 0 rfl) ?_
                refine va_get (D := (dC, dI)) (ci := 9) (v := .int iT_next_x5) (C := RX9) (T := TX9) (N := 9) hx hb hts iwsMX9_takeNumber_in9 hown hK hP 0 rfl rfl 8 (by decide) (hts (.fieldLink RX9 40 "OptimaWorks$Words" "next" "I") (by decide +kernel)) (fun _ h9 => h9) rfl dX9_takeNumber_71 ?_
                refine va_bald (cA := kT 0) (n := nT_tape) (f := fT_tape) hx hb hK hP 1 0 rfl rfl (vp_in_iff.mpr ⟨b_iT_next_x5.1, (by omega)⟩) dX9_takeNumber_74 ?_
                refine lv_topi (fun v71 hv71 => ?_)
                have b_v71 : (-128) ≤ v71.toInt ∧ v71.toInt ≤ 127 := by rw [hv71]; exact b_fT_tape _
                have b1_v71 : v71 = fT_tape (iT_next_x5).toNatClampNeg := hv71
                have b2_v71 : v71.toInt = v64.toInt := by rw [hv71]; exact (congrArg Int32.toInt b1_v64).symm
                clear hv71
                refine lv_iadd hx hb dX9_takeNumber_75 ?_
                refine lv_topi (fun y72 hy72 => ?_)
                obtain rfl : (iI ((iT_number_x5.toInt * 10) + v71.toInt)) = y72 := (hy72.trans (iI_add2 rfl (iI_of _))).symm
                refine lv_bipush (v := 48) hx hb dX9_takeNumber_76 (by decide) ?_
                refine lv_isub hx hb dX9_takeNumber_78 ?_
                refine lv_topi (fun y73 hy73 => ?_)
                obtain rfl : (iI (((iT_number_x5.toInt * 10) + v71.toInt) - 48)) = y73 := (hy73.trans (iI_sub2 rfl (by decide : (48 : Int32) = iI 48))).symm
                refine va_put (D := (dC, dI)) (ci := 9) (v := .int (iI (((iT_number_x5.toInt * 10) + v71.toInt) - 48))) (ty := .int) (C := RX9) (T := TX9) (N := 9) hx hb hts iwsMX9_takeNumber_in9 tyX9 tyX9_ok nmX9 hown hK hP hD hS 0 rfl rfl 6 (by decide) (hts (.fieldLink RX9 81 "OptimaWorks$Words" "number" "I") (by decide +kernel)) (fun _ h9 => h9) rfl (by decide +kernel) rfl rfl (Nat.le_of_ble_eq_true rfl) dX9_takeNumber_79 (fun H locs hP hD hS => ?_)
                have hP : va_P (dC, dI) vwCl (WT hT aT kT fT_tape dT_tape nT_tape iT_length iT_fault iT_place iT_kind iT_at (iI (((iT_number_x5.toInt * 10) + v71.toInt) - 48)) jT_name iT_next_x5) H := hP
                have hD : va_D A (WT hT aT kT fT_tape dT_tape nT_tape iT_length iT_fault iT_place iT_kind iT_at (iI (((iT_number_x5.toInt * 10) + v71.toInt) - 48)) jT_name iT_next_x5) := hD
                have hl : lv_has _ _ ([(0, .ref (hT 0))]) := lv_sub hl [0] rfl
                exact join23 _ _ _ _ ⟨(iI (((iT_number_x5.toInt * 10) + v71.toInt) - 48)), (iI_rng (by omega) (by omega) (by decide) (by decide)), (show ((iI (iT_next_x5.toInt + 1)).toInt ≤ iT_at.toInt → (iI (((iT_number_x5.toInt * 10) + v71.toInt) - 48)).toInt ≤ 0) ∧ ((iI (iT_next_x5.toInt + 1)).toInt ≤ iT_at.toInt + 1 → (iI (((iT_number_x5.toInt * 10) + v71.toInt) - 48)).toInt ≤ 9) ∧ ((iI (iT_next_x5.toInt + 1)).toInt ≤ iT_at.toInt + 2 → (iI (((iT_number_x5.toInt * 10) + v71.toInt) - 48)).toInt ≤ 99) ∧ ((iI (iT_next_x5.toInt + 1)).toInt ≤ iT_at.toInt + 3 → (iI (((iT_number_x5.toInt * 10) + v71.toInt) - 48)).toInt ≤ 999) ∧ ((iI (iT_next_x5.toInt + 1)).toInt ≤ iT_at.toInt + 4 → (iI (((iT_number_x5.toInt * 10) + v71.toInt) - 48)).toInt ≤ 9999) ∧ ((iI (iT_next_x5.toInt + 1)).toInt ≤ iT_at.toInt + 5 → (iI (((iT_number_x5.toInt * 10) + v71.toInt) - 48)).toInt ≤ 99999) from by rw [iI_t (E := iT_next_x5.toInt + 1) (by omega) (by omega)]; (try rw [iI_t (by omega) (by omega)]); omega), rfl, hP, hD, hS, hl⟩
            · rintro H locs ls stk ⟨iT_number_j23, b_iT_number_j23, hjd, rfl, hP, hD, hS, hl⟩
              refine lv_aload_n hx hb dX9_takeNumber_82 rfl (lv_at hl 0 rfl) ?_
              refine lv_dup hx hb dX9_takeNumber_83 rfl ?_
              refine va_get (D := (dC, dI)) (ci := 9) (v := .int iT_next_x5) (C := RX9) (T := TX9) (N := 9) hx hb hts iwsMX9_takeNumber_in9 hown hK hP 0 rfl rfl 8 (by decide) (hts (.fieldLink RX9 40 "OptimaWorks$Words" "next" "I") (by decide +kernel)) (fun _ h9 => h9) rfl dX9_takeNumber_84 ?_
              refine lv_iconst (v := 1) hx hb dX9_takeNumber_87 (by decide) ?_
              refine lv_iadd hx hb dX9_takeNumber_88 ?_
              refine lv_topi (fun y74 hy74 => ?_)
              obtain rfl : (iI (iT_next_x5.toInt + 1)) = y74 := (hy74.trans (iI_add2 (iI_of _) (by decide : (1 : Int32) = iI 1))).symm
              refine va_put (D := (dC, dI)) (ci := 9) (v := .int (iI (iT_next_x5.toInt + 1))) (ty := .int) (C := RX9) (T := TX9) (N := 9) hx hb hts iwsMX9_takeNumber_in9 tyX9 tyX9_ok nmX9 hown hK hP hD hS 0 rfl rfl 8 (by decide) (hts (.fieldLink RX9 40 "OptimaWorks$Words" "next" "I") (by decide +kernel)) (fun _ h9 => h9) rfl (by decide +kernel) rfl rfl (Nat.le_of_ble_eq_true rfl) dX9_takeNumber_89 (fun H locs hP hD hS => ?_)
              have hP : va_P (dC, dI) vwCl (WT hT aT kT fT_tape dT_tape nT_tape iT_length iT_fault iT_place iT_kind iT_at iT_number_j23 jT_name (iI (iT_next_x5.toInt + 1))) H := hP
              have hD : va_D A (WT hT aT kT fT_tape dT_tape nT_tape iT_length iT_fault iT_place iT_kind iT_at iT_number_j23 jT_name (iI (iT_next_x5.toInt + 1))) := hD
              refine lv_goto (tgt := 5) hx hb dX9_takeNumber_92 (by decide) ?_
              have hl : lv_has _ _ ([(0, .ref (hT 0))]) := lv_sub hl [0] rfl
              exact ihx5 iT_number_j23 (iI (iT_next_x5.toInt + 1)) _ _ _ (b_iT_number_j23) (iI_rng (Int.le_trans (by decide) (Int.add_le_add (b_iT_next_x5.1) (Int.le_refl _))) (by omega) (by decide) (by decide)) (show (iI (iT_next_x5.toInt + 1)).toInt ≤ iT_length.toInt from by (try rw [iI_t (by omega) (by omega)]); omega) (show iT_next.toInt ≤ (iI (iT_next_x5.toInt + 1)).toInt from by (try rw [iI_t (by omega) (by omega)]); omega) (show ((iI (iT_next_x5.toInt + 1)).toInt ≤ iT_at.toInt → iT_number_j23.toInt ≤ 0) ∧ ((iI (iT_next_x5.toInt + 1)).toInt ≤ iT_at.toInt + 1 → iT_number_j23.toInt ≤ 9) ∧ ((iI (iT_next_x5.toInt + 1)).toInt ≤ iT_at.toInt + 2 → iT_number_j23.toInt ≤ 99) ∧ ((iI (iT_next_x5.toInt + 1)).toInt ≤ iT_at.toInt + 3 → iT_number_j23.toInt ≤ 999) ∧ ((iI (iT_next_x5.toInt + 1)).toInt ≤ iT_at.toInt + 4 → iT_number_j23.toInt ≤ 9999) ∧ ((iI (iT_next_x5.toInt + 1)).toInt ≤ iT_at.toInt + 5 → iT_number_j23.toInt ≤ 99999) from hjd) (by have e9 : ((iI (iT_next_x5.toInt + 1))).toInt = (iT_next_x5.toInt + 1) := (iI_t (Int.le_trans (by decide) (Int.add_le_add (b_iT_next_x5.1) (Int.le_refl _))) (Int.le_trans (Int.add_le_add (b_iT_next_x5.2) (Int.le_refl _)) (by decide))); omega) hP hD hS hl
    · rintro H locs ls stk ⟨rfl, hP, hD, hS, hl⟩
      refine lv_aload_n hx hb dX9_takeNumber_95 rfl (lv_at hl 0 rfl) ?_
      refine lv_aload_n hx hb dX9_takeNumber_96 rfl (lv_at hl 0 rfl) ?_
      refine va_get (D := (dC, dI)) (ci := 9) (v := .int iT_next_x5) (C := RX9) (T := TX9) (N := 9) hx hb hts iwsMX9_takeNumber_in9 hown hK hP 0 rfl rfl 8 (by decide) (hts (.fieldLink RX9 40 "OptimaWorks$Words" "next" "I") (by decide +kernel)) (fun _ h9 => h9) rfl dX9_takeNumber_97 ?_
      refine lv_aload_n hx hb dX9_takeNumber_100 rfl (lv_at hl 0 rfl) ?_
      refine va_get (D := (dC, dI)) (ci := 9) (v := .int iT_at) (C := RX9) (T := TX9) (N := 9) hx hb hts iwsMX9_takeNumber_in9 hown hK hP 0 rfl rfl 5 (by decide) (hts (.fieldLink RX9 34 "OptimaWorks$Words" "at" "I") (by decide +kernel)) (fun _ h9 => h9) rfl dX9_takeNumber_101 ?_
      refine lv_isub hx hb dX9_takeNumber_104 ?_
      refine lv_topi (fun y75 hy75 => ?_)
      obtain rfl : (iI (iT_next_x5.toInt - iT_at.toInt)) = y75 := (hy75.trans (iI_sub2 (iI_of _) (iI_of _))).symm
      refine lv_bipush (v := 6) hx hb dX9_takeNumber_105 (by decide) ?_
      refine W.cut (pc := 115) (fun H locs ls stk => ∃ (k0_j24 : Int32), (2 ≤ k0_j24.toInt ∧ k0_j24.toInt ≤ 3) ∧  stk = [.int k0_j24, .ref (hT 0)] ∧ va_P (dC, dI) vwCl (WT hT aT kT fT_tape dT_tape nT_tape iT_length iT_fault iT_place iT_kind iT_at iT_number_x5 jT_name iT_next_x5) H ∧ va_D A (WT hT aT kT fT_tape dT_tape nT_tape iT_length iT_fault iT_place iT_kind iT_at iT_number_x5 jT_name iT_next_x5) ∧ va_S A s.heap H locs ∧ lv_has ls 1 [(0, .ref (hT 0))]) (fun join24 => ?_) ?_
      · refine lv_icmp_le (tgt := 114) hx hb dX9_takeNumber_107 (by decide) (fun c_107 => ?_) (fun c_107 => ?_)
        · have t_107 : (iT_next_x5.toInt - iT_at.toInt) ≤ 6 := toI_le c_107 (iI_t (Int.le_trans (by decide) (Int.sub_le_sub (b_iT_next_x5.1) (b_iT_at.2))) (Int.le_trans (Int.sub_le_sub (b_iT_next_x5.2) (b_iT_at.1)) (by decide))) (by decide : (6 : Int32).toInt = 6)
          refine lv_iconst (v := 2) hx hb dX9_takeNumber_114 (by decide) ?_
          have hl : lv_has _ _ ([(0, .ref (hT 0))]) := lv_sub hl [0] rfl
          exact join24 _ _ _ _ ⟨2, (show 2 ≤ (2 : Int32).toInt ∧ (2 : Int32).toInt ≤ 3 from by decide), rfl, hP, hD, hS, hl⟩
        · have t_107 : ¬ (iT_next_x5.toInt - iT_at.toInt) ≤ 6 := toI_nle c_107 (iI_t (Int.le_trans (by decide) (Int.sub_le_sub (b_iT_next_x5.1) (b_iT_at.2))) (Int.le_trans (Int.sub_le_sub (b_iT_next_x5.2) (b_iT_at.1)) (by decide))) (by decide : (6 : Int32).toInt = 6)
          refine lv_iconst (v := 3) hx hb dX9_takeNumber_110 (by decide) ?_
          refine lv_goto (tgt := 115) hx hb dX9_takeNumber_111 (by decide) ?_
          have hl : lv_has _ _ ([(0, .ref (hT 0))]) := lv_sub hl [0] rfl
          exact join24 _ _ _ _ ⟨3, (show 2 ≤ (3 : Int32).toInt ∧ (3 : Int32).toInt ≤ 3 from by decide), rfl, hP, hD, hS, hl⟩
      · rintro H locs ls stk ⟨k0_j24, b_k0_j24, rfl, hP, hD, hS, hl⟩
        refine va_put (D := (dC, dI)) (ci := 9) (v := .int k0_j24) (ty := .int) (C := RX9) (T := TX9) (N := 9) hx hb hts iwsMX9_takeNumber_in9 tyX9 tyX9_ok nmX9 hown hK hP hD hS 0 rfl rfl 4 (by decide) (hts (.fieldLink RX9 37 "OptimaWorks$Words" "kind" "I") (by decide +kernel)) (fun _ h9 => h9) rfl (by decide +kernel) rfl rfl (Nat.le_of_ble_eq_true rfl) dX9_takeNumber_115 (fun H locs hP hD hS => ?_)
        have hP : va_P (dC, dI) vwCl (WT hT aT kT fT_tape dT_tape nT_tape iT_length iT_fault iT_place k0_j24 iT_at iT_number_x5 jT_name iT_next_x5) H := hP
        have hD : va_D A (WT hT aT kT fT_tape dT_tape nT_tape iT_length iT_fault iT_place k0_j24 iT_at iT_number_x5 jT_name iT_next_x5) := hD
        refine W.widen (k := 0) (n := 0) (by decide +kernel) (by decide +kernel) ?_
        exact W.vret hx hb hr (fun t9_ ht hW => ⟨⟨(k0_j24, iT_number_x5, iT_next_x5), rfl, ⟨(by (try dsimp only); exact (b_iT_number_x5)), (by (try dsimp only); exact (b_iT_next_x5)), (by (try dsimp only); exact (hnk)), (by (try dsimp only); exact (hmo)), (by (try dsimp only); first | decide | omega)⟩, by rw [ht]; exact hP, hD⟩, hS.F ht⟩) hS.2.2 dX9_takeNumber_118

section
def WT (hT : Nat → Nat) (aT : Nat → Nat) (kT : Nat → ClassId) (fT_tape : Nat → Int32) (dT_tape : Nat) (nT_tape : Nat) (iT_length : Int32) (iT_fault : Int32) (iT_place : Int32) (iT_kind : Int32) (iT_at : Int32) (iT_number : Int32) (jT_name : Int64) (iT_next : Int32) : va_W := [(hT 0, .inr (9, [.ref dT_tape, .int iT_length, .int iT_fault, .int iT_place, .int iT_kind, .int iT_at, .int iT_number, .long jT_name, .int iT_next])), (dT_tape, .inl (kT 0, nT_tape, .inl fT_tape))]
def tT (kT : Nat → ClassId) : List (ClassId × FieldType) := [(kT 0, .byte)]
theorem dX9_fail_0 : decode cX9_fail 0 = .ok (.aload_n 0, 1) := dk_42 (by decide +kernel)
theorem dX9_fail_1 : decode cX9_fail 1 = .ok (.iload_n 1, 1) := dk_27 (by decide +kernel)
theorem dX9_fail_2 : decode cX9_fail 2 = .ok (.putfield 28, 3) := dk_181 (by decide +kernel)
theorem dX9_fail_5 : decode cX9_fail 5 = .ok (.aload_n 0, 1) := dk_42 (by decide +kernel)
theorem dX9_fail_6 : decode cX9_fail 6 = .ok (.iload_n 2, 1) := dk_28 (by decide +kernel)
theorem dX9_fail_7 : decode cX9_fail 7 = .ok (.putfield 15, 3) := dk_181 (by decide +kernel)
theorem dX9_fail_10 : decode cX9_fail 10 = .ok (.new 31, 3) := dk_187 (by decide +kernel)
theorem dX9_fail_13 : decode cX9_fail 13 = .ok (.dup, 1) := dk_89 (by decide +kernel)
theorem dX9_fail_14 : decode cX9_fail 14 = .ok (.invokespecial 33, 3) := dk_183 (by decide +kernel)
theorem dX9_fail_17 : decode cX9_fail 17 = .ok (.athrow, 1) := dk_191 (by decide +kernel)
def wsMX9_fail : List Cond := .code yX9_fail cX9_fail 3 none :: ([.fieldLink RX9 28 "OptimaWorks$Words" "fault" "I", .fieldLink RX9 15 "OptimaWorks$Words" "place" "I", .classLink RX9 31 "java/lang/IllegalArgumentException", .initialized "java/lang/IllegalArgumentException"] ++ wsX90 ++ ((vx_at0 RX9 33 "java/lang/IllegalArgumentException" ["java/lang/RuntimeException", "java/lang/Exception"]).filter goodWord))
theorem iwsMX9_fail_in9 : ∀ w ∈ wsX90, w ∈ wsMX9_fail := fun _ h => List.mem_cons_of_mem _ (List.mem_append_left _ (List.mem_append_right _ h))
theorem gdwsMX9_fail : wsMX9_fail.all goodWord = true := gdC rfl (gdA (gdA (by decide +kernel : ([.fieldLink RX9 28 "OptimaWorks$Words" "fault" "I", .fieldLink RX9 15 "OptimaWorks$Words" "place" "I", .classLink RX9 31 "java/lang/IllegalArgumentException", .initialized "java/lang/IllegalArgumentException"] : List Cond).all goodWord = true) gdwsX90) (gdF _))
set_option maxHeartbeats 4000000 in
set_option maxRecDepth 100000 in
/-- a fault -/
theorem m_X9_fail (l : Launch) (hst : l.stackTraces = false) (dC : Nat → ClassId) (dI : Nat → Nat → Nat) (hT : Nat → Nat) (aT : Nat → Nat) (kT : Nat → ClassId) (fT_tape : Nat → Int32) (dT_tape : Nat) (nT_tape : Nat) (iT_length : Int32) (iT_fault : Int32) (iT_place : Int32) (iT_kind : Int32) (iT_at : Int32) (iT_number : Int32) (jT_name : Int64) (iT_next : Int32) (p1 : Int32) (p2 : Int32) (b_fT_tape : ∀ q : Nat, (-128) ≤ (fT_tape q).toInt ∧ (fT_tape q).toInt ≤ 127) (b_nT_tape : 64 ≤ nT_tape ∧ nT_tape ≤ 2560) (b_iT_length : 0 ≤ iT_length.toInt ∧ iT_length.toInt ≤ 1280) (b_iT_at : 0 ≤ iT_at.toInt ∧ iT_at.toInt ≤ 1282) (b_iT_number : 0 ≤ iT_number.toInt ∧ iT_number.toInt ≤ 999999) (b_iT_next : 0 ≤ iT_next.toInt ∧ iT_next.toInt ≤ 1282) (b_len : iT_length.toInt ≤ ((nT_tape : Nat) : Int)) (sz : Nat) : vx_Met l yX9_fail wsMX9_fail ({ frames := 6, cells := 1, slots := 6, locals := 81 }) (va_Pc [.ref (hT 0), .int p1, .int p2] (fun U => U.heap.size = sz ∧ va_P (dC, dI) vwCl (WT hT aT kT fT_tape dT_tape nT_tape iT_length iT_fault iT_place iT_kind iT_at iT_number jT_name iT_next) U.heap ∧ va_K (dC, dI) vwCl (tT kT) U ∧ va_D (fun _ => True) (WT hT aT kT fT_tape dT_tape nT_tape iT_length iT_fault iT_place iT_kind iT_at iT_number jT_name iT_next) ∧ CE (va_A (WT hT aT kT fT_tape dT_tape nT_tape iT_length iT_fault iT_place iT_kind iT_at iT_number jT_name iT_next) sz) U U.heap)) (va_Qv (fun (u : (Int32) × (Int32)) => False) (fun (u : (Int32) × (Int32)) t => va_P (dC, dI) vwCl (WT hT aT kT fT_tape dT_tape nT_tape iT_length (u.1) (u.2) iT_kind iT_at iT_number jT_name iT_next) t.heap ∧ va_D (va_A (WT hT aT kT fT_tape dT_tape nT_tape iT_length iT_fault iT_place iT_kind iT_at iT_number jT_name iT_next) sz) (WT hT aT kT fT_tape dT_tape nT_tape iT_length (u.1) (u.2) iT_kind iT_at iT_number jT_name iT_next)) (va_A (WT hT aT kT fT_tape dT_tape nT_tape iT_length iT_fault iT_place iT_kind iT_at iT_number jT_name iT_next) sz)) (vx_X (fun (u : (Int32) × (Int32)) => True) (fun E (u : (Int32) × (Int32)) t => (E = "java/lang/IllegalArgumentException") ∧ va_P (dC, dI) vwCl (WT hT aT kT fT_tape dT_tape nT_tape iT_length (u.1) (u.2) iT_kind iT_at iT_number jT_name iT_next) t.heap ∧ va_D (va_A (WT hT aT kT fT_tape dT_tape nT_tape iT_length iT_fault iT_place iT_kind iT_at iT_number jT_name iT_next) sz) (WT hT aT kT fT_tape dT_tape nT_tape iT_length (u.1) (u.2) iT_kind iT_at iT_number jT_name iT_next)) (va_A (WT hT aT kT fT_tape dT_tape nT_tape iT_length iT_fault iT_place iT_kind iT_at iT_number jT_name iT_next) sz)) 1 6 (va_A (WT hT aT kT fT_tape dT_tape nT_tape iT_length iT_fault iT_place iT_kind iT_at iT_number jT_name iT_next) sz) := by
  refine vx_ofW (cc := cX9_fail) (maxL := 3) (ret := none) (by decide) rfl ?_
  intro p e s m args below meth c s₁ B hml htab hv
  obtain ⟨rfl, hsz, hP, hK, hD0, hE⟩ := hv
  have hx := B.exec
  have hb := B.bytes
  have hr := B.returns
  have hts := atoms_spec (ws := wsMX9_fail) B.pre
  have hown : s.vm.findClass RX9 = some m.cls := findClass_of_methodNamed B.named
  have hlocks := B.notSynchronized
  subst hsz
  have hD := hD0.self (sz := s.heap.size)
  generalize hAe : va_A (WT hT aT kT fT_tape dT_tape nT_tape iT_length iT_fault iT_place iT_kind iT_at iT_number jT_name iT_next) s.heap.size = A at hD hE ⊢
  have hA : ∀ q : Nat, s.heap.size ≤ q → A q := fun q h => by rw [← hAe]; exact Or.inr h
  have hS : va_S A s.heap s.heap [] := va_S.rf
  have hl := lv_entry ([.ref (hT 0), .int p1, .int p2]) (n := 3) (Nat.le_of_ble_eq_true rfl)
  rw [lg_entry_eq]
  generalize (lg_sl ([.ref (hT 0), .int p1, .int p2]) ++ List.replicate (3 - (lg_sl ([.ref (hT 0), .int p1, .int p2])).length) Slot.unset).toArray = ls at hl ⊢
  have hl : lv_has ls 3 [(0, .ref (hT 0)), (1, .int p1), (2, .int p2)] := hl
  refine lv_aload_n hx hb dX9_fail_0 rfl (lv_at hl 0 rfl) ?_
  refine lv_iload_n hx hb dX9_fail_1 rfl (lv_at hl 1 rfl) ?_
  refine va_put (D := (dC, dI)) (ci := 9) (v := .int p1) (ty := .int) (C := RX9) (T := TX9) (N := 9) hx hb hts iwsMX9_fail_in9 tyX9 tyX9_ok nmX9 hown hK hP hD hS 0 rfl rfl 2 (by decide) (hts (.fieldLink RX9 28 "OptimaWorks$Words" "fault" "I") (by decide +kernel)) (fun _ h9 => h9) rfl (by decide +kernel) rfl rfl (Nat.le_of_ble_eq_true rfl) dX9_fail_2 (fun H locs hP hD hS => ?_)
  have hP : va_P (dC, dI) vwCl (WT hT aT kT fT_tape dT_tape nT_tape iT_length p1 iT_place iT_kind iT_at iT_number jT_name iT_next) H := hP
  have hD : va_D A (WT hT aT kT fT_tape dT_tape nT_tape iT_length p1 iT_place iT_kind iT_at iT_number jT_name iT_next) := hD
  refine lv_aload_n hx hb dX9_fail_5 rfl (lv_at hl 0 rfl) ?_
  refine lv_iload_n hx hb dX9_fail_6 rfl (lv_at hl 2 rfl) ?_
  refine va_put (D := (dC, dI)) (ci := 9) (v := .int p2) (ty := .int) (C := RX9) (T := TX9) (N := 9) hx hb hts iwsMX9_fail_in9 tyX9 tyX9_ok nmX9 hown hK hP hD hS 0 rfl rfl 3 (by decide) (hts (.fieldLink RX9 15 "OptimaWorks$Words" "place" "I") (by decide +kernel)) (fun _ h9 => h9) rfl (by decide +kernel) rfl rfl (Nat.le_of_ble_eq_true rfl) dX9_fail_7 (fun H locs hP hD hS => ?_)
  have hP : va_P (dC, dI) vwCl (WT hT aT kT fT_tape dT_tape nT_tape iT_length p1 p2 iT_kind iT_at iT_number jT_name iT_next) H := hP
  have hD : va_D A (WT hT aT kT fT_tape dT_tape nT_tape iT_length p1 p2 iT_kind iT_at iT_number jT_name iT_next) := hD
  exact vx_throw0 (own := RX9) (cls := "java/lang/IllegalArgumentException") (names := ["java/lang/RuntimeException", "java/lang/Exception"]) (ik := 31) (ic := 33) (A := A) hx hb hst hown (by decide +kernel) (by decide +kernel) (hts (.classLink RX9 31 "java/lang/IllegalArgumentException") (by decide +kernel)) (hts (.initialized "java/lang/IllegalArgumentException") (by decide +kernel)) (vx_hat (B := ngX9_33) (fun w h => hts w (List.mem_cons_of_mem _ (List.mem_append_right _ h))) (fun _ h => h) (fun w h => va_Nw.use (ngX9_33_ot w h) (hE.2.2.1.1 w h))) (by decide +kernel) hE.2.1.1 hE.2.1.2 hS (by rw [hml]; exact hl.1) dX9_fail_10 dX9_fail_13 dX9_fail_14 dX9_fail_17 (fun x hx9 => (htab x hx9).elim) (by decide +kernel) (Nat.le_of_ble_eq_true rfl) (by decide +kernel) (by decide +kernel) hlocks (fun t hvm hz hk => ⟨(p1, p2), trivial, ⟨rfl, hP.kept (fun k q h => hk q.1 ((hP k q h).lt)), hD⟩, ⟨Nat.le_trans hS.1 hz, fun q h1 h2 => (hk q (Nat.lt_of_lt_of_le h1 hS.1)).trans (hS.2.1 q h1 h2)⟩⟩) hS.2.2 (by decide +kernel) (by decide +kernel)
theorem dX9_failHere_0 : decode cX9_failHere 0 = .ok (.aload_n 0, 1) := dk_42 (by decide +kernel)
theorem dX9_failHere_1 : decode cX9_failHere 1 = .ok (.iload_n 1, 1) := dk_27 (by decide +kernel)
theorem dX9_failHere_2 : decode cX9_failHere 2 = .ok (.putfield 28, 3) := dk_181 (by decide +kernel)
theorem dX9_failHere_5 : decode cX9_failHere 5 = .ok (.aload_n 0, 1) := dk_42 (by decide +kernel)
theorem dX9_failHere_6 : decode cX9_failHere 6 = .ok (.aload_n 0, 1) := dk_42 (by decide +kernel)
theorem dX9_failHere_7 : decode cX9_failHere 7 = .ok (.getfield 34, 3) := dk_180 (by decide +kernel)
theorem dX9_failHere_10 : decode cX9_failHere 10 = .ok (.putfield 15, 3) := dk_181 (by decide +kernel)
theorem dX9_failHere_13 : decode cX9_failHere 13 = .ok (.new 31, 3) := dk_187 (by decide +kernel)
theorem dX9_failHere_16 : decode cX9_failHere 16 = .ok (.dup, 1) := dk_89 (by decide +kernel)
theorem dX9_failHere_17 : decode cX9_failHere 17 = .ok (.invokespecial 33, 3) := dk_183 (by decide +kernel)
theorem dX9_failHere_20 : decode cX9_failHere 20 = .ok (.athrow, 1) := dk_191 (by decide +kernel)
def wsMX9_failHere : List Cond := .code yX9_failHere cX9_failHere 2 none :: ([.fieldLink RX9 28 "OptimaWorks$Words" "fault" "I", .fieldLink RX9 34 "OptimaWorks$Words" "at" "I", .fieldLink RX9 15 "OptimaWorks$Words" "place" "I", .classLink RX9 31 "java/lang/IllegalArgumentException", .initialized "java/lang/IllegalArgumentException"] ++ wsX90 ++ ((vx_at0 RX9 33 "java/lang/IllegalArgumentException" ["java/lang/RuntimeException", "java/lang/Exception"]).filter goodWord))
theorem iwsMX9_failHere_in9 : ∀ w ∈ wsX90, w ∈ wsMX9_failHere := fun _ h => List.mem_cons_of_mem _ (List.mem_append_left _ (List.mem_append_right _ h))
theorem gdwsMX9_failHere : wsMX9_failHere.all goodWord = true := gdC rfl (gdA (gdA (by decide +kernel : ([.fieldLink RX9 28 "OptimaWorks$Words" "fault" "I", .fieldLink RX9 34 "OptimaWorks$Words" "at" "I", .fieldLink RX9 15 "OptimaWorks$Words" "place" "I", .classLink RX9 31 "java/lang/IllegalArgumentException", .initialized "java/lang/IllegalArgumentException"] : List Cond).all goodWord = true) gdwsX90) (gdF _))
set_option maxHeartbeats 4000000 in
set_option maxRecDepth 100000 in
/-- a fault here -/
theorem m_X9_failHere (l : Launch) (hst : l.stackTraces = false) (dC : Nat → ClassId) (dI : Nat → Nat → Nat) (hT : Nat → Nat) (aT : Nat → Nat) (kT : Nat → ClassId) (fT_tape : Nat → Int32) (dT_tape : Nat) (nT_tape : Nat) (iT_length : Int32) (iT_fault : Int32) (iT_place : Int32) (iT_kind : Int32) (iT_at : Int32) (iT_number : Int32) (jT_name : Int64) (iT_next : Int32) (p1 : Int32) (b_fT_tape : ∀ q : Nat, (-128) ≤ (fT_tape q).toInt ∧ (fT_tape q).toInt ≤ 127) (b_nT_tape : 64 ≤ nT_tape ∧ nT_tape ≤ 2560) (b_iT_length : 0 ≤ iT_length.toInt ∧ iT_length.toInt ≤ 1280) (b_iT_at : 0 ≤ iT_at.toInt ∧ iT_at.toInt ≤ 1282) (b_iT_number : 0 ≤ iT_number.toInt ∧ iT_number.toInt ≤ 999999) (b_iT_next : 0 ≤ iT_next.toInt ∧ iT_next.toInt ≤ 1282) (b_len : iT_length.toInt ≤ ((nT_tape : Nat) : Int)) (sz : Nat) : vx_Met l yX9_failHere wsMX9_failHere ({ frames := 6, cells := 1, slots := 6, locals := 81 }) (va_Pc [.ref (hT 0), .int p1] (fun U => U.heap.size = sz ∧ va_P (dC, dI) vwCl (WT hT aT kT fT_tape dT_tape nT_tape iT_length iT_fault iT_place iT_kind iT_at iT_number jT_name iT_next) U.heap ∧ va_K (dC, dI) vwCl (tT kT) U ∧ va_D (fun _ => True) (WT hT aT kT fT_tape dT_tape nT_tape iT_length iT_fault iT_place iT_kind iT_at iT_number jT_name iT_next) ∧ CE (va_A (WT hT aT kT fT_tape dT_tape nT_tape iT_length iT_fault iT_place iT_kind iT_at iT_number jT_name iT_next) sz) U U.heap)) (va_Qv (fun (u : (Int32) × (Int32)) => False) (fun (u : (Int32) × (Int32)) t => va_P (dC, dI) vwCl (WT hT aT kT fT_tape dT_tape nT_tape iT_length (u.1) (u.2) iT_kind iT_at iT_number jT_name iT_next) t.heap ∧ va_D (va_A (WT hT aT kT fT_tape dT_tape nT_tape iT_length iT_fault iT_place iT_kind iT_at iT_number jT_name iT_next) sz) (WT hT aT kT fT_tape dT_tape nT_tape iT_length (u.1) (u.2) iT_kind iT_at iT_number jT_name iT_next)) (va_A (WT hT aT kT fT_tape dT_tape nT_tape iT_length iT_fault iT_place iT_kind iT_at iT_number jT_name iT_next) sz)) (vx_X (fun (u : (Int32) × (Int32)) => True) (fun E (u : (Int32) × (Int32)) t => (E = "java/lang/IllegalArgumentException") ∧ va_P (dC, dI) vwCl (WT hT aT kT fT_tape dT_tape nT_tape iT_length (u.1) (u.2) iT_kind iT_at iT_number jT_name iT_next) t.heap ∧ va_D (va_A (WT hT aT kT fT_tape dT_tape nT_tape iT_length iT_fault iT_place iT_kind iT_at iT_number jT_name iT_next) sz) (WT hT aT kT fT_tape dT_tape nT_tape iT_length (u.1) (u.2) iT_kind iT_at iT_number jT_name iT_next)) (va_A (WT hT aT kT fT_tape dT_tape nT_tape iT_length iT_fault iT_place iT_kind iT_at iT_number jT_name iT_next) sz)) 1 6 (va_A (WT hT aT kT fT_tape dT_tape nT_tape iT_length iT_fault iT_place iT_kind iT_at iT_number jT_name iT_next) sz) := by
  refine vx_ofW (cc := cX9_failHere) (maxL := 2) (ret := none) (by decide) rfl ?_
  intro p e s m args below meth c s₁ B hml htab hv
  obtain ⟨rfl, hsz, hP, hK, hD0, hE⟩ := hv
  have hx := B.exec
  have hb := B.bytes
  have hr := B.returns
  have hts := atoms_spec (ws := wsMX9_failHere) B.pre
  have hown : s.vm.findClass RX9 = some m.cls := findClass_of_methodNamed B.named
  have hlocks := B.notSynchronized
  subst hsz
  have hD := hD0.self (sz := s.heap.size)
  generalize hAe : va_A (WT hT aT kT fT_tape dT_tape nT_tape iT_length iT_fault iT_place iT_kind iT_at iT_number jT_name iT_next) s.heap.size = A at hD hE ⊢
  have hA : ∀ q : Nat, s.heap.size ≤ q → A q := fun q h => by rw [← hAe]; exact Or.inr h
  have hS : va_S A s.heap s.heap [] := va_S.rf
  have hl := lv_entry ([.ref (hT 0), .int p1]) (n := 2) (Nat.le_of_ble_eq_true rfl)
  rw [lg_entry_eq]
  generalize (lg_sl ([.ref (hT 0), .int p1]) ++ List.replicate (2 - (lg_sl ([.ref (hT 0), .int p1])).length) Slot.unset).toArray = ls at hl ⊢
  have hl : lv_has ls 2 [(0, .ref (hT 0)), (1, .int p1)] := hl
  refine lv_aload_n hx hb dX9_failHere_0 rfl (lv_at hl 0 rfl) ?_
  refine lv_iload_n hx hb dX9_failHere_1 rfl (lv_at hl 1 rfl) ?_
  refine va_put (D := (dC, dI)) (ci := 9) (v := .int p1) (ty := .int) (C := RX9) (T := TX9) (N := 9) hx hb hts iwsMX9_failHere_in9 tyX9 tyX9_ok nmX9 hown hK hP hD hS 0 rfl rfl 2 (by decide) (hts (.fieldLink RX9 28 "OptimaWorks$Words" "fault" "I") (by decide +kernel)) (fun _ h9 => h9) rfl (by decide +kernel) rfl rfl (Nat.le_of_ble_eq_true rfl) dX9_failHere_2 (fun H locs hP hD hS => ?_)
  have hP : va_P (dC, dI) vwCl (WT hT aT kT fT_tape dT_tape nT_tape iT_length p1 iT_place iT_kind iT_at iT_number jT_name iT_next) H := hP
  have hD : va_D A (WT hT aT kT fT_tape dT_tape nT_tape iT_length p1 iT_place iT_kind iT_at iT_number jT_name iT_next) := hD
  refine lv_aload_n hx hb dX9_failHere_5 rfl (lv_at hl 0 rfl) ?_
  refine lv_aload_n hx hb dX9_failHere_6 rfl (lv_at hl 0 rfl) ?_
  refine va_get (D := (dC, dI)) (ci := 9) (v := .int iT_at) (C := RX9) (T := TX9) (N := 9) hx hb hts iwsMX9_failHere_in9 hown hK hP 0 rfl rfl 5 (by decide) (hts (.fieldLink RX9 34 "OptimaWorks$Words" "at" "I") (by decide +kernel)) (fun _ h9 => h9) rfl dX9_failHere_7 ?_
  refine va_put (D := (dC, dI)) (ci := 9) (v := .int iT_at) (ty := .int) (C := RX9) (T := TX9) (N := 9) hx hb hts iwsMX9_failHere_in9 tyX9 tyX9_ok nmX9 hown hK hP hD hS 0 rfl rfl 3 (by decide) (hts (.fieldLink RX9 15 "OptimaWorks$Words" "place" "I") (by decide +kernel)) (fun _ h9 => h9) rfl (by decide +kernel) rfl rfl (Nat.le_of_ble_eq_true rfl) dX9_failHere_10 (fun H locs hP hD hS => ?_)
  have hP : va_P (dC, dI) vwCl (WT hT aT kT fT_tape dT_tape nT_tape iT_length p1 iT_at iT_kind iT_at iT_number jT_name iT_next) H := hP
  have hD : va_D A (WT hT aT kT fT_tape dT_tape nT_tape iT_length p1 iT_at iT_kind iT_at iT_number jT_name iT_next) := hD
  exact vx_throw0 (own := RX9) (cls := "java/lang/IllegalArgumentException") (names := ["java/lang/RuntimeException", "java/lang/Exception"]) (ik := 31) (ic := 33) (A := A) hx hb hst hown (by decide +kernel) (by decide +kernel) (hts (.classLink RX9 31 "java/lang/IllegalArgumentException") (by decide +kernel)) (hts (.initialized "java/lang/IllegalArgumentException") (by decide +kernel)) (vx_hat (B := ngX9_33) (fun w h => hts w (List.mem_cons_of_mem _ (List.mem_append_right _ h))) (fun _ h => h) (fun w h => va_Nw.use (ngX9_33_ot w h) (hE.2.2.1.1 w h))) (by decide +kernel) hE.2.1.1 hE.2.1.2 hS (by rw [hml]; exact hl.1) dX9_failHere_13 dX9_failHere_16 dX9_failHere_17 dX9_failHere_20 (fun x hx9 => (htab x hx9).elim) (by decide +kernel) (Nat.le_of_ble_eq_true rfl) (by decide +kernel) (by decide +kernel) hlocks (fun t hvm hz hk => ⟨(p1, iT_at), trivial, ⟨rfl, hP.kept (fun k q h => hk q.1 ((hP k q h).lt)), hD⟩, ⟨Nat.le_trans hS.1 hz, fun q h1 h2 => (hk q (Nat.lt_of_lt_of_le h1 hS.1)).trans (hS.2.1 q h1 h2)⟩⟩) hS.2.2 (by decide +kernel) (by decide +kernel)
theorem dX9_failWord_0 : decode cX9_failWord 0 = .ok (.aload_n 0, 1) := dk_42 (by decide +kernel)
theorem dX9_failWord_1 : decode cX9_failWord 1 = .ok (.aload_n 0, 1) := dk_42 (by decide +kernel)
theorem dX9_failWord_2 : decode cX9_failWord 2 = .ok (.getfield 37, 3) := dk_180 (by decide +kernel)
theorem dX9_failWord_5 : decode cX9_failWord 5 = .ok (.iconst 3, 1) := dk_6 (by decide +kernel)
theorem dX9_failWord_6 : decode cX9_failWord 6 = .ok (.if_icmp .ne 7, 3) := dk_160 (by decide +kernel)
theorem dX9_failWord_9 : decode cX9_failWord 9 = .ok (.iconst 2, 1) := dk_5 (by decide +kernel)
theorem dX9_failWord_10 : decode cX9_failWord 10 = .ok (.goto 4, 3) := dk_167 (by decide +kernel)
theorem dX9_failWord_13 : decode cX9_failWord 13 = .ok (.iconst 1, 1) := dk_4 (by decide +kernel)
theorem dX9_failWord_14 : decode cX9_failWord 14 = .ok (.putfield 28, 3) := dk_181 (by decide +kernel)
theorem dX9_failWord_17 : decode cX9_failWord 17 = .ok (.aload_n 0, 1) := dk_42 (by decide +kernel)
theorem dX9_failWord_18 : decode cX9_failWord 18 = .ok (.aload_n 0, 1) := dk_42 (by decide +kernel)
theorem dX9_failWord_19 : decode cX9_failWord 19 = .ok (.getfield 34, 3) := dk_180 (by decide +kernel)
theorem dX9_failWord_22 : decode cX9_failWord 22 = .ok (.putfield 15, 3) := dk_181 (by decide +kernel)
theorem dX9_failWord_25 : decode cX9_failWord 25 = .ok (.new 31, 3) := dk_187 (by decide +kernel)
theorem dX9_failWord_28 : decode cX9_failWord 28 = .ok (.dup, 1) := dk_89 (by decide +kernel)
theorem dX9_failWord_29 : decode cX9_failWord 29 = .ok (.invokespecial 33, 3) := dk_183 (by decide +kernel)
theorem dX9_failWord_32 : decode cX9_failWord 32 = .ok (.athrow, 1) := dk_191 (by decide +kernel)
def wsMX9_failWord : List Cond := .code yX9_failWord cX9_failWord 1 none :: ([.fieldLink RX9 37 "OptimaWorks$Words" "kind" "I", .fieldLink RX9 28 "OptimaWorks$Words" "fault" "I", .fieldLink RX9 34 "OptimaWorks$Words" "at" "I", .fieldLink RX9 15 "OptimaWorks$Words" "place" "I", .classLink RX9 31 "java/lang/IllegalArgumentException", .initialized "java/lang/IllegalArgumentException"] ++ wsX90 ++ ((vx_at0 RX9 33 "java/lang/IllegalArgumentException" ["java/lang/RuntimeException", "java/lang/Exception"]).filter goodWord))
theorem iwsMX9_failWord_in9 : ∀ w ∈ wsX90, w ∈ wsMX9_failWord := fun _ h => List.mem_cons_of_mem _ (List.mem_append_left _ (List.mem_append_right _ h))
theorem gdwsMX9_failWord : wsMX9_failWord.all goodWord = true := gdC rfl (gdA (gdA (by decide +kernel : ([.fieldLink RX9 37 "OptimaWorks$Words" "kind" "I", .fieldLink RX9 28 "OptimaWorks$Words" "fault" "I", .fieldLink RX9 34 "OptimaWorks$Words" "at" "I", .fieldLink RX9 15 "OptimaWorks$Words" "place" "I", .classLink RX9 31 "java/lang/IllegalArgumentException", .initialized "java/lang/IllegalArgumentException"] : List Cond).all goodWord = true) gdwsX90) (gdF _))
set_option maxHeartbeats 4000000 in
set_option maxRecDepth 100000 in
/-- a wrong word -/
theorem m_X9_failWord (l : Launch) (hst : l.stackTraces = false) (dC : Nat → ClassId) (dI : Nat → Nat → Nat) (hT : Nat → Nat) (aT : Nat → Nat) (kT : Nat → ClassId) (fT_tape : Nat → Int32) (dT_tape : Nat) (nT_tape : Nat) (iT_length : Int32) (iT_fault : Int32) (iT_place : Int32) (iT_kind : Int32) (iT_at : Int32) (iT_number : Int32) (jT_name : Int64) (iT_next : Int32) (b_fT_tape : ∀ q : Nat, (-128) ≤ (fT_tape q).toInt ∧ (fT_tape q).toInt ≤ 127) (b_nT_tape : 64 ≤ nT_tape ∧ nT_tape ≤ 2560) (b_iT_length : 0 ≤ iT_length.toInt ∧ iT_length.toInt ≤ 1280) (b_iT_at : 0 ≤ iT_at.toInt ∧ iT_at.toInt ≤ 1282) (b_iT_number : 0 ≤ iT_number.toInt ∧ iT_number.toInt ≤ 999999) (b_iT_next : 0 ≤ iT_next.toInt ∧ iT_next.toInt ≤ 1282) (b_len : iT_length.toInt ≤ ((nT_tape : Nat) : Int)) (sz : Nat) : vx_Met l yX9_failWord wsMX9_failWord ({ frames := 6, cells := 1, slots := 6, locals := 81 }) (va_Pc [.ref (hT 0)] (fun U => U.heap.size = sz ∧ va_P (dC, dI) vwCl (WT hT aT kT fT_tape dT_tape nT_tape iT_length iT_fault iT_place iT_kind iT_at iT_number jT_name iT_next) U.heap ∧ va_K (dC, dI) vwCl (tT kT) U ∧ va_D (fun _ => True) (WT hT aT kT fT_tape dT_tape nT_tape iT_length iT_fault iT_place iT_kind iT_at iT_number jT_name iT_next) ∧ CE (va_A (WT hT aT kT fT_tape dT_tape nT_tape iT_length iT_fault iT_place iT_kind iT_at iT_number jT_name iT_next) sz) U U.heap)) (va_Qv (fun (u : (Int32) × (Int32)) => False) (fun (u : (Int32) × (Int32)) t => va_P (dC, dI) vwCl (WT hT aT kT fT_tape dT_tape nT_tape iT_length (u.1) (u.2) iT_kind iT_at iT_number jT_name iT_next) t.heap ∧ va_D (va_A (WT hT aT kT fT_tape dT_tape nT_tape iT_length iT_fault iT_place iT_kind iT_at iT_number jT_name iT_next) sz) (WT hT aT kT fT_tape dT_tape nT_tape iT_length (u.1) (u.2) iT_kind iT_at iT_number jT_name iT_next)) (va_A (WT hT aT kT fT_tape dT_tape nT_tape iT_length iT_fault iT_place iT_kind iT_at iT_number jT_name iT_next) sz)) (vx_X (fun (u : (Int32) × (Int32)) => True) (fun E (u : (Int32) × (Int32)) t => (E = "java/lang/IllegalArgumentException") ∧ va_P (dC, dI) vwCl (WT hT aT kT fT_tape dT_tape nT_tape iT_length (u.1) (u.2) iT_kind iT_at iT_number jT_name iT_next) t.heap ∧ va_D (va_A (WT hT aT kT fT_tape dT_tape nT_tape iT_length iT_fault iT_place iT_kind iT_at iT_number jT_name iT_next) sz) (WT hT aT kT fT_tape dT_tape nT_tape iT_length (u.1) (u.2) iT_kind iT_at iT_number jT_name iT_next)) (va_A (WT hT aT kT fT_tape dT_tape nT_tape iT_length iT_fault iT_place iT_kind iT_at iT_number jT_name iT_next) sz)) 1 6 (va_A (WT hT aT kT fT_tape dT_tape nT_tape iT_length iT_fault iT_place iT_kind iT_at iT_number jT_name iT_next) sz) := by
  refine vx_ofW (cc := cX9_failWord) (maxL := 1) (ret := none) (by decide) rfl ?_
  intro p e s m args below meth c s₁ B hml htab hv
  obtain ⟨rfl, hsz, hP, hK, hD0, hE⟩ := hv
  have hx := B.exec
  have hb := B.bytes
  have hr := B.returns
  have hts := atoms_spec (ws := wsMX9_failWord) B.pre
  have hown : s.vm.findClass RX9 = some m.cls := findClass_of_methodNamed B.named
  have hlocks := B.notSynchronized
  subst hsz
  have hD := hD0.self (sz := s.heap.size)
  generalize hAe : va_A (WT hT aT kT fT_tape dT_tape nT_tape iT_length iT_fault iT_place iT_kind iT_at iT_number jT_name iT_next) s.heap.size = A at hD hE ⊢
  have hA : ∀ q : Nat, s.heap.size ≤ q → A q := fun q h => by rw [← hAe]; exact Or.inr h
  have hS : va_S A s.heap s.heap [] := va_S.rf
  have hl := lv_entry ([.ref (hT 0)]) (n := 1) (Nat.le_of_ble_eq_true rfl)
  rw [lg_entry_eq]
  generalize (lg_sl ([.ref (hT 0)]) ++ List.replicate (1 - (lg_sl ([.ref (hT 0)])).length) Slot.unset).toArray = ls at hl ⊢
  have hl : lv_has ls 1 [(0, .ref (hT 0))] := hl
  refine lv_aload_n hx hb dX9_failWord_0 rfl (lv_at hl 0 rfl) ?_
  refine lv_aload_n hx hb dX9_failWord_1 rfl (lv_at hl 0 rfl) ?_
  refine va_get (D := (dC, dI)) (ci := 9) (v := .int iT_kind) (C := RX9) (T := TX9) (N := 9) hx hb hts iwsMX9_failWord_in9 hown hK hP 0 rfl rfl 4 (by decide) (hts (.fieldLink RX9 37 "OptimaWorks$Words" "kind" "I") (by decide +kernel)) (fun _ h9 => h9) rfl dX9_failWord_2 ?_
  refine lv_iconst (v := 3) hx hb dX9_failWord_5 (by decide) ?_
  refine W.cut (pc := 14) (fun H locs ls stk => ∃ (k0_j2 : Int32), (1 ≤ k0_j2.toInt ∧ k0_j2.toInt ≤ 2) ∧  stk = [.int k0_j2, .ref (hT 0)] ∧ va_P (dC, dI) vwCl (WT hT aT kT fT_tape dT_tape nT_tape iT_length iT_fault iT_place iT_kind iT_at iT_number jT_name iT_next) H ∧ va_D A (WT hT aT kT fT_tape dT_tape nT_tape iT_length iT_fault iT_place iT_kind iT_at iT_number jT_name iT_next) ∧ va_S A s.heap H locs ∧ lv_has ls 1 [(0, .ref (hT 0))]) (fun join2 => ?_) ?_
  · refine lv_icmp_ne (tgt := 13) hx hb dX9_failWord_6 (by decide) (fun c_6 => ?_) (fun c_6 => ?_)
    · have t_6 : iT_kind.toInt ≠ 3 := toI_ne c_6 rfl (by decide : (3 : Int32).toInt = 3)
      refine lv_iconst (v := 1) hx hb dX9_failWord_13 (by decide) ?_
      have hl : lv_has _ _ ([(0, .ref (hT 0))]) := lv_sub hl [0] rfl
      exact join2 _ _ _ _ ⟨1, (show 1 ≤ (1 : Int32).toInt ∧ (1 : Int32).toInt ≤ 2 from by decide), rfl, hP, hD, hS, hl⟩
    · have t_6 : iT_kind.toInt = 3 := toI_nne c_6 rfl (by decide : (3 : Int32).toInt = 3)
      refine lv_iconst (v := 2) hx hb dX9_failWord_9 (by decide) ?_
      refine lv_goto (tgt := 14) hx hb dX9_failWord_10 (by decide) ?_
      have hl : lv_has _ _ ([(0, .ref (hT 0))]) := lv_sub hl [0] rfl
      exact join2 _ _ _ _ ⟨2, (show 1 ≤ (2 : Int32).toInt ∧ (2 : Int32).toInt ≤ 2 from by decide), rfl, hP, hD, hS, hl⟩
  · rintro H locs ls stk ⟨k0_j2, b_k0_j2, rfl, hP, hD, hS, hl⟩
    refine va_put (D := (dC, dI)) (ci := 9) (v := .int k0_j2) (ty := .int) (C := RX9) (T := TX9) (N := 9) hx hb hts iwsMX9_failWord_in9 tyX9 tyX9_ok nmX9 hown hK hP hD hS 0 rfl rfl 2 (by decide) (hts (.fieldLink RX9 28 "OptimaWorks$Words" "fault" "I") (by decide +kernel)) (fun _ h9 => h9) rfl (by decide +kernel) rfl rfl (Nat.le_of_ble_eq_true rfl) dX9_failWord_14 (fun H locs hP hD hS => ?_)
    have hP : va_P (dC, dI) vwCl (WT hT aT kT fT_tape dT_tape nT_tape iT_length k0_j2 iT_place iT_kind iT_at iT_number jT_name iT_next) H := hP
    have hD : va_D A (WT hT aT kT fT_tape dT_tape nT_tape iT_length k0_j2 iT_place iT_kind iT_at iT_number jT_name iT_next) := hD
    refine lv_aload_n hx hb dX9_failWord_17 rfl (lv_at hl 0 rfl) ?_
    refine lv_aload_n hx hb dX9_failWord_18 rfl (lv_at hl 0 rfl) ?_
    refine va_get (D := (dC, dI)) (ci := 9) (v := .int iT_at) (C := RX9) (T := TX9) (N := 9) hx hb hts iwsMX9_failWord_in9 hown hK hP 0 rfl rfl 5 (by decide) (hts (.fieldLink RX9 34 "OptimaWorks$Words" "at" "I") (by decide +kernel)) (fun _ h9 => h9) rfl dX9_failWord_19 ?_
    refine va_put (D := (dC, dI)) (ci := 9) (v := .int iT_at) (ty := .int) (C := RX9) (T := TX9) (N := 9) hx hb hts iwsMX9_failWord_in9 tyX9 tyX9_ok nmX9 hown hK hP hD hS 0 rfl rfl 3 (by decide) (hts (.fieldLink RX9 15 "OptimaWorks$Words" "place" "I") (by decide +kernel)) (fun _ h9 => h9) rfl (by decide +kernel) rfl rfl (Nat.le_of_ble_eq_true rfl) dX9_failWord_22 (fun H locs hP hD hS => ?_)
    have hP : va_P (dC, dI) vwCl (WT hT aT kT fT_tape dT_tape nT_tape iT_length k0_j2 iT_at iT_kind iT_at iT_number jT_name iT_next) H := hP
    have hD : va_D A (WT hT aT kT fT_tape dT_tape nT_tape iT_length k0_j2 iT_at iT_kind iT_at iT_number jT_name iT_next) := hD
    exact vx_throw0 (own := RX9) (cls := "java/lang/IllegalArgumentException") (names := ["java/lang/RuntimeException", "java/lang/Exception"]) (ik := 31) (ic := 33) (A := A) hx hb hst hown (by decide +kernel) (by decide +kernel) (hts (.classLink RX9 31 "java/lang/IllegalArgumentException") (by decide +kernel)) (hts (.initialized "java/lang/IllegalArgumentException") (by decide +kernel)) (vx_hat (B := ngX9_33) (fun w h => hts w (List.mem_cons_of_mem _ (List.mem_append_right _ h))) (fun _ h => h) (fun w h => va_Nw.use (ngX9_33_ot w h) (hE.2.2.1.1 w h))) (by decide +kernel) hE.2.1.1 hE.2.1.2 hS (by rw [hml]; exact hl.1) dX9_failWord_25 dX9_failWord_28 dX9_failWord_29 dX9_failWord_32 (fun x hx9 => (htab x hx9).elim) (by decide +kernel) (Nat.le_of_ble_eq_true rfl) (by decide +kernel) (by decide +kernel) hlocks (fun t hvm hz hk => ⟨(k0_j2, iT_at), trivial, ⟨rfl, hP.kept (fun k q h => hk q.1 ((hP k q h).lt)), hD⟩, ⟨Nat.le_trans hS.1 hz, fun q h1 h2 => (hk q (Nat.lt_of_lt_of_le h1 hS.1)).trans (hS.2.1 q h1 h2)⟩⟩) hS.2.2 (by decide +kernel) (by decide +kernel)
theorem dX9_skipBlanks_0 : decode cX9_skipBlanks 0 = .ok (.iconst 0, 1) := dk_3 (by decide +kernel)
theorem dX9_skipBlanks_1 : decode cX9_skipBlanks 1 = .ok (.istore_n 1, 1) := dk_60 (by decide +kernel)
theorem dX9_skipBlanks_2 : decode cX9_skipBlanks 2 = .ok (.aload_n 0, 1) := dk_42 (by decide +kernel)
theorem dX9_skipBlanks_3 : decode cX9_skipBlanks 3 = .ok (.getfield 40, 3) := dk_180 (by decide +kernel)
theorem dX9_skipBlanks_6 : decode cX9_skipBlanks 6 = .ok (.aload_n 0, 1) := dk_42 (by decide +kernel)
theorem dX9_skipBlanks_7 : decode cX9_skipBlanks 7 = .ok (.getfield 19, 3) := dk_180 (by decide +kernel)
theorem dX9_skipBlanks_10 : decode cX9_skipBlanks 10 = .ok (.if_icmp .ge 71, 3) := dk_162 (by decide +kernel)
theorem dX9_skipBlanks_13 : decode cX9_skipBlanks 13 = .ok (.aload_n 0, 1) := dk_42 (by decide +kernel)
theorem dX9_skipBlanks_14 : decode cX9_skipBlanks 14 = .ok (.getfield 9, 3) := dk_180 (by decide +kernel)
theorem dX9_skipBlanks_17 : decode cX9_skipBlanks 17 = .ok (.aload_n 0, 1) := dk_42 (by decide +kernel)
theorem dX9_skipBlanks_18 : decode cX9_skipBlanks 18 = .ok (.getfield 40, 3) := dk_180 (by decide +kernel)
theorem dX9_skipBlanks_21 : decode cX9_skipBlanks 21 = .ok (.baload, 1) := dk_51 (by decide +kernel)
theorem dX9_skipBlanks_22 : decode cX9_skipBlanks 22 = .ok (.istore_n 2, 1) := dk_61 (by decide +kernel)
theorem dX9_skipBlanks_23 : decode cX9_skipBlanks 23 = .ok (.iload_n 2, 1) := dk_28 (by decide +kernel)
theorem dX9_skipBlanks_24 : decode cX9_skipBlanks 24 = .ok (.bipush 10, 2) := dk_16 (by decide +kernel)
theorem dX9_skipBlanks_26 : decode cX9_skipBlanks 26 = .ok (.if_icmp .ne 8, 3) := dk_160 (by decide +kernel)
theorem dX9_skipBlanks_29 : decode cX9_skipBlanks 29 = .ok (.iconst 0, 1) := dk_3 (by decide +kernel)
theorem dX9_skipBlanks_30 : decode cX9_skipBlanks 30 = .ok (.istore_n 1, 1) := dk_60 (by decide +kernel)
theorem dX9_skipBlanks_31 : decode cX9_skipBlanks 31 = .ok (.goto 37, 3) := dk_167 (by decide +kernel)
theorem dX9_skipBlanks_34 : decode cX9_skipBlanks 34 = .ok (.iload_n 2, 1) := dk_28 (by decide +kernel)
theorem dX9_skipBlanks_35 : decode cX9_skipBlanks 35 = .ok (.bipush 35, 2) := dk_16 (by decide +kernel)
theorem dX9_skipBlanks_37 : decode cX9_skipBlanks 37 = .ok (.if_icmp .ne 8, 3) := dk_160 (by decide +kernel)
theorem dX9_skipBlanks_40 : decode cX9_skipBlanks 40 = .ok (.iconst 1, 1) := dk_4 (by decide +kernel)
theorem dX9_skipBlanks_41 : decode cX9_skipBlanks 41 = .ok (.istore_n 1, 1) := dk_60 (by decide +kernel)
theorem dX9_skipBlanks_42 : decode cX9_skipBlanks 42 = .ok (.goto 26, 3) := dk_167 (by decide +kernel)
theorem dX9_skipBlanks_45 : decode cX9_skipBlanks 45 = .ok (.iload_n 1, 1) := dk_27 (by decide +kernel)
theorem dX9_skipBlanks_46 : decode cX9_skipBlanks 46 = .ok (.ifCond .ne 22, 3) := dk_154 (by decide +kernel)
theorem dX9_skipBlanks_49 : decode cX9_skipBlanks 49 = .ok (.iload_n 2, 1) := dk_28 (by decide +kernel)
theorem dX9_skipBlanks_50 : decode cX9_skipBlanks 50 = .ok (.bipush 9, 2) := dk_16 (by decide +kernel)
theorem dX9_skipBlanks_52 : decode cX9_skipBlanks 52 = .ok (.if_icmp .eq 16, 3) := dk_159 (by decide +kernel)
theorem dX9_skipBlanks_55 : decode cX9_skipBlanks 55 = .ok (.iload_n 2, 1) := dk_28 (by decide +kernel)
theorem dX9_skipBlanks_56 : decode cX9_skipBlanks 56 = .ok (.bipush 13, 2) := dk_16 (by decide +kernel)
theorem dX9_skipBlanks_58 : decode cX9_skipBlanks 58 = .ok (.if_icmp .eq 10, 3) := dk_159 (by decide +kernel)
theorem dX9_skipBlanks_61 : decode cX9_skipBlanks 61 = .ok (.iload_n 2, 1) := dk_28 (by decide +kernel)
theorem dX9_skipBlanks_62 : decode cX9_skipBlanks 62 = .ok (.bipush 32, 2) := dk_16 (by decide +kernel)
theorem dX9_skipBlanks_64 : decode cX9_skipBlanks 64 = .ok (.if_icmp .eq 4, 3) := dk_159 (by decide +kernel)
theorem dX9_skipBlanks_67 : decode cX9_skipBlanks 67 = .ok (.return_, 1) := dk_177 (by decide +kernel)
theorem dX9_skipBlanks_68 : decode cX9_skipBlanks 68 = .ok (.aload_n 0, 1) := dk_42 (by decide +kernel)
theorem dX9_skipBlanks_69 : decode cX9_skipBlanks 69 = .ok (.dup, 1) := dk_89 (by decide +kernel)
theorem dX9_skipBlanks_70 : decode cX9_skipBlanks 70 = .ok (.getfield 40, 3) := dk_180 (by decide +kernel)
theorem dX9_skipBlanks_73 : decode cX9_skipBlanks 73 = .ok (.iconst 1, 1) := dk_4 (by decide +kernel)
theorem dX9_skipBlanks_74 : decode cX9_skipBlanks 74 = .ok (.iadd, 1) := dk_96 (by decide +kernel)
theorem dX9_skipBlanks_75 : decode cX9_skipBlanks 75 = .ok (.putfield 40, 3) := dk_181 (by decide +kernel)
theorem dX9_skipBlanks_78 : decode cX9_skipBlanks 78 = .ok (.goto (-76), 3) := dk_167 (by decide +kernel)
theorem dX9_skipBlanks_81 : decode cX9_skipBlanks 81 = .ok (.return_, 1) := dk_177 (by decide +kernel)
def wsMX9_skipBlanks : List Cond := .code yX9_skipBlanks cX9_skipBlanks 3 none :: ([.fieldLink RX9 40 "OptimaWorks$Words" "next" "I", .fieldLink RX9 19 "OptimaWorks$Words" "length" "I", .fieldLink RX9 9 "OptimaWorks$Words" "tape" "[B"] ++ wsX90)
theorem iwsMX9_skipBlanks_in9 : ∀ w ∈ wsX90, w ∈ wsMX9_skipBlanks := fun _ h => List.mem_cons_of_mem _ (List.mem_append_right _ h)
theorem gdwsMX9_skipBlanks : wsMX9_skipBlanks.all goodWord = true := gdC rfl (gdA (by decide +kernel : ([.fieldLink RX9 40 "OptimaWorks$Words" "next" "I", .fieldLink RX9 19 "OptimaWorks$Words" "length" "I", .fieldLink RX9 9 "OptimaWorks$Words" "tape" "[B"] : List Cond).all goodWord = true) gdwsX90)
set_option maxHeartbeats 4000000 in
set_option maxRecDepth 100000 in
/-- blanks -/
theorem m_X9_skipBlanks (l : Launch) (dC : Nat → ClassId) (dI : Nat → Nat → Nat) (hT : Nat → Nat) (aT : Nat → Nat) (kT : Nat → ClassId) (fT_tape : Nat → Int32) (dT_tape : Nat) (nT_tape : Nat) (iT_length : Int32) (iT_fault : Int32) (iT_place : Int32) (iT_kind : Int32) (iT_at : Int32) (iT_number : Int32) (jT_name : Int64) (iT_next : Int32) (b_fT_tape : ∀ q : Nat, (-128) ≤ (fT_tape q).toInt ∧ (fT_tape q).toInt ≤ 127) (b_nT_tape : 64 ≤ nT_tape ∧ nT_tape ≤ 2560) (b_iT_length : 0 ≤ iT_length.toInt ∧ iT_length.toInt ≤ 1280) (b_iT_at : 0 ≤ iT_at.toInt ∧ iT_at.toInt ≤ 1282) (b_iT_number : 0 ≤ iT_number.toInt ∧ iT_number.toInt ≤ 999999) (b_iT_next : 0 ≤ iT_next.toInt ∧ iT_next.toInt ≤ 1282) (b_len : iT_length.toInt ≤ ((nT_tape : Nat) : Int)) (hnl : iT_next.toInt ≤ iT_length.toInt) (sz : Nat) : Met l yX9_skipBlanks wsMX9_skipBlanks ({ frames := 0, cells := 0, slots := 0, locals := 0 }) (va_Pc [.ref (hT 0)] (fun U => U.heap.size = sz ∧ va_P (dC, dI) vwCl (WT hT aT kT fT_tape dT_tape nT_tape iT_length iT_fault iT_place iT_kind iT_at iT_number jT_name iT_next) U.heap ∧ va_K (dC, dI) vwCl (tT kT) U ∧ va_D (fun _ => True) (WT hT aT kT fT_tape dT_tape nT_tape iT_length iT_fault iT_place iT_kind iT_at iT_number jT_name iT_next))) (va_Qv (fun (u : Int32) => (0 ≤ u.toInt ∧ u.toInt ≤ 1282) ∧ (u.toInt ≤ iT_length.toInt) ∧ (iT_next.toInt ≤ u.toInt)) (fun (u : Int32) t => va_P (dC, dI) vwCl (WT hT aT kT fT_tape dT_tape nT_tape iT_length iT_fault iT_place iT_kind iT_at iT_number jT_name u) t.heap ∧ va_D (va_A (WT hT aT kT fT_tape dT_tape nT_tape iT_length iT_fault iT_place iT_kind iT_at iT_number jT_name iT_next) sz) (WT hT aT kT fT_tape dT_tape nT_tape iT_length iT_fault iT_place iT_kind iT_at iT_number jT_name u)) (va_A (WT hT aT kT fT_tape dT_tape nT_tape iT_length iT_fault iT_place iT_kind iT_at iT_number jT_name iT_next) sz)) 0 0 (va_A (WT hT aT kT fT_tape dT_tape nT_tape iT_length iT_fault iT_place iT_kind iT_at iT_number jT_name iT_next) sz) := by
  refine Met.ofW (cc := cX9_skipBlanks) (maxL := 3) (ret := none) (by decide) rfl ?_
  intro p e s m args below meth c s₁ B hml hv
  obtain ⟨rfl, hsz, hP, hK, hD0⟩ := hv
  have hx := B.exec
  have hb := B.bytes
  have hr := B.returns
  have hts := atoms_spec (ws := wsMX9_skipBlanks) B.pre
  have hown : s.vm.findClass RX9 = some m.cls := findClass_of_methodNamed B.named
  have hlocks := B.notSynchronized
  subst hsz
  have hD := hD0.self (sz := s.heap.size)
  generalize hAe : va_A (WT hT aT kT fT_tape dT_tape nT_tape iT_length iT_fault iT_place iT_kind iT_at iT_number jT_name iT_next) s.heap.size = A at hD ⊢
  have hA : ∀ q : Nat, s.heap.size ≤ q → A q := fun q h => by rw [← hAe]; exact Or.inr h
  have hS : va_S A s.heap s.heap [] := va_S.rf
  have hl := lv_entry ([.ref (hT 0)]) (n := 3) (Nat.le_of_ble_eq_true rfl)
  rw [lg_entry_eq]
  generalize (lg_sl ([.ref (hT 0)]) ++ List.replicate (3 - (lg_sl ([.ref (hT 0)])).length) Slot.unset).toArray = ls at hl ⊢
  have hl : lv_has ls 3 [(0, .ref (hT 0))] := hl
  refine lv_iconst (v := 0) hx hb dX9_skipBlanks_0 (by decide) ?_
  refine lv_istore_n hx hb dX9_skipBlanks_1 rfl hl (by decide) rfl (fun ls (hl : lv_has ls _ ([(1, .int 0), (0, .ref (hT 0))])) => ?_)
  have hl : lv_has _ _ ([(1, .int 0), (0, .ref (hT 0))]) := lv_sub hl [0, 1] rfl
  refine (fun (loop : ∀ (n9 : Nat) (iT_next_x2 : Int32) (l1_x2 : Int32) (H : Heap) (locs : List Loc) (ls : Array Slot), (0 ≤ iT_next_x2.toInt ∧ iT_next_x2.toInt ≤ 1282) → (0 ≤ l1_x2.toInt ∧ l1_x2.toInt ≤ 1) → (iT_next_x2.toInt ≤ iT_length.toInt) → (iT_next.toInt ≤ iT_next_x2.toInt) → (1282 - iT_next_x2.toInt < ((n9 : Nat) : Int)) → va_P (dC, dI) vwCl (WT hT aT kT fT_tape dT_tape nT_tape iT_length iT_fault iT_place iT_kind iT_at iT_number jT_name iT_next_x2) H → va_D A (WT hT aT kT fT_tape dT_tape nT_tape iT_length iT_fault iT_place iT_kind iT_at iT_number jT_name iT_next_x2) → va_S A s.heap H locs → lv_has ls 3 [(1, .int l1_x2), (0, .ref (hT 0))] → W p l e _ s m _ below meth c H locs 0 0 _ (F0 m 2 ls [])) => loop (1283) iT_next 0 _ _ _ (b_iT_next) (show 0 ≤ (0 : Int32).toInt ∧ (0 : Int32).toInt ≤ 1 from by decide) (show iT_next.toInt ≤ iT_length.toInt from by omega) (show iT_next.toInt ≤ iT_next.toInt from by omega) ((by have e9 : (iT_next).toInt = iT_next.toInt := rfl; omega)) hP hD hS hl) ?_
  intro n9
  induction n9 with
  | zero => intro iT_next_x2 l1_x2 H locs ls b_iT_next_x2 b_l1_x2 hnk hmo hf9; exact False.elim (by omega)
  | succ n9 ihx2 =>
    intro iT_next_x2 l1_x2 H locs ls b_iT_next_x2 b_l1_x2 hnk hmo hfx2 hP hD hS hl
    refine lv_aload_n hx hb dX9_skipBlanks_2 rfl (lv_at hl 1 rfl) ?_
    refine va_get (D := (dC, dI)) (ci := 9) (v := .int iT_next_x2) (C := RX9) (T := TX9) (N := 9) hx hb hts iwsMX9_skipBlanks_in9 hown hK hP 0 rfl rfl 8 (by decide) (hts (.fieldLink RX9 40 "OptimaWorks$Words" "next" "I") (by decide +kernel)) (fun _ h9 => h9) rfl dX9_skipBlanks_3 ?_
    refine lv_aload_n hx hb dX9_skipBlanks_6 rfl (lv_at hl 1 rfl) ?_
    refine va_get (D := (dC, dI)) (ci := 9) (v := .int iT_length) (C := RX9) (T := TX9) (N := 9) hx hb hts iwsMX9_skipBlanks_in9 hown hK hP 0 rfl rfl 1 (by decide) (hts (.fieldLink RX9 19 "OptimaWorks$Words" "length" "I") (by decide +kernel)) (fun _ h9 => h9) rfl dX9_skipBlanks_7 ?_
    refine lv_icmp_ge (tgt := 81) hx hb dX9_skipBlanks_10 (by decide) (fun c_10 => ?_) (fun c_10 => ?_)
    · have t_10 : iT_next_x2.toInt ≥ iT_length.toInt := toI_ge c_10 rfl rfl
      refine W.widen (k := 0) (n := 0) (by decide +kernel) (by decide +kernel) ?_
      exact W.vret hx hb hr (fun t9_ ht hW => ⟨⟨iT_next_x2, rfl, ⟨(by (try dsimp only); exact (b_iT_next_x2)), (by (try dsimp only); exact (hnk)), (by (try dsimp only); exact (hmo))⟩, by rw [ht]; exact hP, hD⟩, hS.F ht⟩) hS.2.2 dX9_skipBlanks_81
    · have t_10 : ¬ iT_next_x2.toInt ≥ iT_length.toInt := toI_nge c_10 rfl rfl
      refine lv_aload_n hx hb dX9_skipBlanks_13 rfl (lv_at hl 1 rfl) ?_
      refine va_get (D := (dC, dI)) (ci := 9) (v := .ref dT_tape) (C := RX9) (T := TX9) (N := 9) hx hb hts iwsMX9_skipBlanks_in9 hown hK hP 0 rfl rfl 0 (by decide) (hts (.fieldLink RX9 9 "OptimaWorks$Words" "tape" "[B") (by decide +kernel)) (fun _ h9 => h9) rfl dX9_skipBlanks_14 ?_
      refine lv_aload_n hx hb dX9_skipBlanks_17 rfl (lv_at hl 1 rfl) ?_
      refine va_get (D := (dC, dI)) (ci := 9) (v := .int iT_next_x2) (C := RX9) (T := TX9) (N := 9) hx hb hts iwsMX9_skipBlanks_in9 hown hK hP 0 rfl rfl 8 (by decide) (hts (.fieldLink RX9 40 "OptimaWorks$Words" "next" "I") (by decide +kernel)) (fun _ h9 => h9) rfl dX9_skipBlanks_18 ?_
      refine va_bald (cA := kT 0) (n := nT_tape) (f := fT_tape) hx hb hK hP 1 0 rfl rfl (vp_in_iff.mpr ⟨b_iT_next_x2.1, (by omega)⟩) dX9_skipBlanks_21 ?_
      refine lv_topi (fun v14 hv14 => ?_)
      have b_v14 : (-128) ≤ v14.toInt ∧ v14.toInt ≤ 127 := by rw [hv14]; exact b_fT_tape _
      clear hv14
      refine lv_istore_n hx hb dX9_skipBlanks_22 rfl hl (by decide) rfl (fun ls (hl : lv_has ls _ ([(2, .int v14), (1, .int l1_x2), (0, .ref (hT 0))])) => ?_)
      refine lv_iload_n hx hb dX9_skipBlanks_23 rfl (lv_at hl 0 rfl) ?_
      refine lv_bipush (v := 10) hx hb dX9_skipBlanks_24 (by decide) ?_
      refine lv_icmp_ne (tgt := 34) hx hb dX9_skipBlanks_26 (by decide) (fun c_26 => ?_) (fun c_26 => ?_)
      · have t_26 : v14.toInt ≠ 10 := toI_ne c_26 rfl (by decide : (10 : Int32).toInt = 10)
        refine lv_iload_n hx hb dX9_skipBlanks_34 rfl (lv_at hl 0 rfl) ?_
        refine lv_bipush (v := 35) hx hb dX9_skipBlanks_35 (by decide) ?_
        refine lv_icmp_ne (tgt := 45) hx hb dX9_skipBlanks_37 (by decide) (fun c_37 => ?_) (fun c_37 => ?_)
        · have t_37 : v14.toInt ≠ 35 := toI_ne c_37 rfl (by decide : (35 : Int32).toInt = 35)
          refine lv_iload_n hx hb dX9_skipBlanks_45 rfl (lv_at hl 1 rfl) ?_
          refine lv_if_ne (tgt := 68) hx hb dX9_skipBlanks_46 (by decide) (fun c_46 => ?_) (fun c_46 => ?_)
          · have t_46 : l1_x2.toInt ≠ 0 := toI_ne c_46 rfl (by decide : (0 : Int32).toInt = 0)
            refine lv_aload_n hx hb dX9_skipBlanks_68 rfl (lv_at hl 2 rfl) ?_
            refine lv_dup hx hb dX9_skipBlanks_69 rfl ?_
            refine va_get (D := (dC, dI)) (ci := 9) (v := .int iT_next_x2) (C := RX9) (T := TX9) (N := 9) hx hb hts iwsMX9_skipBlanks_in9 hown hK hP 0 rfl rfl 8 (by decide) (hts (.fieldLink RX9 40 "OptimaWorks$Words" "next" "I") (by decide +kernel)) (fun _ h9 => h9) rfl dX9_skipBlanks_70 ?_
            refine lv_iconst (v := 1) hx hb dX9_skipBlanks_73 (by decide) ?_
            refine lv_iadd hx hb dX9_skipBlanks_74 ?_
            refine lv_topi (fun y15 hy15 => ?_)
            obtain rfl : (iI (iT_next_x2.toInt + 1)) = y15 := (hy15.trans (iI_add2 (iI_of _) (by decide : (1 : Int32) = iI 1))).symm
            refine va_put (D := (dC, dI)) (ci := 9) (v := .int (iI (iT_next_x2.toInt + 1))) (ty := .int) (C := RX9) (T := TX9) (N := 9) hx hb hts iwsMX9_skipBlanks_in9 tyX9 tyX9_ok nmX9 hown hK hP hD hS 0 rfl rfl 8 (by decide) (hts (.fieldLink RX9 40 "OptimaWorks$Words" "next" "I") (by decide +kernel)) (fun _ h9 => h9) rfl (by decide +kernel) rfl rfl (Nat.le_of_ble_eq_true rfl) dX9_skipBlanks_75 (fun H locs hP hD hS => ?_)
            have hP : va_P (dC, dI) vwCl (WT hT aT kT fT_tape dT_tape nT_tape iT_length iT_fault iT_place iT_kind iT_at iT_number jT_name (iI (iT_next_x2.toInt + 1))) H := hP
            have hD : va_D A (WT hT aT kT fT_tape dT_tape nT_tape iT_length iT_fault iT_place iT_kind iT_at iT_number jT_name (iI (iT_next_x2.toInt + 1))) := hD
            refine lv_goto (tgt := 2) hx hb dX9_skipBlanks_78 (by decide) ?_
            have hl : lv_has _ _ ([(1, .int l1_x2), (0, .ref (hT 0))]) := lv_sub hl [1, 2] rfl
            exact ihx2 (iI (iT_next_x2.toInt + 1)) l1_x2 _ _ _ (iI_rng (Int.le_trans (by decide) (Int.add_le_add (b_iT_next_x2.1) (Int.le_refl _))) (by omega) (by decide) (by decide)) (b_l1_x2) (show (iI (iT_next_x2.toInt + 1)).toInt ≤ iT_length.toInt from by (try rw [iI_t (by omega) (by omega)]); omega) (show iT_next.toInt ≤ (iI (iT_next_x2.toInt + 1)).toInt from by (try rw [iI_t (by omega) (by omega)]); omega) (by have e9 : ((iI (iT_next_x2.toInt + 1))).toInt = (iT_next_x2.toInt + 1) := (iI_t (Int.le_trans (by decide) (Int.add_le_add (b_iT_next_x2.1) (Int.le_refl _))) (Int.le_trans (Int.add_le_add (b_iT_next_x2.2) (Int.le_refl _)) (by decide))); omega) hP hD hS hl
          · have t_46 : l1_x2.toInt = 0 := toI_nne c_46 rfl (by decide : (0 : Int32).toInt = 0)
            refine lv_iload_n hx hb dX9_skipBlanks_49 rfl (lv_at hl 0 rfl) ?_
            refine lv_bipush (v := 9) hx hb dX9_skipBlanks_50 (by decide) ?_
            refine lv_icmp_eq (tgt := 68) hx hb dX9_skipBlanks_52 (by decide) (fun c_52 => ?_) (fun c_52 => ?_)
            · have t_52 : v14.toInt = 9 := toI_eq c_52 rfl (by decide : (9 : Int32).toInt = 9)
              refine lv_aload_n hx hb dX9_skipBlanks_68 rfl (lv_at hl 2 rfl) ?_
              refine lv_dup hx hb dX9_skipBlanks_69 rfl ?_
              refine va_get (D := (dC, dI)) (ci := 9) (v := .int iT_next_x2) (C := RX9) (T := TX9) (N := 9) hx hb hts iwsMX9_skipBlanks_in9 hown hK hP 0 rfl rfl 8 (by decide) (hts (.fieldLink RX9 40 "OptimaWorks$Words" "next" "I") (by decide +kernel)) (fun _ h9 => h9) rfl dX9_skipBlanks_70 ?_
              refine lv_iconst (v := 1) hx hb dX9_skipBlanks_73 (by decide) ?_
              refine lv_iadd hx hb dX9_skipBlanks_74 ?_
              refine lv_topi (fun y16 hy16 => ?_)
              obtain rfl : (iI (iT_next_x2.toInt + 1)) = y16 := (hy16.trans (iI_add2 (iI_of _) (by decide : (1 : Int32) = iI 1))).symm
              refine va_put (D := (dC, dI)) (ci := 9) (v := .int (iI (iT_next_x2.toInt + 1))) (ty := .int) (C := RX9) (T := TX9) (N := 9) hx hb hts iwsMX9_skipBlanks_in9 tyX9 tyX9_ok nmX9 hown hK hP hD hS 0 rfl rfl 8 (by decide) (hts (.fieldLink RX9 40 "OptimaWorks$Words" "next" "I") (by decide +kernel)) (fun _ h9 => h9) rfl (by decide +kernel) rfl rfl (Nat.le_of_ble_eq_true rfl) dX9_skipBlanks_75 (fun H locs hP hD hS => ?_)
              have hP : va_P (dC, dI) vwCl (WT hT aT kT fT_tape dT_tape nT_tape iT_length iT_fault iT_place iT_kind iT_at iT_number jT_name (iI (iT_next_x2.toInt + 1))) H := hP
              have hD : va_D A (WT hT aT kT fT_tape dT_tape nT_tape iT_length iT_fault iT_place iT_kind iT_at iT_number jT_name (iI (iT_next_x2.toInt + 1))) := hD
              refine lv_goto (tgt := 2) hx hb dX9_skipBlanks_78 (by decide) ?_
              have hl : lv_has _ _ ([(1, .int l1_x2), (0, .ref (hT 0))]) := lv_sub hl [1, 2] rfl
              exact ihx2 (iI (iT_next_x2.toInt + 1)) l1_x2 _ _ _ (iI_rng (Int.le_trans (by decide) (Int.add_le_add (b_iT_next_x2.1) (Int.le_refl _))) (by omega) (by decide) (by decide)) (b_l1_x2) (show (iI (iT_next_x2.toInt + 1)).toInt ≤ iT_length.toInt from by (try rw [iI_t (by omega) (by omega)]); omega) (show iT_next.toInt ≤ (iI (iT_next_x2.toInt + 1)).toInt from by (try rw [iI_t (by omega) (by omega)]); omega) (by have e9 : ((iI (iT_next_x2.toInt + 1))).toInt = (iT_next_x2.toInt + 1) := (iI_t (Int.le_trans (by decide) (Int.add_le_add (b_iT_next_x2.1) (Int.le_refl _))) (Int.le_trans (Int.add_le_add (b_iT_next_x2.2) (Int.le_refl _)) (by decide))); omega) hP hD hS hl
            · have t_52 : ¬ v14.toInt = 9 := toI_neq c_52 rfl (by decide : (9 : Int32).toInt = 9)
              refine lv_iload_n hx hb dX9_skipBlanks_55 rfl (lv_at hl 0 rfl) ?_
              refine lv_bipush (v := 13) hx hb dX9_skipBlanks_56 (by decide) ?_
              refine lv_icmp_eq (tgt := 68) hx hb dX9_skipBlanks_58 (by decide) (fun c_58 => ?_) (fun c_58 => ?_)
              · have t_58 : v14.toInt = 13 := toI_eq c_58 rfl (by decide : (13 : Int32).toInt = 13)
                refine lv_aload_n hx hb dX9_skipBlanks_68 rfl (lv_at hl 2 rfl) ?_
                refine lv_dup hx hb dX9_skipBlanks_69 rfl ?_
                refine va_get (D := (dC, dI)) (ci := 9) (v := .int iT_next_x2) (C := RX9) (T := TX9) (N := 9) hx hb hts iwsMX9_skipBlanks_in9 hown hK hP 0 rfl rfl 8 (by decide) (hts (.fieldLink RX9 40 "OptimaWorks$Words" "next" "I") (by decide +kernel)) (fun _ h9 => h9) rfl dX9_skipBlanks_70 ?_
                refine lv_iconst (v := 1) hx hb dX9_skipBlanks_73 (by decide) ?_
                refine lv_iadd hx hb dX9_skipBlanks_74 ?_
                refine lv_topi (fun y17 hy17 => ?_)
                obtain rfl : (iI (iT_next_x2.toInt + 1)) = y17 := (hy17.trans (iI_add2 (iI_of _) (by decide : (1 : Int32) = iI 1))).symm
                refine va_put (D := (dC, dI)) (ci := 9) (v := .int (iI (iT_next_x2.toInt + 1))) (ty := .int) (C := RX9) (T := TX9) (N := 9) hx hb hts iwsMX9_skipBlanks_in9 tyX9 tyX9_ok nmX9 hown hK hP hD hS 0 rfl rfl 8 (by decide) (hts (.fieldLink RX9 40 "OptimaWorks$Words" "next" "I") (by decide +kernel)) (fun _ h9 => h9) rfl (by decide +kernel) rfl rfl (Nat.le_of_ble_eq_true rfl) dX9_skipBlanks_75 (fun H locs hP hD hS => ?_)
                have hP : va_P (dC, dI) vwCl (WT hT aT kT fT_tape dT_tape nT_tape iT_length iT_fault iT_place iT_kind iT_at iT_number jT_name (iI (iT_next_x2.toInt + 1))) H := hP
                have hD : va_D A (WT hT aT kT fT_tape dT_tape nT_tape iT_length iT_fault iT_place iT_kind iT_at iT_number jT_name (iI (iT_next_x2.toInt + 1))) := hD
                refine lv_goto (tgt := 2) hx hb dX9_skipBlanks_78 (by decide) ?_
                have hl : lv_has _ _ ([(1, .int l1_x2), (0, .ref (hT 0))]) := lv_sub hl [1, 2] rfl
                exact ihx2 (iI (iT_next_x2.toInt + 1)) l1_x2 _ _ _ (iI_rng (Int.le_trans (by decide) (Int.add_le_add (b_iT_next_x2.1) (Int.le_refl _))) (by omega) (by decide) (by decide)) (b_l1_x2) (show (iI (iT_next_x2.toInt + 1)).toInt ≤ iT_length.toInt from by (try rw [iI_t (by omega) (by omega)]); omega) (show iT_next.toInt ≤ (iI (iT_next_x2.toInt + 1)).toInt from by (try rw [iI_t (by omega) (by omega)]); omega) (by have e9 : ((iI (iT_next_x2.toInt + 1))).toInt = (iT_next_x2.toInt + 1) := (iI_t (Int.le_trans (by decide) (Int.add_le_add (b_iT_next_x2.1) (Int.le_refl _))) (Int.le_trans (Int.add_le_add (b_iT_next_x2.2) (Int.le_refl _)) (by decide))); omega) hP hD hS hl
              · have t_58 : ¬ v14.toInt = 13 := toI_neq c_58 rfl (by decide : (13 : Int32).toInt = 13)
                refine lv_iload_n hx hb dX9_skipBlanks_61 rfl (lv_at hl 0 rfl) ?_
                refine lv_bipush (v := 32) hx hb dX9_skipBlanks_62 (by decide) ?_
                refine lv_icmp_eq (tgt := 68) hx hb dX9_skipBlanks_64 (by decide) (fun c_64 => ?_) (fun c_64 => ?_)
                · have t_64 : v14.toInt = 32 := toI_eq c_64 rfl (by decide : (32 : Int32).toInt = 32)
                  refine lv_aload_n hx hb dX9_skipBlanks_68 rfl (lv_at hl 2 rfl) ?_
                  refine lv_dup hx hb dX9_skipBlanks_69 rfl ?_
                  refine va_get (D := (dC, dI)) (ci := 9) (v := .int iT_next_x2) (C := RX9) (T := TX9) (N := 9) hx hb hts iwsMX9_skipBlanks_in9 hown hK hP 0 rfl rfl 8 (by decide) (hts (.fieldLink RX9 40 "OptimaWorks$Words" "next" "I") (by decide +kernel)) (fun _ h9 => h9) rfl dX9_skipBlanks_70 ?_
                  refine lv_iconst (v := 1) hx hb dX9_skipBlanks_73 (by decide) ?_
                  refine lv_iadd hx hb dX9_skipBlanks_74 ?_
                  refine lv_topi (fun y18 hy18 => ?_)
                  obtain rfl : (iI (iT_next_x2.toInt + 1)) = y18 := (hy18.trans (iI_add2 (iI_of _) (by decide : (1 : Int32) = iI 1))).symm
                  refine va_put (D := (dC, dI)) (ci := 9) (v := .int (iI (iT_next_x2.toInt + 1))) (ty := .int) (C := RX9) (T := TX9) (N := 9) hx hb hts iwsMX9_skipBlanks_in9 tyX9 tyX9_ok nmX9 hown hK hP hD hS 0 rfl rfl 8 (by decide) (hts (.fieldLink RX9 40 "OptimaWorks$Words" "next" "I") (by decide +kernel)) (fun _ h9 => h9) rfl (by decide +kernel) rfl rfl (Nat.le_of_ble_eq_true rfl) dX9_skipBlanks_75 (fun H locs hP hD hS => ?_)
                  have hP : va_P (dC, dI) vwCl (WT hT aT kT fT_tape dT_tape nT_tape iT_length iT_fault iT_place iT_kind iT_at iT_number jT_name (iI (iT_next_x2.toInt + 1))) H := hP
                  have hD : va_D A (WT hT aT kT fT_tape dT_tape nT_tape iT_length iT_fault iT_place iT_kind iT_at iT_number jT_name (iI (iT_next_x2.toInt + 1))) := hD
                  refine lv_goto (tgt := 2) hx hb dX9_skipBlanks_78 (by decide) ?_
                  have hl : lv_has _ _ ([(1, .int l1_x2), (0, .ref (hT 0))]) := lv_sub hl [1, 2] rfl
                  exact ihx2 (iI (iT_next_x2.toInt + 1)) l1_x2 _ _ _ (iI_rng (Int.le_trans (by decide) (Int.add_le_add (b_iT_next_x2.1) (Int.le_refl _))) (by omega) (by decide) (by decide)) (b_l1_x2) (show (iI (iT_next_x2.toInt + 1)).toInt ≤ iT_length.toInt from by (try rw [iI_t (by omega) (by omega)]); omega) (show iT_next.toInt ≤ (iI (iT_next_x2.toInt + 1)).toInt from by (try rw [iI_t (by omega) (by omega)]); omega) (by have e9 : ((iI (iT_next_x2.toInt + 1))).toInt = (iT_next_x2.toInt + 1) := (iI_t (Int.le_trans (by decide) (Int.add_le_add (b_iT_next_x2.1) (Int.le_refl _))) (Int.le_trans (Int.add_le_add (b_iT_next_x2.2) (Int.le_refl _)) (by decide))); omega) hP hD hS hl
                · have t_64 : ¬ v14.toInt = 32 := toI_neq c_64 rfl (by decide : (32 : Int32).toInt = 32)
                  refine W.widen (k := 0) (n := 0) (by decide +kernel) (by decide +kernel) ?_
                  exact W.vret hx hb hr (fun t9_ ht hW => ⟨⟨iT_next_x2, rfl, ⟨(by (try dsimp only); exact (b_iT_next_x2)), (by (try dsimp only); exact (hnk)), (by (try dsimp only); exact (hmo))⟩, by rw [ht]; exact hP, hD⟩, hS.F ht⟩) hS.2.2 dX9_skipBlanks_67
        · have t_37 : v14.toInt = 35 := toI_nne c_37 rfl (by decide : (35 : Int32).toInt = 35)
          refine lv_iconst (v := 1) hx hb dX9_skipBlanks_40 (by decide) ?_
          refine lv_istore_n hx hb dX9_skipBlanks_41 rfl hl (by decide) rfl (fun ls (hl : lv_has ls _ ([(1, .int 1), (2, .int v14), (0, .ref (hT 0))])) => ?_)
          refine lv_goto (tgt := 68) hx hb dX9_skipBlanks_42 (by decide) ?_
          refine lv_aload_n hx hb dX9_skipBlanks_68 rfl (lv_at hl 2 rfl) ?_
          refine lv_dup hx hb dX9_skipBlanks_69 rfl ?_
          refine va_get (D := (dC, dI)) (ci := 9) (v := .int iT_next_x2) (C := RX9) (T := TX9) (N := 9) hx hb hts iwsMX9_skipBlanks_in9 hown hK hP 0 rfl rfl 8 (by decide) (hts (.fieldLink RX9 40 "OptimaWorks$Words" "next" "I") (by decide +kernel)) (fun _ h9 => h9) rfl dX9_skipBlanks_70 ?_
          refine lv_iconst (v := 1) hx hb dX9_skipBlanks_73 (by decide) ?_
          refine lv_iadd hx hb dX9_skipBlanks_74 ?_
          refine lv_topi (fun y19 hy19 => ?_)
          obtain rfl : (iI (iT_next_x2.toInt + 1)) = y19 := (hy19.trans (iI_add2 (iI_of _) (by decide : (1 : Int32) = iI 1))).symm
          refine va_put (D := (dC, dI)) (ci := 9) (v := .int (iI (iT_next_x2.toInt + 1))) (ty := .int) (C := RX9) (T := TX9) (N := 9) hx hb hts iwsMX9_skipBlanks_in9 tyX9 tyX9_ok nmX9 hown hK hP hD hS 0 rfl rfl 8 (by decide) (hts (.fieldLink RX9 40 "OptimaWorks$Words" "next" "I") (by decide +kernel)) (fun _ h9 => h9) rfl (by decide +kernel) rfl rfl (Nat.le_of_ble_eq_true rfl) dX9_skipBlanks_75 (fun H locs hP hD hS => ?_)
          have hP : va_P (dC, dI) vwCl (WT hT aT kT fT_tape dT_tape nT_tape iT_length iT_fault iT_place iT_kind iT_at iT_number jT_name (iI (iT_next_x2.toInt + 1))) H := hP
          have hD : va_D A (WT hT aT kT fT_tape dT_tape nT_tape iT_length iT_fault iT_place iT_kind iT_at iT_number jT_name (iI (iT_next_x2.toInt + 1))) := hD
          refine lv_goto (tgt := 2) hx hb dX9_skipBlanks_78 (by decide) ?_
          have hl : lv_has _ _ ([(1, .int 1), (0, .ref (hT 0))]) := lv_sub hl [0, 2] rfl
          exact ihx2 (iI (iT_next_x2.toInt + 1)) 1 _ _ _ (iI_rng (Int.le_trans (by decide) (Int.add_le_add (b_iT_next_x2.1) (Int.le_refl _))) (by omega) (by decide) (by decide)) (show 0 ≤ (1 : Int32).toInt ∧ (1 : Int32).toInt ≤ 1 from by decide) (show (iI (iT_next_x2.toInt + 1)).toInt ≤ iT_length.toInt from by (try rw [iI_t (by omega) (by omega)]); omega) (show iT_next.toInt ≤ (iI (iT_next_x2.toInt + 1)).toInt from by (try rw [iI_t (by omega) (by omega)]); omega) (by have e9 : ((iI (iT_next_x2.toInt + 1))).toInt = (iT_next_x2.toInt + 1) := (iI_t (Int.le_trans (by decide) (Int.add_le_add (b_iT_next_x2.1) (Int.le_refl _))) (Int.le_trans (Int.add_le_add (b_iT_next_x2.2) (Int.le_refl _)) (by decide))); omega) hP hD hS hl
      · have t_26 : v14.toInt = 10 := toI_nne c_26 rfl (by decide : (10 : Int32).toInt = 10)
        refine lv_iconst (v := 0) hx hb dX9_skipBlanks_29 (by decide) ?_
        refine lv_istore_n hx hb dX9_skipBlanks_30 rfl hl (by decide) rfl (fun ls (hl : lv_has ls _ ([(1, .int 0), (2, .int v14), (0, .ref (hT 0))])) => ?_)
        refine lv_goto (tgt := 68) hx hb dX9_skipBlanks_31 (by decide) ?_
        refine lv_aload_n hx hb dX9_skipBlanks_68 rfl (lv_at hl 2 rfl) ?_
        refine lv_dup hx hb dX9_skipBlanks_69 rfl ?_
        refine va_get (D := (dC, dI)) (ci := 9) (v := .int iT_next_x2) (C := RX9) (T := TX9) (N := 9) hx hb hts iwsMX9_skipBlanks_in9 hown hK hP 0 rfl rfl 8 (by decide) (hts (.fieldLink RX9 40 "OptimaWorks$Words" "next" "I") (by decide +kernel)) (fun _ h9 => h9) rfl dX9_skipBlanks_70 ?_
        refine lv_iconst (v := 1) hx hb dX9_skipBlanks_73 (by decide) ?_
        refine lv_iadd hx hb dX9_skipBlanks_74 ?_
        refine lv_topi (fun y20 hy20 => ?_)
        obtain rfl : (iI (iT_next_x2.toInt + 1)) = y20 := (hy20.trans (iI_add2 (iI_of _) (by decide : (1 : Int32) = iI 1))).symm
        refine va_put (D := (dC, dI)) (ci := 9) (v := .int (iI (iT_next_x2.toInt + 1))) (ty := .int) (C := RX9) (T := TX9) (N := 9) hx hb hts iwsMX9_skipBlanks_in9 tyX9 tyX9_ok nmX9 hown hK hP hD hS 0 rfl rfl 8 (by decide) (hts (.fieldLink RX9 40 "OptimaWorks$Words" "next" "I") (by decide +kernel)) (fun _ h9 => h9) rfl (by decide +kernel) rfl rfl (Nat.le_of_ble_eq_true rfl) dX9_skipBlanks_75 (fun H locs hP hD hS => ?_)
        have hP : va_P (dC, dI) vwCl (WT hT aT kT fT_tape dT_tape nT_tape iT_length iT_fault iT_place iT_kind iT_at iT_number jT_name (iI (iT_next_x2.toInt + 1))) H := hP
        have hD : va_D A (WT hT aT kT fT_tape dT_tape nT_tape iT_length iT_fault iT_place iT_kind iT_at iT_number jT_name (iI (iT_next_x2.toInt + 1))) := hD
        refine lv_goto (tgt := 2) hx hb dX9_skipBlanks_78 (by decide) ?_
        have hl : lv_has _ _ ([(1, .int 0), (0, .ref (hT 0))]) := lv_sub hl [0, 2] rfl
        exact ihx2 (iI (iT_next_x2.toInt + 1)) 0 _ _ _ (iI_rng (Int.le_trans (by decide) (Int.add_le_add (b_iT_next_x2.1) (Int.le_refl _))) (by omega) (by decide) (by decide)) (show 0 ≤ (0 : Int32).toInt ∧ (0 : Int32).toInt ≤ 1 from by decide) (show (iI (iT_next_x2.toInt + 1)).toInt ≤ iT_length.toInt from by (try rw [iI_t (by omega) (by omega)]); omega) (show iT_next.toInt ≤ (iI (iT_next_x2.toInt + 1)).toInt from by (try rw [iI_t (by omega) (by omega)]); omega) (by have e9 : ((iI (iT_next_x2.toInt + 1))).toInt = (iT_next_x2.toInt + 1) := (iI_t (Int.le_trans (by decide) (Int.add_le_add (b_iT_next_x2.1) (Int.le_refl _))) (Int.le_trans (Int.add_le_add (b_iT_next_x2.2) (Int.le_refl _)) (by decide))); omega) hP hD hS hl
theorem dX9_takeName_0 : decode cX9_takeName 0 = .ok (.aload_n 0, 1) := dk_42 (by decide +kernel)
theorem dX9_takeName_1 : decode cX9_takeName 1 = .ok (.lconst 0, 1) := dk_9 (by decide +kernel)
theorem dX9_takeName_2 : decode cX9_takeName 2 = .ok (.putfield 66, 3) := dk_181 (by decide +kernel)
theorem dX9_takeName_5 : decode cX9_takeName 5 = .ok (.iconst 1, 1) := dk_4 (by decide +kernel)
theorem dX9_takeName_6 : decode cX9_takeName 6 = .ok (.istore_n 1, 1) := dk_60 (by decide +kernel)
theorem dX9_takeName_7 : decode cX9_takeName 7 = .ok (.aload_n 0, 1) := dk_42 (by decide +kernel)
theorem dX9_takeName_8 : decode cX9_takeName 8 = .ok (.getfield 40, 3) := dk_180 (by decide +kernel)
theorem dX9_takeName_11 : decode cX9_takeName 11 = .ok (.istore_n 2, 1) := dk_61 (by decide +kernel)
theorem dX9_takeName_12 : decode cX9_takeName 12 = .ok (.iload_n 2, 1) := dk_28 (by decide +kernel)
theorem dX9_takeName_13 : decode cX9_takeName 13 = .ok (.aload_n 0, 1) := dk_42 (by decide +kernel)
theorem dX9_takeName_14 : decode cX9_takeName 14 = .ok (.getfield 19, 3) := dk_180 (by decide +kernel)
theorem dX9_takeName_17 : decode cX9_takeName 17 = .ok (.if_icmp .ge 90, 3) := dk_162 (by decide +kernel)
theorem dX9_takeName_20 : decode cX9_takeName 20 = .ok (.iload_n 1, 1) := dk_27 (by decide +kernel)
theorem dX9_takeName_21 : decode cX9_takeName 21 = .ok (.ifCond .eq 86, 3) := dk_153 (by decide +kernel)
theorem dX9_takeName_24 : decode cX9_takeName 24 = .ok (.aload_n 0, 1) := dk_42 (by decide +kernel)
theorem dX9_takeName_25 : decode cX9_takeName 25 = .ok (.getfield 9, 3) := dk_180 (by decide +kernel)
theorem dX9_takeName_28 : decode cX9_takeName 28 = .ok (.iload_n 2, 1) := dk_28 (by decide +kernel)
theorem dX9_takeName_29 : decode cX9_takeName 29 = .ok (.baload, 1) := dk_51 (by decide +kernel)
theorem dX9_takeName_30 : decode cX9_takeName 30 = .ok (.istore_n 3, 1) := dk_62 (by decide +kernel)
theorem dX9_takeName_31 : decode cX9_takeName 31 = .ok (.iload_n 3, 1) := dk_29 (by decide +kernel)
theorem dX9_takeName_32 : decode cX9_takeName 32 = .ok (.bipush 97, 2) := dk_16 (by decide +kernel)
theorem dX9_takeName_34 : decode cX9_takeName 34 = .ok (.if_icmp .lt 9, 3) := dk_161 (by decide +kernel)
theorem dX9_takeName_37 : decode cX9_takeName 37 = .ok (.iload_n 3, 1) := dk_29 (by decide +kernel)
theorem dX9_takeName_38 : decode cX9_takeName 38 = .ok (.bipush 122, 2) := dk_16 (by decide +kernel)
theorem dX9_takeName_40 : decode cX9_takeName 40 = .ok (.if_icmp .le 27, 3) := dk_164 (by decide +kernel)
theorem dX9_takeName_43 : decode cX9_takeName 43 = .ok (.iload_n 3, 1) := dk_29 (by decide +kernel)
theorem dX9_takeName_44 : decode cX9_takeName 44 = .ok (.bipush 65, 2) := dk_16 (by decide +kernel)
theorem dX9_takeName_46 : decode cX9_takeName 46 = .ok (.if_icmp .lt 9, 3) := dk_161 (by decide +kernel)
theorem dX9_takeName_49 : decode cX9_takeName 49 = .ok (.iload_n 3, 1) := dk_29 (by decide +kernel)
theorem dX9_takeName_50 : decode cX9_takeName 50 = .ok (.bipush 90, 2) := dk_16 (by decide +kernel)
theorem dX9_takeName_52 : decode cX9_takeName 52 = .ok (.if_icmp .le 15, 3) := dk_164 (by decide +kernel)
theorem dX9_takeName_55 : decode cX9_takeName 55 = .ok (.iload_n 3, 1) := dk_29 (by decide +kernel)
theorem dX9_takeName_56 : decode cX9_takeName 56 = .ok (.bipush 48, 2) := dk_16 (by decide +kernel)
theorem dX9_takeName_58 : decode cX9_takeName 58 = .ok (.if_icmp .lt 13, 3) := dk_161 (by decide +kernel)
theorem dX9_takeName_61 : decode cX9_takeName 61 = .ok (.iload_n 3, 1) := dk_29 (by decide +kernel)
theorem dX9_takeName_62 : decode cX9_takeName 62 = .ok (.bipush 57, 2) := dk_16 (by decide +kernel)
theorem dX9_takeName_64 : decode cX9_takeName 64 = .ok (.if_icmp .gt 7, 3) := dk_163 (by decide +kernel)
theorem dX9_takeName_67 : decode cX9_takeName 67 = .ok (.iconst 1, 1) := dk_4 (by decide +kernel)
theorem dX9_takeName_68 : decode cX9_takeName 68 = .ok (.goto 4, 3) := dk_167 (by decide +kernel)
theorem dX9_takeName_71 : decode cX9_takeName 71 = .ok (.iconst 0, 1) := dk_3 (by decide +kernel)
theorem dX9_takeName_72 : decode cX9_takeName 72 = .ok (.istore_n 1, 1) := dk_60 (by decide +kernel)
theorem dX9_takeName_73 : decode cX9_takeName 73 = .ok (.iload_n 1, 1) := dk_27 (by decide +kernel)
theorem dX9_takeName_74 : decode cX9_takeName 74 = .ok (.ifCond .eq 27, 3) := dk_153 (by decide +kernel)
theorem dX9_takeName_77 : decode cX9_takeName 77 = .ok (.aload_n 0, 1) := dk_42 (by decide +kernel)
theorem dX9_takeName_78 : decode cX9_takeName 78 = .ok (.aload_n 0, 1) := dk_42 (by decide +kernel)
theorem dX9_takeName_79 : decode cX9_takeName 79 = .ok (.getfield 66, 3) := dk_180 (by decide +kernel)
theorem dX9_takeName_82 : decode cX9_takeName 82 = .ok (.bipush 8, 2) := dk_16 (by decide +kernel)
theorem dX9_takeName_84 : decode cX9_takeName 84 = .ok (.lshl, 1) := dk_121 (by decide +kernel)
theorem dX9_takeName_85 : decode cX9_takeName 85 = .ok (.iload_n 3, 1) := dk_29 (by decide +kernel)
theorem dX9_takeName_86 : decode cX9_takeName 86 = .ok (.i2l, 1) := dk_133 (by decide +kernel)
theorem dX9_takeName_87 : decode cX9_takeName 87 = .ok (.lor, 1) := dk_129 (by decide +kernel)
theorem dX9_takeName_88 : decode cX9_takeName 88 = .ok (.putfield 66, 3) := dk_181 (by decide +kernel)
theorem dX9_takeName_91 : decode cX9_takeName 91 = .ok (.aload_n 0, 1) := dk_42 (by decide +kernel)
theorem dX9_takeName_92 : decode cX9_takeName 92 = .ok (.dup, 1) := dk_89 (by decide +kernel)
theorem dX9_takeName_93 : decode cX9_takeName 93 = .ok (.getfield 40, 3) := dk_180 (by decide +kernel)
theorem dX9_takeName_96 : decode cX9_takeName 96 = .ok (.iconst 1, 1) := dk_4 (by decide +kernel)
theorem dX9_takeName_97 : decode cX9_takeName 97 = .ok (.iadd, 1) := dk_96 (by decide +kernel)
theorem dX9_takeName_98 : decode cX9_takeName 98 = .ok (.putfield 40, 3) := dk_181 (by decide +kernel)
theorem dX9_takeName_101 : decode cX9_takeName 101 = .ok (.iinc 2 1, 3) := dk_132 (by decide +kernel)
theorem dX9_takeName_104 : decode cX9_takeName 104 = .ok (.goto (-92), 3) := dk_167 (by decide +kernel)
theorem dX9_takeName_107 : decode cX9_takeName 107 = .ok (.return_, 1) := dk_177 (by decide +kernel)
def wsMX9_takeName : List Cond := .code yX9_takeName cX9_takeName 4 none :: ([.fieldLink RX9 66 "OptimaWorks$Words" "name" "J", .fieldLink RX9 40 "OptimaWorks$Words" "next" "I", .fieldLink RX9 19 "OptimaWorks$Words" "length" "I", .fieldLink RX9 9 "OptimaWorks$Words" "tape" "[B"] ++ wsX90)
theorem iwsMX9_takeName_in9 : ∀ w ∈ wsX90, w ∈ wsMX9_takeName := fun _ h => List.mem_cons_of_mem _ (List.mem_append_right _ h)
theorem gdwsMX9_takeName : wsMX9_takeName.all goodWord = true := gdC rfl (gdA (by decide +kernel : ([.fieldLink RX9 66 "OptimaWorks$Words" "name" "J", .fieldLink RX9 40 "OptimaWorks$Words" "next" "I", .fieldLink RX9 19 "OptimaWorks$Words" "length" "I", .fieldLink RX9 9 "OptimaWorks$Words" "tape" "[B"] : List Cond).all goodWord = true) gdwsX90)
set_option maxHeartbeats 4000000 in
set_option maxRecDepth 100000 in
/-- a name -/
theorem m_X9_takeName (l : Launch) (dC : Nat → ClassId) (dI : Nat → Nat → Nat) (hT : Nat → Nat) (aT : Nat → Nat) (kT : Nat → ClassId) (fT_tape : Nat → Int32) (dT_tape : Nat) (nT_tape : Nat) (iT_length : Int32) (iT_fault : Int32) (iT_place : Int32) (iT_kind : Int32) (iT_at : Int32) (iT_number : Int32) (jT_name : Int64) (iT_next : Int32) (b_fT_tape : ∀ q : Nat, (-128) ≤ (fT_tape q).toInt ∧ (fT_tape q).toInt ≤ 127) (b_nT_tape : 64 ≤ nT_tape ∧ nT_tape ≤ 2560) (b_iT_length : 0 ≤ iT_length.toInt ∧ iT_length.toInt ≤ 1280) (b_iT_at : 0 ≤ iT_at.toInt ∧ iT_at.toInt ≤ 1282) (b_iT_number : 0 ≤ iT_number.toInt ∧ iT_number.toInt ≤ 999999) (b_iT_next : 0 ≤ iT_next.toInt ∧ iT_next.toInt ≤ 1282) (b_len : iT_length.toInt ≤ ((nT_tape : Nat) : Int)) (hnl : iT_next.toInt ≤ iT_length.toInt) (sz : Nat) : Met l yX9_takeName wsMX9_takeName ({ frames := 0, cells := 0, slots := 0, locals := 0 }) (va_Pc [.ref (hT 0)] (fun U => U.heap.size = sz ∧ va_P (dC, dI) vwCl (WT hT aT kT fT_tape dT_tape nT_tape iT_length iT_fault iT_place iT_kind iT_at iT_number jT_name iT_next) U.heap ∧ va_K (dC, dI) vwCl (tT kT) U ∧ va_D (fun _ => True) (WT hT aT kT fT_tape dT_tape nT_tape iT_length iT_fault iT_place iT_kind iT_at iT_number jT_name iT_next))) (va_Qv (fun (u : (Int64) × (Int32)) => (0 ≤ (u.2).toInt ∧ (u.2).toInt ≤ 1282) ∧ ((u.2).toInt ≤ iT_length.toInt) ∧ (iT_next.toInt ≤ (u.2).toInt)) (fun (u : (Int64) × (Int32)) t => va_P (dC, dI) vwCl (WT hT aT kT fT_tape dT_tape nT_tape iT_length iT_fault iT_place iT_kind iT_at iT_number (u.1) (u.2)) t.heap ∧ va_D (va_A (WT hT aT kT fT_tape dT_tape nT_tape iT_length iT_fault iT_place iT_kind iT_at iT_number jT_name iT_next) sz) (WT hT aT kT fT_tape dT_tape nT_tape iT_length iT_fault iT_place iT_kind iT_at iT_number (u.1) (u.2))) (va_A (WT hT aT kT fT_tape dT_tape nT_tape iT_length iT_fault iT_place iT_kind iT_at iT_number jT_name iT_next) sz)) 0 0 (va_A (WT hT aT kT fT_tape dT_tape nT_tape iT_length iT_fault iT_place iT_kind iT_at iT_number jT_name iT_next) sz) := by
  refine Met.ofW (cc := cX9_takeName) (maxL := 4) (ret := none) (by decide) rfl ?_
  intro p e s m args below meth c s₁ B hml hv
  obtain ⟨rfl, hsz, hP, hK, hD0⟩ := hv
  have hx := B.exec
  have hb := B.bytes
  have hr := B.returns
  have hts := atoms_spec (ws := wsMX9_takeName) B.pre
  have hown : s.vm.findClass RX9 = some m.cls := findClass_of_methodNamed B.named
  have hlocks := B.notSynchronized
  subst hsz
  have hD := hD0.self (sz := s.heap.size)
  generalize hAe : va_A (WT hT aT kT fT_tape dT_tape nT_tape iT_length iT_fault iT_place iT_kind iT_at iT_number jT_name iT_next) s.heap.size = A at hD ⊢
  have hA : ∀ q : Nat, s.heap.size ≤ q → A q := fun q h => by rw [← hAe]; exact Or.inr h
  have hS : va_S A s.heap s.heap [] := va_S.rf
  have hl := lv_entry ([.ref (hT 0)]) (n := 4) (Nat.le_of_ble_eq_true rfl)
  rw [lg_entry_eq]
  generalize (lg_sl ([.ref (hT 0)]) ++ List.replicate (4 - (lg_sl ([.ref (hT 0)])).length) Slot.unset).toArray = ls at hl ⊢
  have hl : lv_has ls 4 [(0, .ref (hT 0))] := hl
  refine lv_aload_n hx hb dX9_takeName_0 rfl (lv_at hl 0 rfl) ?_
  refine lv_lconst (v := 0) hx hb dX9_takeName_1 (by decide) ?_
  refine va_put (D := (dC, dI)) (ci := 9) (v := .long 0) (ty := .long) (C := RX9) (T := TX9) (N := 9) hx hb hts iwsMX9_takeName_in9 tyX9 tyX9_ok nmX9 hown hK hP hD hS 0 rfl rfl 7 (by decide) (hts (.fieldLink RX9 66 "OptimaWorks$Words" "name" "J") (by decide +kernel)) (fun _ h9 => h9) rfl (by decide +kernel) rfl rfl (Nat.le_of_ble_eq_true rfl) dX9_takeName_2 (fun H locs hP hD hS => ?_)
  have hP : va_P (dC, dI) vwCl (WT hT aT kT fT_tape dT_tape nT_tape iT_length iT_fault iT_place iT_kind iT_at iT_number 0 iT_next) H := hP
  have hD : va_D A (WT hT aT kT fT_tape dT_tape nT_tape iT_length iT_fault iT_place iT_kind iT_at iT_number 0 iT_next) := hD
  refine lv_iconst (v := 1) hx hb dX9_takeName_5 (by decide) ?_
  refine lv_istore_n hx hb dX9_takeName_6 rfl hl (by decide) rfl (fun ls (hl : lv_has ls _ ([(1, .int 1), (0, .ref (hT 0))])) => ?_)
  refine lv_aload_n hx hb dX9_takeName_7 rfl (lv_at hl 1 rfl) ?_
  refine va_get (D := (dC, dI)) (ci := 9) (v := .int iT_next) (C := RX9) (T := TX9) (N := 9) hx hb hts iwsMX9_takeName_in9 hown hK hP 0 rfl rfl 8 (by decide) (hts (.fieldLink RX9 40 "OptimaWorks$Words" "next" "I") (by decide +kernel)) (fun _ h9 => h9) rfl dX9_takeName_8 ?_
  refine lv_istore_n hx hb dX9_takeName_11 rfl hl (by decide) rfl (fun ls (hl : lv_has ls _ ([(2, .int iT_next), (1, .int 1), (0, .ref (hT 0))])) => ?_)
  have hl : lv_has _ _ ([(2, .int iT_next), (1, .int 1), (0, .ref (hT 0))]) := lv_sub hl [0, 1, 2] rfl
  refine (fun (loop : ∀ (n9 : Nat) (jT_name_x12 : Int64) (iT_next_x12 : Int32) (l2_x12 : Int32) (l1_x12 : Int32) (H : Heap) (locs : List Loc) (ls : Array Slot), (0 ≤ iT_next_x12.toInt ∧ iT_next_x12.toInt ≤ 1282) → (0 ≤ l2_x12.toInt ∧ l2_x12.toInt ≤ 1282) → (0 ≤ l1_x12.toInt ∧ l1_x12.toInt ≤ 1) → (iT_next_x12.toInt ≤ l2_x12.toInt) → (iT_next_x12.toInt ≤ iT_length.toInt) → (iT_next.toInt ≤ iT_next_x12.toInt) → (1282 - l2_x12.toInt < ((n9 : Nat) : Int)) → va_P (dC, dI) vwCl (WT hT aT kT fT_tape dT_tape nT_tape iT_length iT_fault iT_place iT_kind iT_at iT_number jT_name_x12 iT_next_x12) H → va_D A (WT hT aT kT fT_tape dT_tape nT_tape iT_length iT_fault iT_place iT_kind iT_at iT_number jT_name_x12 iT_next_x12) → va_S A s.heap H locs → lv_has ls 4 [(2, .int l2_x12), (1, .int l1_x12), (0, .ref (hT 0))] → W p l e _ s m _ below meth c H locs 0 0 _ (F0 m 12 ls [])) => loop (1283) 0 iT_next iT_next 1 _ _ _ (b_iT_next) (b_iT_next) (show 0 ≤ (1 : Int32).toInt ∧ (1 : Int32).toInt ≤ 1 from by decide) (show iT_next.toInt ≤ iT_next.toInt from by omega) (show iT_next.toInt ≤ iT_length.toInt from by omega) (show iT_next.toInt ≤ iT_next.toInt from by omega) ((by have e9 : (iT_next).toInt = iT_next.toInt := rfl; omega)) hP hD hS hl) ?_
  intro n9
  induction n9 with
  | zero => intro jT_name_x12 iT_next_x12 l2_x12 l1_x12 H locs ls b_iT_next_x12 b_l2_x12 b_l1_x12 hni hnk hmo hf9; exact False.elim (by omega)
  | succ n9 ihx12 =>
    intro jT_name_x12 iT_next_x12 l2_x12 l1_x12 H locs ls b_iT_next_x12 b_l2_x12 b_l1_x12 hni hnk hmo hfx12 hP hD hS hl
    refine lv_iload_n hx hb dX9_takeName_12 rfl (lv_at hl 0 rfl) ?_
    refine lv_aload_n hx hb dX9_takeName_13 rfl (lv_at hl 2 rfl) ?_
    refine va_get (D := (dC, dI)) (ci := 9) (v := .int iT_length) (C := RX9) (T := TX9) (N := 9) hx hb hts iwsMX9_takeName_in9 hown hK hP 0 rfl rfl 1 (by decide) (hts (.fieldLink RX9 19 "OptimaWorks$Words" "length" "I") (by decide +kernel)) (fun _ h9 => h9) rfl dX9_takeName_14 ?_
    refine W.cut (pc := 107) (fun H locs ls stk =>  stk = [] ∧ va_P (dC, dI) vwCl (WT hT aT kT fT_tape dT_tape nT_tape iT_length iT_fault iT_place iT_kind iT_at iT_number jT_name_x12 iT_next_x12) H ∧ va_D A (WT hT aT kT fT_tape dT_tape nT_tape iT_length iT_fault iT_place iT_kind iT_at iT_number jT_name_x12 iT_next_x12) ∧ va_S A s.heap H locs ∧ lv_has ls 4 [(2, .int l2_x12), (1, .int l1_x12), (0, .ref (hT 0))]) (fun join15 => ?_) ?_
    · refine lv_icmp_ge (tgt := 107) hx hb dX9_takeName_17 (by decide) (fun c_17 => ?_) (fun c_17 => ?_)
      · have t_17 : l2_x12.toInt ≥ iT_length.toInt := toI_ge c_17 rfl rfl
        have hl : lv_has _ _ ([(2, .int l2_x12), (1, .int l1_x12), (0, .ref (hT 0))]) := lv_sub hl [0, 1, 2] rfl
        exact join15 _ _ _ _ ⟨rfl, hP, hD, hS, hl⟩
      · have t_17 : ¬ l2_x12.toInt ≥ iT_length.toInt := toI_nge c_17 rfl rfl
        refine lv_iload_n hx hb dX9_takeName_20 rfl (lv_at hl 1 rfl) ?_
        refine lv_if_eq (tgt := 107) hx hb dX9_takeName_21 (by decide) (fun c_21 => ?_) (fun c_21 => ?_)
        · have t_21 : l1_x12.toInt = 0 := toI_eq c_21 rfl (by decide : (0 : Int32).toInt = 0)
          have hl : lv_has _ _ ([(2, .int l2_x12), (1, .int l1_x12), (0, .ref (hT 0))]) := lv_sub hl [0, 1, 2] rfl
          exact join15 _ _ _ _ ⟨rfl, hP, hD, hS, hl⟩
        · have t_21 : ¬ l1_x12.toInt = 0 := toI_neq c_21 rfl (by decide : (0 : Int32).toInt = 0)
          refine lv_aload_n hx hb dX9_takeName_24 rfl (lv_at hl 2 rfl) ?_
          refine va_get (D := (dC, dI)) (ci := 9) (v := .ref dT_tape) (C := RX9) (T := TX9) (N := 9) hx hb hts iwsMX9_takeName_in9 hown hK hP 0 rfl rfl 0 (by decide) (hts (.fieldLink RX9 9 "OptimaWorks$Words" "tape" "[B") (by decide +kernel)) (fun _ h9 => h9) rfl dX9_takeName_25 ?_
          refine lv_iload_n hx hb dX9_takeName_28 rfl (lv_at hl 0 rfl) ?_
          refine va_bald (cA := kT 0) (n := nT_tape) (f := fT_tape) hx hb hK hP 1 0 rfl rfl (vp_in_iff.mpr ⟨b_l2_x12.1, (by omega)⟩) dX9_takeName_29 ?_
          refine lv_topi (fun v26 hv26 => ?_)
          have b_v26 : (-128) ≤ v26.toInt ∧ v26.toInt ≤ 127 := by rw [hv26]; exact b_fT_tape _
          clear hv26
          refine lv_istore_n hx hb dX9_takeName_30 rfl hl (by decide) rfl (fun ls (hl : lv_has ls _ ([(3, .int v26), (2, .int l2_x12), (1, .int l1_x12), (0, .ref (hT 0))])) => ?_)
          refine lv_iload_n hx hb dX9_takeName_31 rfl (lv_at hl 0 rfl) ?_
          refine lv_bipush (v := 97) hx hb dX9_takeName_32 (by decide) ?_
          refine W.cut (pc := 72) (fun H locs ls stk => ∃ (k0_j16 : Int32), (0 ≤ k0_j16.toInt ∧ k0_j16.toInt ≤ 1) ∧  stk = [.int k0_j16] ∧ va_P (dC, dI) vwCl (WT hT aT kT fT_tape dT_tape nT_tape iT_length iT_fault iT_place iT_kind iT_at iT_number jT_name_x12 iT_next_x12) H ∧ va_D A (WT hT aT kT fT_tape dT_tape nT_tape iT_length iT_fault iT_place iT_kind iT_at iT_number jT_name_x12 iT_next_x12) ∧ va_S A s.heap H locs ∧ lv_has ls 4 [(3, .int v26), (2, .int l2_x12), (1, .int l1_x12), (0, .ref (hT 0))]) (fun join16 => ?_) ?_
          · refine lv_icmp_lt (tgt := 43) hx hb dX9_takeName_34 (by decide) (fun c_34 => ?_) (fun c_34 => ?_)
            · have t_34 : v26.toInt < 97 := toI_lt c_34 rfl (by decide : (97 : Int32).toInt = 97)
              refine lv_iload_n hx hb dX9_takeName_43 rfl (lv_at hl 0 rfl) ?_
              refine lv_bipush (v := 65) hx hb dX9_takeName_44 (by decide) ?_
              refine lv_icmp_lt (tgt := 55) hx hb dX9_takeName_46 (by decide) (fun c_46 => ?_) (fun c_46 => ?_)
              · have t_46 : v26.toInt < 65 := toI_lt c_46 rfl (by decide : (65 : Int32).toInt = 65)
                refine lv_iload_n hx hb dX9_takeName_55 rfl (lv_at hl 0 rfl) ?_
                refine lv_bipush (v := 48) hx hb dX9_takeName_56 (by decide) ?_
                refine lv_icmp_lt (tgt := 71) hx hb dX9_takeName_58 (by decide) (fun c_58 => ?_) (fun c_58 => ?_)
                · have t_58 : v26.toInt < 48 := toI_lt c_58 rfl (by decide : (48 : Int32).toInt = 48)
                  refine lv_iconst (v := 0) hx hb dX9_takeName_71 (by decide) ?_
                  have hl : lv_has _ _ ([(3, .int v26), (2, .int l2_x12), (1, .int l1_x12), (0, .ref (hT 0))]) := lv_sub hl [0, 1, 2, 3] rfl
                  exact join16 _ _ _ _ ⟨0, (show 0 ≤ (0 : Int32).toInt ∧ (0 : Int32).toInt ≤ 1 from by decide), rfl, hP, hD, hS, hl⟩
                · have t_58 : ¬ v26.toInt < 48 := toI_nlt c_58 rfl (by decide : (48 : Int32).toInt = 48)
                  refine lv_iload_n hx hb dX9_takeName_61 rfl (lv_at hl 0 rfl) ?_
                  refine lv_bipush (v := 57) hx hb dX9_takeName_62 (by decide) ?_
                  refine lv_icmp_gt (tgt := 71) hx hb dX9_takeName_64 (by decide) (fun c_64 => ?_) (fun c_64 => ?_)
                  · have t_64 : v26.toInt > 57 := toI_gt c_64 rfl (by decide : (57 : Int32).toInt = 57)
                    refine lv_iconst (v := 0) hx hb dX9_takeName_71 (by decide) ?_
                    have hl : lv_has _ _ ([(3, .int v26), (2, .int l2_x12), (1, .int l1_x12), (0, .ref (hT 0))]) := lv_sub hl [0, 1, 2, 3] rfl
                    exact join16 _ _ _ _ ⟨0, (show 0 ≤ (0 : Int32).toInt ∧ (0 : Int32).toInt ≤ 1 from by decide), rfl, hP, hD, hS, hl⟩
                  · have t_64 : ¬ v26.toInt > 57 := toI_ngt c_64 rfl (by decide : (57 : Int32).toInt = 57)
                    refine lv_iconst (v := 1) hx hb dX9_takeName_67 (by decide) ?_
                    refine lv_goto (tgt := 72) hx hb dX9_takeName_68 (by decide) ?_
                    have hl : lv_has _ _ ([(3, .int v26), (2, .int l2_x12), (1, .int l1_x12), (0, .ref (hT 0))]) := lv_sub hl [0, 1, 2, 3] rfl
                    exact join16 _ _ _ _ ⟨1, (show 0 ≤ (1 : Int32).toInt ∧ (1 : Int32).toInt ≤ 1 from by decide), rfl, hP, hD, hS, hl⟩
              · have t_46 : ¬ v26.toInt < 65 := toI_nlt c_46 rfl (by decide : (65 : Int32).toInt = 65)
                refine lv_iload_n hx hb dX9_takeName_49 rfl (lv_at hl 0 rfl) ?_
                refine lv_bipush (v := 90) hx hb dX9_takeName_50 (by decide) ?_
                refine lv_icmp_le (tgt := 67) hx hb dX9_takeName_52 (by decide) (fun c_52 => ?_) (fun c_52 => ?_)
                · have t_52 : v26.toInt ≤ 90 := toI_le c_52 rfl (by decide : (90 : Int32).toInt = 90)
                  refine lv_iconst (v := 1) hx hb dX9_takeName_67 (by decide) ?_
                  refine lv_goto (tgt := 72) hx hb dX9_takeName_68 (by decide) ?_
                  have hl : lv_has _ _ ([(3, .int v26), (2, .int l2_x12), (1, .int l1_x12), (0, .ref (hT 0))]) := lv_sub hl [0, 1, 2, 3] rfl
                  exact join16 _ _ _ _ ⟨1, (show 0 ≤ (1 : Int32).toInt ∧ (1 : Int32).toInt ≤ 1 from by decide), rfl, hP, hD, hS, hl⟩
                · have t_52 : ¬ v26.toInt ≤ 90 := toI_nle c_52 rfl (by decide : (90 : Int32).toInt = 90)
                  refine lv_iload_n hx hb dX9_takeName_55 rfl (lv_at hl 0 rfl) ?_
                  refine lv_bipush (v := 48) hx hb dX9_takeName_56 (by decide) ?_
                  refine lv_icmp_lt (tgt := 71) hx hb dX9_takeName_58 (by decide) (fun c_58 => ?_) (fun c_58 => ?_)
                  · have t_58 : v26.toInt < 48 := toI_lt c_58 rfl (by decide : (48 : Int32).toInt = 48)
                    refine lv_iconst (v := 0) hx hb dX9_takeName_71 (by decide) ?_
                    have hl : lv_has _ _ ([(3, .int v26), (2, .int l2_x12), (1, .int l1_x12), (0, .ref (hT 0))]) := lv_sub hl [0, 1, 2, 3] rfl
                    exact join16 _ _ _ _ ⟨0, (show 0 ≤ (0 : Int32).toInt ∧ (0 : Int32).toInt ≤ 1 from by decide), rfl, hP, hD, hS, hl⟩
                  · have t_58 : ¬ v26.toInt < 48 := toI_nlt c_58 rfl (by decide : (48 : Int32).toInt = 48)
                    refine lv_iload_n hx hb dX9_takeName_61 rfl (lv_at hl 0 rfl) ?_
                    refine lv_bipush (v := 57) hx hb dX9_takeName_62 (by decide) ?_
                    refine lv_icmp_gt (tgt := 71) hx hb dX9_takeName_64 (by decide) (fun c_64 => ?_) (fun c_64 => ?_)
                    · have t_64 : v26.toInt > 57 := toI_gt c_64 rfl (by decide : (57 : Int32).toInt = 57)
                      refine lv_iconst (v := 0) hx hb dX9_takeName_71 (by decide) ?_
                      have hl : lv_has _ _ ([(3, .int v26), (2, .int l2_x12), (1, .int l1_x12), (0, .ref (hT 0))]) := lv_sub hl [0, 1, 2, 3] rfl
                      exact join16 _ _ _ _ ⟨0, (show 0 ≤ (0 : Int32).toInt ∧ (0 : Int32).toInt ≤ 1 from by decide), rfl, hP, hD, hS, hl⟩
                    · have t_64 : ¬ v26.toInt > 57 := toI_ngt c_64 rfl (by decide : (57 : Int32).toInt = 57)
                      refine lv_iconst (v := 1) hx hb dX9_takeName_67 (by decide) ?_
                      refine lv_goto (tgt := 72) hx hb dX9_takeName_68 (by decide) ?_
                      have hl : lv_has _ _ ([(3, .int v26), (2, .int l2_x12), (1, .int l1_x12), (0, .ref (hT 0))]) := lv_sub hl [0, 1, 2, 3] rfl
                      exact join16 _ _ _ _ ⟨1, (show 0 ≤ (1 : Int32).toInt ∧ (1 : Int32).toInt ≤ 1 from by decide), rfl, hP, hD, hS, hl⟩
            · have t_34 : ¬ v26.toInt < 97 := toI_nlt c_34 rfl (by decide : (97 : Int32).toInt = 97)
              refine lv_iload_n hx hb dX9_takeName_37 rfl (lv_at hl 0 rfl) ?_
              refine lv_bipush (v := 122) hx hb dX9_takeName_38 (by decide) ?_
              refine lv_icmp_le (tgt := 67) hx hb dX9_takeName_40 (by decide) (fun c_40 => ?_) (fun c_40 => ?_)
              · have t_40 : v26.toInt ≤ 122 := toI_le c_40 rfl (by decide : (122 : Int32).toInt = 122)
                refine lv_iconst (v := 1) hx hb dX9_takeName_67 (by decide) ?_
                refine lv_goto (tgt := 72) hx hb dX9_takeName_68 (by decide) ?_
                have hl : lv_has _ _ ([(3, .int v26), (2, .int l2_x12), (1, .int l1_x12), (0, .ref (hT 0))]) := lv_sub hl [0, 1, 2, 3] rfl
                exact join16 _ _ _ _ ⟨1, (show 0 ≤ (1 : Int32).toInt ∧ (1 : Int32).toInt ≤ 1 from by decide), rfl, hP, hD, hS, hl⟩
              · have t_40 : ¬ v26.toInt ≤ 122 := toI_nle c_40 rfl (by decide : (122 : Int32).toInt = 122)
                refine lv_iload_n hx hb dX9_takeName_43 rfl (lv_at hl 0 rfl) ?_
                refine lv_bipush (v := 65) hx hb dX9_takeName_44 (by decide) ?_
                refine lv_icmp_lt (tgt := 55) hx hb dX9_takeName_46 (by decide) (fun c_46 => ?_) (fun c_46 => ?_)
                · have t_46 : v26.toInt < 65 := toI_lt c_46 rfl (by decide : (65 : Int32).toInt = 65)
                  refine lv_iload_n hx hb dX9_takeName_55 rfl (lv_at hl 0 rfl) ?_
                  refine lv_bipush (v := 48) hx hb dX9_takeName_56 (by decide) ?_
                  refine lv_icmp_lt (tgt := 71) hx hb dX9_takeName_58 (by decide) (fun c_58 => ?_) (fun c_58 => ?_)
                  · have t_58 : v26.toInt < 48 := toI_lt c_58 rfl (by decide : (48 : Int32).toInt = 48)
                    refine lv_iconst (v := 0) hx hb dX9_takeName_71 (by decide) ?_
                    have hl : lv_has _ _ ([(3, .int v26), (2, .int l2_x12), (1, .int l1_x12), (0, .ref (hT 0))]) := lv_sub hl [0, 1, 2, 3] rfl
                    exact join16 _ _ _ _ ⟨0, (show 0 ≤ (0 : Int32).toInt ∧ (0 : Int32).toInt ≤ 1 from by decide), rfl, hP, hD, hS, hl⟩
                  · have t_58 : ¬ v26.toInt < 48 := toI_nlt c_58 rfl (by decide : (48 : Int32).toInt = 48)
                    refine lv_iload_n hx hb dX9_takeName_61 rfl (lv_at hl 0 rfl) ?_
                    refine lv_bipush (v := 57) hx hb dX9_takeName_62 (by decide) ?_
                    refine lv_icmp_gt (tgt := 71) hx hb dX9_takeName_64 (by decide) (fun c_64 => ?_) (fun c_64 => ?_)
                    · have t_64 : v26.toInt > 57 := toI_gt c_64 rfl (by decide : (57 : Int32).toInt = 57)
                      refine lv_iconst (v := 0) hx hb dX9_takeName_71 (by decide) ?_
                      have hl : lv_has _ _ ([(3, .int v26), (2, .int l2_x12), (1, .int l1_x12), (0, .ref (hT 0))]) := lv_sub hl [0, 1, 2, 3] rfl
                      exact join16 _ _ _ _ ⟨0, (show 0 ≤ (0 : Int32).toInt ∧ (0 : Int32).toInt ≤ 1 from by decide), rfl, hP, hD, hS, hl⟩
                    · have t_64 : ¬ v26.toInt > 57 := toI_ngt c_64 rfl (by decide : (57 : Int32).toInt = 57)
                      refine lv_iconst (v := 1) hx hb dX9_takeName_67 (by decide) ?_
                      refine lv_goto (tgt := 72) hx hb dX9_takeName_68 (by decide) ?_
                      have hl : lv_has _ _ ([(3, .int v26), (2, .int l2_x12), (1, .int l1_x12), (0, .ref (hT 0))]) := lv_sub hl [0, 1, 2, 3] rfl
                      exact join16 _ _ _ _ ⟨1, (show 0 ≤ (1 : Int32).toInt ∧ (1 : Int32).toInt ≤ 1 from by decide), rfl, hP, hD, hS, hl⟩
                · have t_46 : ¬ v26.toInt < 65 := toI_nlt c_46 rfl (by decide : (65 : Int32).toInt = 65)
                  refine lv_iload_n hx hb dX9_takeName_49 rfl (lv_at hl 0 rfl) ?_
                  refine lv_bipush (v := 90) hx hb dX9_takeName_50 (by decide) ?_
                  refine lv_icmp_le (tgt := 67) hx hb dX9_takeName_52 (by decide) (fun c_52 => ?_) (fun c_52 => ?_)
                  · have t_52 : v26.toInt ≤ 90 := toI_le c_52 rfl (by decide : (90 : Int32).toInt = 90)
                    refine lv_iconst (v := 1) hx hb dX9_takeName_67 (by decide) ?_
                    refine lv_goto (tgt := 72) hx hb dX9_takeName_68 (by decide) ?_
                    have hl : lv_has _ _ ([(3, .int v26), (2, .int l2_x12), (1, .int l1_x12), (0, .ref (hT 0))]) := lv_sub hl [0, 1, 2, 3] rfl
                    exact join16 _ _ _ _ ⟨1, (show 0 ≤ (1 : Int32).toInt ∧ (1 : Int32).toInt ≤ 1 from by decide), rfl, hP, hD, hS, hl⟩
                  · have t_52 : ¬ v26.toInt ≤ 90 := toI_nle c_52 rfl (by decide : (90 : Int32).toInt = 90)
                    refine lv_iload_n hx hb dX9_takeName_55 rfl (lv_at hl 0 rfl) ?_
                    refine lv_bipush (v := 48) hx hb dX9_takeName_56 (by decide) ?_
                    refine lv_icmp_lt (tgt := 71) hx hb dX9_takeName_58 (by decide) (fun c_58 => ?_) (fun c_58 => ?_)
                    · have t_58 : v26.toInt < 48 := toI_lt c_58 rfl (by decide : (48 : Int32).toInt = 48)
                      refine lv_iconst (v := 0) hx hb dX9_takeName_71 (by decide) ?_
                      have hl : lv_has _ _ ([(3, .int v26), (2, .int l2_x12), (1, .int l1_x12), (0, .ref (hT 0))]) := lv_sub hl [0, 1, 2, 3] rfl
                      exact join16 _ _ _ _ ⟨0, (show 0 ≤ (0 : Int32).toInt ∧ (0 : Int32).toInt ≤ 1 from by decide), rfl, hP, hD, hS, hl⟩
                    · have t_58 : ¬ v26.toInt < 48 := toI_nlt c_58 rfl (by decide : (48 : Int32).toInt = 48)
                      refine lv_iload_n hx hb dX9_takeName_61 rfl (lv_at hl 0 rfl) ?_
                      refine lv_bipush (v := 57) hx hb dX9_takeName_62 (by decide) ?_
                      refine lv_icmp_gt (tgt := 71) hx hb dX9_takeName_64 (by decide) (fun c_64 => ?_) (fun c_64 => ?_)
                      · have t_64 : v26.toInt > 57 := toI_gt c_64 rfl (by decide : (57 : Int32).toInt = 57)
                        refine lv_iconst (v := 0) hx hb dX9_takeName_71 (by decide) ?_
                        have hl : lv_has _ _ ([(3, .int v26), (2, .int l2_x12), (1, .int l1_x12), (0, .ref (hT 0))]) := lv_sub hl [0, 1, 2, 3] rfl
                        exact join16 _ _ _ _ ⟨0, (show 0 ≤ (0 : Int32).toInt ∧ (0 : Int32).toInt ≤ 1 from by decide), rfl, hP, hD, hS, hl⟩
                      · have t_64 : ¬ v26.toInt > 57 := toI_ngt c_64 rfl (by decide : (57 : Int32).toInt = 57)
                        refine lv_iconst (v := 1) hx hb dX9_takeName_67 (by decide) ?_
                        refine lv_goto (tgt := 72) hx hb dX9_takeName_68 (by decide) ?_
                        have hl : lv_has _ _ ([(3, .int v26), (2, .int l2_x12), (1, .int l1_x12), (0, .ref (hT 0))]) := lv_sub hl [0, 1, 2, 3] rfl
                        exact join16 _ _ _ _ ⟨1, (show 0 ≤ (1 : Int32).toInt ∧ (1 : Int32).toInt ≤ 1 from by decide), rfl, hP, hD, hS, hl⟩
          · rintro H locs ls stk ⟨k0_j16, b_k0_j16, rfl, hP, hD, hS, hl⟩
            refine lv_istore_n hx hb dX9_takeName_72 rfl hl (by decide) rfl (fun ls (hl : lv_has ls _ ([(1, .int k0_j16), (3, .int v26), (2, .int l2_x12), (0, .ref (hT 0))])) => ?_)
            refine lv_iload_n hx hb dX9_takeName_73 rfl (lv_at hl 0 rfl) ?_
            refine lv_if_eq (tgt := 101) hx hb dX9_takeName_74 (by decide) (fun c_74 => ?_) (fun c_74 => ?_)
            · have t_74 : k0_j16.toInt = 0 := toI_eq c_74 rfl (by decide : (0 : Int32).toInt = 0)
              refine lv_iinc (v := (iI (l2_x12.toInt + 1))) hx hb dX9_takeName_101 hl (k := 2) rfl (iI_add2 (iI_of _) (by decide : (1 : Int32) = iI 1)) (by decide) rfl (fun ls (hl : lv_has ls _ ([(2, .int (iI (l2_x12.toInt + 1))), (1, .int k0_j16), (3, .int v26), (0, .ref (hT 0))])) => ?_)
              refine lv_goto (tgt := 12) hx hb dX9_takeName_104 (by decide) ?_
              have hl : lv_has _ _ ([(2, .int (iI (l2_x12.toInt + 1))), (1, .int k0_j16), (0, .ref (hT 0))]) := lv_sub hl [0, 1, 3] rfl
              exact ihx12 jT_name_x12 iT_next_x12 (iI (l2_x12.toInt + 1)) k0_j16 _ _ _ (b_iT_next_x12) (iI_rng (Int.le_trans (by decide) (Int.add_le_add (b_l2_x12.1) (Int.le_refl _))) (by omega) (by decide) (by decide)) (b_k0_j16) (show iT_next_x12.toInt ≤ (iI (l2_x12.toInt + 1)).toInt from by (try rw [iI_t (E := iT_next_x12.toInt + 1) (by omega) (by omega)]); rw [iI_t (by omega) (by omega)]; omega) (show iT_next_x12.toInt ≤ iT_length.toInt from by (try rw [iI_t (by omega) (by omega)]); omega) (show iT_next.toInt ≤ iT_next_x12.toInt from by (try rw [iI_t (by omega) (by omega)]); omega) (by have e9 : ((iI (l2_x12.toInt + 1))).toInt = (l2_x12.toInt + 1) := (iI_t (Int.le_trans (by decide) (Int.add_le_add (b_l2_x12.1) (Int.le_refl _))) (Int.le_trans (Int.add_le_add (b_l2_x12.2) (Int.le_refl _)) (by decide))); omega) hP hD hS hl
            · have t_74 : ¬ k0_j16.toInt = 0 := toI_neq c_74 rfl (by decide : (0 : Int32).toInt = 0)
              refine lv_aload_n hx hb dX9_takeName_77 rfl (lv_at hl 3 rfl) ?_
              refine lv_aload_n hx hb dX9_takeName_78 rfl (lv_at hl 3 rfl) ?_
              refine va_get (D := (dC, dI)) (ci := 9) (v := .long jT_name_x12) (C := RX9) (T := TX9) (N := 9) hx hb hts iwsMX9_takeName_in9 hown hK hP 0 rfl rfl 7 (by decide) (hts (.fieldLink RX9 66 "OptimaWorks$Words" "name" "J") (by decide +kernel)) (fun _ h9 => h9) rfl dX9_takeName_79 ?_
              refine lv_bipush (v := 8) hx hb dX9_takeName_82 (by decide) ?_
              refine lv_lshl hx hb dX9_takeName_84 rfl ?_
              refine lv_topl (fun v27 hv27 => ?_)
              clear hv27
              refine lv_iload_n hx hb dX9_takeName_85 rfl (lv_at hl 1 rfl) ?_
              refine lv_i2l hx hb dX9_takeName_86 rfl ?_
              refine lv_topl (fun v28 hv28 => ?_)
              clear hv28
              refine lv_lor hx hb dX9_takeName_87 ?_
              refine lv_topl (fun v29 hv29 => ?_)
              clear hv29
              refine va_put (D := (dC, dI)) (ci := 9) (v := .long v29) (ty := .long) (C := RX9) (T := TX9) (N := 9) hx hb hts iwsMX9_takeName_in9 tyX9 tyX9_ok nmX9 hown hK hP hD hS 0 rfl rfl 7 (by decide) (hts (.fieldLink RX9 66 "OptimaWorks$Words" "name" "J") (by decide +kernel)) (fun _ h9 => h9) rfl (by decide +kernel) rfl rfl (Nat.le_of_ble_eq_true rfl) dX9_takeName_88 (fun H locs hP hD hS => ?_)
              have hP : va_P (dC, dI) vwCl (WT hT aT kT fT_tape dT_tape nT_tape iT_length iT_fault iT_place iT_kind iT_at iT_number v29 iT_next_x12) H := hP
              have hD : va_D A (WT hT aT kT fT_tape dT_tape nT_tape iT_length iT_fault iT_place iT_kind iT_at iT_number v29 iT_next_x12) := hD
              refine lv_aload_n hx hb dX9_takeName_91 rfl (lv_at hl 3 rfl) ?_
              refine lv_dup hx hb dX9_takeName_92 rfl ?_
              refine va_get (D := (dC, dI)) (ci := 9) (v := .int iT_next_x12) (C := RX9) (T := TX9) (N := 9) hx hb hts iwsMX9_takeName_in9 hown hK hP 0 rfl rfl 8 (by decide) (hts (.fieldLink RX9 40 "OptimaWorks$Words" "next" "I") (by decide +kernel)) (fun _ h9 => h9) rfl dX9_takeName_93 ?_
              refine lv_iconst (v := 1) hx hb dX9_takeName_96 (by decide) ?_
              refine lv_iadd hx hb dX9_takeName_97 ?_
              refine lv_topi (fun y30 hy30 => ?_)
              obtain rfl : (iI (iT_next_x12.toInt + 1)) = y30 := (hy30.trans (iI_add2 (iI_of _) (by decide : (1 : Int32) = iI 1))).symm
              refine va_put (D := (dC, dI)) (ci := 9) (v := .int (iI (iT_next_x12.toInt + 1))) (ty := .int) (C := RX9) (T := TX9) (N := 9) hx hb hts iwsMX9_takeName_in9 tyX9 tyX9_ok nmX9 hown hK hP hD hS 0 rfl rfl 8 (by decide) (hts (.fieldLink RX9 40 "OptimaWorks$Words" "next" "I") (by decide +kernel)) (fun _ h9 => h9) rfl (by decide +kernel) rfl rfl (Nat.le_of_ble_eq_true rfl) dX9_takeName_98 (fun H locs hP hD hS => ?_)
              have hP : va_P (dC, dI) vwCl (WT hT aT kT fT_tape dT_tape nT_tape iT_length iT_fault iT_place iT_kind iT_at iT_number v29 (iI (iT_next_x12.toInt + 1))) H := hP
              have hD : va_D A (WT hT aT kT fT_tape dT_tape nT_tape iT_length iT_fault iT_place iT_kind iT_at iT_number v29 (iI (iT_next_x12.toInt + 1))) := hD
              refine lv_iinc (v := (iI (l2_x12.toInt + 1))) hx hb dX9_takeName_101 hl (k := 2) rfl (iI_add2 (iI_of _) (by decide : (1 : Int32) = iI 1)) (by decide) rfl (fun ls (hl : lv_has ls _ ([(2, .int (iI (l2_x12.toInt + 1))), (1, .int k0_j16), (3, .int v26), (0, .ref (hT 0))])) => ?_)
              refine lv_goto (tgt := 12) hx hb dX9_takeName_104 (by decide) ?_
              have hl : lv_has _ _ ([(2, .int (iI (l2_x12.toInt + 1))), (1, .int k0_j16), (0, .ref (hT 0))]) := lv_sub hl [0, 1, 3] rfl
              exact ihx12 v29 (iI (iT_next_x12.toInt + 1)) (iI (l2_x12.toInt + 1)) k0_j16 _ _ _ (iI_rng (Int.le_trans (by decide) (Int.add_le_add (b_iT_next_x12.1) (Int.le_refl _))) (by omega) (by decide) (by decide)) (iI_rng (Int.le_trans (by decide) (Int.add_le_add (b_l2_x12.1) (Int.le_refl _))) (by omega) (by decide) (by decide)) (b_k0_j16) (show (iI (iT_next_x12.toInt + 1)).toInt ≤ (iI (l2_x12.toInt + 1)).toInt from by (try rw [iI_t (E := iT_next_x12.toInt + 1) (by omega) (by omega)]); rw [iI_t (by omega) (by omega)]; omega) (show (iI (iT_next_x12.toInt + 1)).toInt ≤ iT_length.toInt from by (try rw [iI_t (by omega) (by omega)]); omega) (show iT_next.toInt ≤ (iI (iT_next_x12.toInt + 1)).toInt from by (try rw [iI_t (by omega) (by omega)]); omega) (by have e9 : ((iI (l2_x12.toInt + 1))).toInt = (l2_x12.toInt + 1) := (iI_t (Int.le_trans (by decide) (Int.add_le_add (b_l2_x12.1) (Int.le_refl _))) (Int.le_trans (Int.add_le_add (b_l2_x12.2) (Int.le_refl _)) (by decide))); omega) hP hD hS hl
    · rintro H locs ls stk ⟨rfl, hP, hD, hS, hl⟩
      refine W.widen (k := 0) (n := 0) (by decide +kernel) (by decide +kernel) ?_
      exact W.vret hx hb hr (fun t9_ ht hW => ⟨⟨(jT_name_x12, iT_next_x12), rfl, ⟨(by (try dsimp only); exact (b_iT_next_x12)), (by (try dsimp only); exact (hnk)), (by (try dsimp only); exact (hmo))⟩, by rw [ht]; exact hP, hD⟩, hS.F ht⟩) hS.2.2 dX9_takeName_107
theorem dX9_takeNumber_0 : decode cX9_takeNumber 0 = .ok (.aload_n 0, 1) := dk_42 (by decide +kernel)
theorem dX9_takeNumber_1 : decode cX9_takeNumber 1 = .ok (.iconst 0, 1) := dk_3 (by decide +kernel)
theorem dX9_takeNumber_2 : decode cX9_takeNumber 2 = .ok (.putfield 81, 3) := dk_181 (by decide +kernel)
theorem dX9_takeNumber_5 : decode cX9_takeNumber 5 = .ok (.aload_n 0, 1) := dk_42 (by decide +kernel)
theorem dX9_takeNumber_6 : decode cX9_takeNumber 6 = .ok (.getfield 40, 3) := dk_180 (by decide +kernel)
theorem dX9_takeNumber_9 : decode cX9_takeNumber 9 = .ok (.aload_n 0, 1) := dk_42 (by decide +kernel)
theorem dX9_takeNumber_10 : decode cX9_takeNumber 10 = .ok (.getfield 19, 3) := dk_180 (by decide +kernel)
theorem dX9_takeNumber_13 : decode cX9_takeNumber 13 = .ok (.if_icmp .ge 82, 3) := dk_162 (by decide +kernel)
theorem dX9_takeNumber_16 : decode cX9_takeNumber 16 = .ok (.aload_n 0, 1) := dk_42 (by decide +kernel)
theorem dX9_takeNumber_17 : decode cX9_takeNumber 17 = .ok (.getfield 9, 3) := dk_180 (by decide +kernel)
theorem dX9_takeNumber_20 : decode cX9_takeNumber 20 = .ok (.aload_n 0, 1) := dk_42 (by decide +kernel)
theorem dX9_takeNumber_21 : decode cX9_takeNumber 21 = .ok (.getfield 40, 3) := dk_180 (by decide +kernel)
theorem dX9_takeNumber_24 : decode cX9_takeNumber 24 = .ok (.baload, 1) := dk_51 (by decide +kernel)
theorem dX9_takeNumber_25 : decode cX9_takeNumber 25 = .ok (.bipush 48, 2) := dk_16 (by decide +kernel)
theorem dX9_takeNumber_27 : decode cX9_takeNumber 27 = .ok (.if_icmp .lt 68, 3) := dk_161 (by decide +kernel)
theorem dX9_takeNumber_30 : decode cX9_takeNumber 30 = .ok (.aload_n 0, 1) := dk_42 (by decide +kernel)
theorem dX9_takeNumber_31 : decode cX9_takeNumber 31 = .ok (.getfield 9, 3) := dk_180 (by decide +kernel)
theorem dX9_takeNumber_34 : decode cX9_takeNumber 34 = .ok (.aload_n 0, 1) := dk_42 (by decide +kernel)
theorem dX9_takeNumber_35 : decode cX9_takeNumber 35 = .ok (.getfield 40, 3) := dk_180 (by decide +kernel)
theorem dX9_takeNumber_38 : decode cX9_takeNumber 38 = .ok (.baload, 1) := dk_51 (by decide +kernel)
theorem dX9_takeNumber_39 : decode cX9_takeNumber 39 = .ok (.bipush 57, 2) := dk_16 (by decide +kernel)
theorem dX9_takeNumber_41 : decode cX9_takeNumber 41 = .ok (.if_icmp .gt 54, 3) := dk_163 (by decide +kernel)
theorem dX9_takeNumber_44 : decode cX9_takeNumber 44 = .ok (.aload_n 0, 1) := dk_42 (by decide +kernel)
theorem dX9_takeNumber_45 : decode cX9_takeNumber 45 = .ok (.getfield 40, 3) := dk_180 (by decide +kernel)
theorem dX9_takeNumber_48 : decode cX9_takeNumber 48 = .ok (.aload_n 0, 1) := dk_42 (by decide +kernel)
theorem dX9_takeNumber_49 : decode cX9_takeNumber 49 = .ok (.getfield 34, 3) := dk_180 (by decide +kernel)
theorem dX9_takeNumber_52 : decode cX9_takeNumber 52 = .ok (.isub, 1) := dk_100 (by decide +kernel)
theorem dX9_takeNumber_53 : decode cX9_takeNumber 53 = .ok (.bipush 6, 2) := dk_16 (by decide +kernel)
theorem dX9_takeNumber_55 : decode cX9_takeNumber 55 = .ok (.if_icmp .ge 27, 3) := dk_162 (by decide +kernel)
theorem dX9_takeNumber_58 : decode cX9_takeNumber 58 = .ok (.aload_n 0, 1) := dk_42 (by decide +kernel)
theorem dX9_takeNumber_59 : decode cX9_takeNumber 59 = .ok (.aload_n 0, 1) := dk_42 (by decide +kernel)
theorem dX9_takeNumber_60 : decode cX9_takeNumber 60 = .ok (.getfield 81, 3) := dk_180 (by decide +kernel)
theorem dX9_takeNumber_63 : decode cX9_takeNumber 63 = .ok (.bipush 10, 2) := dk_16 (by decide +kernel)
theorem dX9_takeNumber_65 : decode cX9_takeNumber 65 = .ok (.imul, 1) := dk_104 (by decide +kernel)
theorem dX9_takeNumber_66 : decode cX9_takeNumber 66 = .ok (.aload_n 0, 1) := dk_42 (by decide +kernel)
theorem dX9_takeNumber_67 : decode cX9_takeNumber 67 = .ok (.getfield 9, 3) := dk_180 (by decide +kernel)
theorem dX9_takeNumber_70 : decode cX9_takeNumber 70 = .ok (.aload_n 0, 1) := dk_42 (by decide +kernel)
theorem dX9_takeNumber_71 : decode cX9_takeNumber 71 = .ok (.getfield 40, 3) := dk_180 (by decide +kernel)
theorem dX9_takeNumber_74 : decode cX9_takeNumber 74 = .ok (.baload, 1) := dk_51 (by decide +kernel)
theorem dX9_takeNumber_75 : decode cX9_takeNumber 75 = .ok (.iadd, 1) := dk_96 (by decide +kernel)
theorem dX9_takeNumber_76 : decode cX9_takeNumber 76 = .ok (.bipush 48, 2) := dk_16 (by decide +kernel)
theorem dX9_takeNumber_78 : decode cX9_takeNumber 78 = .ok (.isub, 1) := dk_100 (by decide +kernel)
theorem dX9_takeNumber_79 : decode cX9_takeNumber 79 = .ok (.putfield 81, 3) := dk_181 (by decide +kernel)
theorem dX9_takeNumber_82 : decode cX9_takeNumber 82 = .ok (.aload_n 0, 1) := dk_42 (by decide +kernel)
theorem dX9_takeNumber_83 : decode cX9_takeNumber 83 = .ok (.dup, 1) := dk_89 (by decide +kernel)
theorem dX9_takeNumber_84 : decode cX9_takeNumber 84 = .ok (.getfield 40, 3) := dk_180 (by decide +kernel)
theorem dX9_takeNumber_87 : decode cX9_takeNumber 87 = .ok (.iconst 1, 1) := dk_4 (by decide +kernel)
theorem dX9_takeNumber_88 : decode cX9_takeNumber 88 = .ok (.iadd, 1) := dk_96 (by decide +kernel)
theorem dX9_takeNumber_89 : decode cX9_takeNumber 89 = .ok (.putfield 40, 3) := dk_181 (by decide +kernel)
theorem dX9_takeNumber_92 : decode cX9_takeNumber 92 = .ok (.goto (-87), 3) := dk_167 (by decide +kernel)
theorem dX9_takeNumber_95 : decode cX9_takeNumber 95 = .ok (.aload_n 0, 1) := dk_42 (by decide +kernel)
theorem dX9_takeNumber_96 : decode cX9_takeNumber 96 = .ok (.aload_n 0, 1) := dk_42 (by decide +kernel)
theorem dX9_takeNumber_97 : decode cX9_takeNumber 97 = .ok (.getfield 40, 3) := dk_180 (by decide +kernel)
theorem dX9_takeNumber_100 : decode cX9_takeNumber 100 = .ok (.aload_n 0, 1) := dk_42 (by decide +kernel)
theorem dX9_takeNumber_101 : decode cX9_takeNumber 101 = .ok (.getfield 34, 3) := dk_180 (by decide +kernel)
theorem dX9_takeNumber_104 : decode cX9_takeNumber 104 = .ok (.isub, 1) := dk_100 (by decide +kernel)
theorem dX9_takeNumber_105 : decode cX9_takeNumber 105 = .ok (.bipush 6, 2) := dk_16 (by decide +kernel)
theorem dX9_takeNumber_107 : decode cX9_takeNumber 107 = .ok (.if_icmp .le 7, 3) := dk_164 (by decide +kernel)
theorem dX9_takeNumber_110 : decode cX9_takeNumber 110 = .ok (.iconst 3, 1) := dk_6 (by decide +kernel)
theorem dX9_takeNumber_111 : decode cX9_takeNumber 111 = .ok (.goto 4, 3) := dk_167 (by decide +kernel)
theorem dX9_takeNumber_114 : decode cX9_takeNumber 114 = .ok (.iconst 2, 1) := dk_5 (by decide +kernel)
theorem dX9_takeNumber_115 : decode cX9_takeNumber 115 = .ok (.putfield 37, 3) := dk_181 (by decide +kernel)
theorem dX9_takeNumber_118 : decode cX9_takeNumber 118 = .ok (.return_, 1) := dk_177 (by decide +kernel)
def wsMX9_takeNumber : List Cond := .code yX9_takeNumber cX9_takeNumber 1 none :: ([.fieldLink RX9 81 "OptimaWorks$Words" "number" "I", .fieldLink RX9 40 "OptimaWorks$Words" "next" "I", .fieldLink RX9 19 "OptimaWorks$Words" "length" "I", .fieldLink RX9 9 "OptimaWorks$Words" "tape" "[B", .fieldLink RX9 34 "OptimaWorks$Words" "at" "I", .fieldLink RX9 37 "OptimaWorks$Words" "kind" "I"] ++ wsX90)
theorem iwsMX9_takeNumber_in9 : ∀ w ∈ wsX90, w ∈ wsMX9_takeNumber := fun _ h => List.mem_cons_of_mem _ (List.mem_append_right _ h)
theorem gdwsMX9_takeNumber : wsMX9_takeNumber.all goodWord = true := gdC rfl (gdA (by decide +kernel : ([.fieldLink RX9 81 "OptimaWorks$Words" "number" "I", .fieldLink RX9 40 "OptimaWorks$Words" "next" "I", .fieldLink RX9 19 "OptimaWorks$Words" "length" "I", .fieldLink RX9 9 "OptimaWorks$Words" "tape" "[B", .fieldLink RX9 34 "OptimaWorks$Words" "at" "I", .fieldLink RX9 37 "OptimaWorks$Words" "kind" "I"] : List Cond).all goodWord = true) gdwsX90)
set_option maxHeartbeats 4000000 in
set_option maxRecDepth 100000 in
/-- a number -/
theorem m_X9_takeNumber (l : Launch) (dC : Nat → ClassId) (dI : Nat → Nat → Nat) (hT : Nat → Nat) (aT : Nat → Nat) (kT : Nat → ClassId) (fT_tape : Nat → Int32) (dT_tape : Nat) (nT_tape : Nat) (iT_length : Int32) (iT_fault : Int32) (iT_place : Int32) (iT_kind : Int32) (iT_at : Int32) (iT_number : Int32) (jT_name : Int64) (iT_next : Int32) (b_fT_tape : ∀ q : Nat, (-128) ≤ (fT_tape q).toInt ∧ (fT_tape q).toInt ≤ 127) (b_nT_tape : 64 ≤ nT_tape ∧ nT_tape ≤ 2560) (b_iT_length : 0 ≤ iT_length.toInt ∧ iT_length.toInt ≤ 1280) (b_iT_at : 0 ≤ iT_at.toInt ∧ iT_at.toInt ≤ 1282) (b_iT_number : 0 ≤ iT_number.toInt ∧ iT_number.toInt ≤ 999999) (b_iT_next : 0 ≤ iT_next.toInt ∧ iT_next.toInt ≤ 1282) (b_len : iT_length.toInt ≤ ((nT_tape : Nat) : Int)) (hnl : iT_next.toInt ≤ iT_length.toInt) (hat : iT_at.toInt = iT_next.toInt) (sz : Nat) : Met l yX9_takeNumber wsMX9_takeNumber ({ frames := 0, cells := 0, slots := 0, locals := 0 }) (va_Pc [.ref (hT 0)] (fun U => U.heap.size = sz ∧ va_P (dC, dI) vwCl (WT hT aT kT fT_tape dT_tape nT_tape iT_length iT_fault iT_place iT_kind iT_at iT_number jT_name iT_next) U.heap ∧ va_K (dC, dI) vwCl (tT kT) U ∧ va_D (fun _ => True) (WT hT aT kT fT_tape dT_tape nT_tape iT_length iT_fault iT_place iT_kind iT_at iT_number jT_name iT_next))) (va_Qv (fun (u : (Int32) × (Int32) × (Int32)) => (0 ≤ (u.2.1).toInt ∧ (u.2.1).toInt ≤ 999999) ∧ (0 ≤ (u.2.2).toInt ∧ (u.2.2).toInt ≤ 1282) ∧ ((u.2.2).toInt ≤ iT_length.toInt) ∧ (iT_next.toInt ≤ (u.2.2).toInt) ∧ ((u.1).toInt ≤ 3)) (fun (u : (Int32) × (Int32) × (Int32)) t => va_P (dC, dI) vwCl (WT hT aT kT fT_tape dT_tape nT_tape iT_length iT_fault iT_place (u.1) iT_at (u.2.1) jT_name (u.2.2)) t.heap ∧ va_D (va_A (WT hT aT kT fT_tape dT_tape nT_tape iT_length iT_fault iT_place iT_kind iT_at iT_number jT_name iT_next) sz) (WT hT aT kT fT_tape dT_tape nT_tape iT_length iT_fault iT_place (u.1) iT_at (u.2.1) jT_name (u.2.2))) (va_A (WT hT aT kT fT_tape dT_tape nT_tape iT_length iT_fault iT_place iT_kind iT_at iT_number jT_name iT_next) sz)) 0 0 (va_A (WT hT aT kT fT_tape dT_tape nT_tape iT_length iT_fault iT_place iT_kind iT_at iT_number jT_name iT_next) sz) := by
  refine Met.ofW (cc := cX9_takeNumber) (maxL := 1) (ret := none) (by decide) rfl ?_
  intro p e s m args below meth c s₁ B hml hv
  obtain ⟨rfl, hsz, hP, hK, hD0⟩ := hv
  have hx := B.exec
  have hb := B.bytes
  have hr := B.returns
  have hts := atoms_spec (ws := wsMX9_takeNumber) B.pre
  have hown : s.vm.findClass RX9 = some m.cls := findClass_of_methodNamed B.named
  have hlocks := B.notSynchronized
  subst hsz
  have hD := hD0.self (sz := s.heap.size)
  generalize hAe : va_A (WT hT aT kT fT_tape dT_tape nT_tape iT_length iT_fault iT_place iT_kind iT_at iT_number jT_name iT_next) s.heap.size = A at hD ⊢
  have hA : ∀ q : Nat, s.heap.size ≤ q → A q := fun q h => by rw [← hAe]; exact Or.inr h
  have hS : va_S A s.heap s.heap [] := va_S.rf
  have hl := lv_entry ([.ref (hT 0)]) (n := 1) (Nat.le_of_ble_eq_true rfl)
  rw [lg_entry_eq]
  generalize (lg_sl ([.ref (hT 0)]) ++ List.replicate (1 - (lg_sl ([.ref (hT 0)])).length) Slot.unset).toArray = ls at hl ⊢
  have hl : lv_has ls 1 [(0, .ref (hT 0))] := hl
  refine lv_aload_n hx hb dX9_takeNumber_0 rfl (lv_at hl 0 rfl) ?_
  refine lv_iconst (v := 0) hx hb dX9_takeNumber_1 (by decide) ?_
  refine va_put (D := (dC, dI)) (ci := 9) (v := .int 0) (ty := .int) (C := RX9) (T := TX9) (N := 9) hx hb hts iwsMX9_takeNumber_in9 tyX9 tyX9_ok nmX9 hown hK hP hD hS 0 rfl rfl 6 (by decide) (hts (.fieldLink RX9 81 "OptimaWorks$Words" "number" "I") (by decide +kernel)) (fun _ h9 => h9) rfl (by decide +kernel) rfl rfl (Nat.le_of_ble_eq_true rfl) dX9_takeNumber_2 (fun H locs hP hD hS => ?_)
  have hP : va_P (dC, dI) vwCl (WT hT aT kT fT_tape dT_tape nT_tape iT_length iT_fault iT_place iT_kind iT_at 0 jT_name iT_next) H := hP
  have hD : va_D A (WT hT aT kT fT_tape dT_tape nT_tape iT_length iT_fault iT_place iT_kind iT_at 0 jT_name iT_next) := hD
  have hl : lv_has _ _ ([(0, .ref (hT 0))]) := lv_sub hl [0] rfl
  refine (fun (loop : ∀ (n9 : Nat) (iT_number_x5 : Int32) (iT_next_x5 : Int32) (H : Heap) (locs : List Loc) (ls : Array Slot), (0 ≤ iT_number_x5.toInt ∧ iT_number_x5.toInt ≤ 999999) → (0 ≤ iT_next_x5.toInt ∧ iT_next_x5.toInt ≤ 1282) → (iT_next_x5.toInt ≤ iT_length.toInt) → (iT_next.toInt ≤ iT_next_x5.toInt) → ((iT_next_x5.toInt ≤ iT_at.toInt → iT_number_x5.toInt ≤ 0) ∧ (iT_next_x5.toInt ≤ iT_at.toInt + 1 → iT_number_x5.toInt ≤ 9) ∧ (iT_next_x5.toInt ≤ iT_at.toInt + 2 → iT_number_x5.toInt ≤ 99) ∧ (iT_next_x5.toInt ≤ iT_at.toInt + 3 → iT_number_x5.toInt ≤ 999) ∧ (iT_next_x5.toInt ≤ iT_at.toInt + 4 → iT_number_x5.toInt ≤ 9999) ∧ (iT_next_x5.toInt ≤ iT_at.toInt + 5 → iT_number_x5.toInt ≤ 99999)) → (1282 - iT_next_x5.toInt < ((n9 : Nat) : Int)) → va_P (dC, dI) vwCl (WT hT aT kT fT_tape dT_tape nT_tape iT_length iT_fault iT_place iT_kind iT_at iT_number_x5 jT_name iT_next_x5) H → va_D A (WT hT aT kT fT_tape dT_tape nT_tape iT_length iT_fault iT_place iT_kind iT_at iT_number_x5 jT_name iT_next_x5) → va_S A s.heap H locs → lv_has ls 1 [(0, .ref (hT 0))] → W p l e _ s m _ below meth c H locs 0 0 _ (F0 m 5 ls [])) => loop (1283) 0 iT_next _ _ _ (show 0 ≤ (0 : Int32).toInt ∧ (0 : Int32).toInt ≤ 999999 from by decide) (b_iT_next) (show iT_next.toInt ≤ iT_length.toInt from by omega) (show iT_next.toInt ≤ iT_next.toInt from by omega) (show (iT_next.toInt ≤ iT_at.toInt → (0 : Int32).toInt ≤ 0) ∧ (iT_next.toInt ≤ iT_at.toInt + 1 → (0 : Int32).toInt ≤ 9) ∧ (iT_next.toInt ≤ iT_at.toInt + 2 → (0 : Int32).toInt ≤ 99) ∧ (iT_next.toInt ≤ iT_at.toInt + 3 → (0 : Int32).toInt ≤ 999) ∧ (iT_next.toInt ≤ iT_at.toInt + 4 → (0 : Int32).toInt ≤ 9999) ∧ (iT_next.toInt ≤ iT_at.toInt + 5 → (0 : Int32).toInt ≤ 99999) from by have h8 : (0 : Int32).toInt = 0 := (by decide); omega) ((by have e9 : (iT_next).toInt = iT_next.toInt := rfl; omega)) hP hD hS hl) ?_
  intro n9
  induction n9 with
  | zero => intro iT_number_x5 iT_next_x5 H locs ls b_iT_number_x5 b_iT_next_x5 hnk hmo hdg hf9; exact False.elim (by omega)
  | succ n9 ihx5 =>
    intro iT_number_x5 iT_next_x5 H locs ls b_iT_number_x5 b_iT_next_x5 hnk hmo hdg hfx5 hP hD hS hl
    refine lv_aload_n hx hb dX9_takeNumber_5 rfl (lv_at hl 0 rfl) ?_
    refine va_get (D := (dC, dI)) (ci := 9) (v := .int iT_next_x5) (C := RX9) (T := TX9) (N := 9) hx hb hts iwsMX9_takeNumber_in9 hown hK hP 0 rfl rfl 8 (by decide) (hts (.fieldLink RX9 40 "OptimaWorks$Words" "next" "I") (by decide +kernel)) (fun _ h9 => h9) rfl dX9_takeNumber_6 ?_
    refine lv_aload_n hx hb dX9_takeNumber_9 rfl (lv_at hl 0 rfl) ?_
    refine va_get (D := (dC, dI)) (ci := 9) (v := .int iT_length) (C := RX9) (T := TX9) (N := 9) hx hb hts iwsMX9_takeNumber_in9 hown hK hP 0 rfl rfl 1 (by decide) (hts (.fieldLink RX9 19 "OptimaWorks$Words" "length" "I") (by decide +kernel)) (fun _ h9 => h9) rfl dX9_takeNumber_10 ?_
    refine W.cut (pc := 95) (fun H locs ls stk =>  stk = [] ∧ va_P (dC, dI) vwCl (WT hT aT kT fT_tape dT_tape nT_tape iT_length iT_fault iT_place iT_kind iT_at iT_number_x5 jT_name iT_next_x5) H ∧ va_D A (WT hT aT kT fT_tape dT_tape nT_tape iT_length iT_fault iT_place iT_kind iT_at iT_number_x5 jT_name iT_next_x5) ∧ va_S A s.heap H locs ∧ lv_has ls 1 [(0, .ref (hT 0))]) (fun join22 => ?_) ?_
    · refine lv_icmp_ge (tgt := 95) hx hb dX9_takeNumber_13 (by decide) (fun c_13 => ?_) (fun c_13 => ?_)
      · have t_13 : iT_next_x5.toInt ≥ iT_length.toInt := toI_ge c_13 rfl rfl
        have hl : lv_has _ _ ([(0, .ref (hT 0))]) := lv_sub hl [0] rfl
        exact join22 _ _ _ _ ⟨rfl, hP, hD, hS, hl⟩
      · have t_13 : ¬ iT_next_x5.toInt ≥ iT_length.toInt := toI_nge c_13 rfl rfl
        refine lv_aload_n hx hb dX9_takeNumber_16 rfl (lv_at hl 0 rfl) ?_
        refine va_get (D := (dC, dI)) (ci := 9) (v := .ref dT_tape) (C := RX9) (T := TX9) (N := 9) hx hb hts iwsMX9_takeNumber_in9 hown hK hP 0 rfl rfl 0 (by decide) (hts (.fieldLink RX9 9 "OptimaWorks$Words" "tape" "[B") (by decide +kernel)) (fun _ h9 => h9) rfl dX9_takeNumber_17 ?_
        refine lv_aload_n hx hb dX9_takeNumber_20 rfl (lv_at hl 0 rfl) ?_
        refine va_get (D := (dC, dI)) (ci := 9) (v := .int iT_next_x5) (C := RX9) (T := TX9) (N := 9) hx hb hts iwsMX9_takeNumber_in9 hown hK hP 0 rfl rfl 8 (by decide) (hts (.fieldLink RX9 40 "OptimaWorks$Words" "next" "I") (by decide +kernel)) (fun _ h9 => h9) rfl dX9_takeNumber_21 ?_
        refine va_bald (cA := kT 0) (n := nT_tape) (f := fT_tape) hx hb hK hP 1 0 rfl rfl (vp_in_iff.mpr ⟨b_iT_next_x5.1, (by omega)⟩) dX9_takeNumber_24 ?_
        refine lv_topi (fun v63 hv63 => ?_)
        have b_v63 : (-128) ≤ v63.toInt ∧ v63.toInt ≤ 127 := by rw [hv63]; exact b_fT_tape _
        have b1_v63 : v63 = fT_tape (iT_next_x5).toNatClampNeg := hv63
        clear hv63
        refine lv_bipush (v := 48) hx hb dX9_takeNumber_25 (by decide) ?_
        refine lv_icmp_lt (tgt := 95) hx hb dX9_takeNumber_27 (by decide) (fun c_27 => ?_) (fun c_27 => ?_)
        · have t_27 : v63.toInt < 48 := toI_lt c_27 rfl (by decide : (48 : Int32).toInt = 48)
          have hl : lv_has _ _ ([(0, .ref (hT 0))]) := lv_sub hl [0] rfl
          exact join22 _ _ _ _ ⟨rfl, hP, hD, hS, hl⟩
        · have t_27 : ¬ v63.toInt < 48 := toI_nlt c_27 rfl (by decide : (48 : Int32).toInt = 48)
          refine lv_aload_n hx hb dX9_takeNumber_30 rfl (lv_at hl 0 rfl) ?_
          refine va_get (D := (dC, dI)) (ci := 9) (v := .ref dT_tape) (C := RX9) (T := TX9) (N := 9) hx hb hts iwsMX9_takeNumber_in9 hown hK hP 0 rfl rfl 0 (by decide) (hts (.fieldLink RX9 9 "OptimaWorks$Words" "tape" "[B") (by decide +kernel)) (fun _ h9 => h9) rfl dX9_takeNumber_31 ?_
          refine lv_aload_n hx hb dX9_takeNumber_34 rfl (lv_at hl 0 rfl) ?_
          refine va_get (D := (dC, dI)) (ci := 9) (v := .int iT_next_x5) (C := RX9) (T := TX9) (N := 9) hx hb hts iwsMX9_takeNumber_in9 hown hK hP 0 rfl rfl 8 (by decide) (hts (.fieldLink RX9 40 "OptimaWorks$Words" "next" "I") (by decide +kernel)) (fun _ h9 => h9) rfl dX9_takeNumber_35 ?_
          refine va_bald (cA := kT 0) (n := nT_tape) (f := fT_tape) hx hb hK hP 1 0 rfl rfl (vp_in_iff.mpr ⟨b_iT_next_x5.1, (by omega)⟩) dX9_takeNumber_38 ?_
          refine lv_topi (fun v64 hv64 => ?_)
          have b_v64 : (-128) ≤ v64.toInt ∧ v64.toInt ≤ 127 := by rw [hv64]; exact b_fT_tape _
          have b1_v64 : v64 = fT_tape (iT_next_x5).toNatClampNeg := hv64
          have b2_v64 : v64.toInt = v63.toInt := by rw [hv64]; exact (congrArg Int32.toInt b1_v63).symm
          clear hv64
          refine lv_bipush (v := 57) hx hb dX9_takeNumber_39 (by decide) ?_
          refine lv_icmp_gt (tgt := 95) hx hb dX9_takeNumber_41 (by decide) (fun c_41 => ?_) (fun c_41 => ?_)
          · have t_41 : v64.toInt > 57 := toI_gt c_41 rfl (by decide : (57 : Int32).toInt = 57)
            have hl : lv_has _ _ ([(0, .ref (hT 0))]) := lv_sub hl [0] rfl
            exact join22 _ _ _ _ ⟨rfl, hP, hD, hS, hl⟩
          · have t_41 : ¬ v64.toInt > 57 := toI_ngt c_41 rfl (by decide : (57 : Int32).toInt = 57)
            refine lv_aload_n hx hb dX9_takeNumber_44 rfl (lv_at hl 0 rfl) ?_
            refine va_get (D := (dC, dI)) (ci := 9) (v := .int iT_next_x5) (C := RX9) (T := TX9) (N := 9) hx hb hts iwsMX9_takeNumber_in9 hown hK hP 0 rfl rfl 8 (by decide) (hts (.fieldLink RX9 40 "OptimaWorks$Words" "next" "I") (by decide +kernel)) (fun _ h9 => h9) rfl dX9_takeNumber_45 ?_
            refine lv_aload_n hx hb dX9_takeNumber_48 rfl (lv_at hl 0 rfl) ?_
            refine va_get (D := (dC, dI)) (ci := 9) (v := .int iT_at) (C := RX9) (T := TX9) (N := 9) hx hb hts iwsMX9_takeNumber_in9 hown hK hP 0 rfl rfl 5 (by decide) (hts (.fieldLink RX9 34 "OptimaWorks$Words" "at" "I") (by decide +kernel)) (fun _ h9 => h9) rfl dX9_takeNumber_49 ?_
            refine lv_isub hx hb dX9_takeNumber_52 ?_
            refine lv_topi (fun y65 hy65 => ?_)
            obtain rfl : (iI (iT_next_x5.toInt - iT_at.toInt)) = y65 := (hy65.trans (iI_sub2 (iI_of _) (iI_of _))).symm
            refine lv_bipush (v := 6) hx hb dX9_takeNumber_53 (by decide) ?_
            refine W.cut (pc := 82) (fun H locs ls stk => ∃ (iT_number_j23 : Int32), (0 ≤ iT_number_j23.toInt ∧ iT_number_j23.toInt ≤ 999999) ∧ (((iI (iT_next_x5.toInt + 1)).toInt ≤ iT_at.toInt → iT_number_j23.toInt ≤ 0) ∧ ((iI (iT_next_x5.toInt + 1)).toInt ≤ iT_at.toInt + 1 → iT_number_j23.toInt ≤ 9) ∧ ((iI (iT_next_x5.toInt + 1)).toInt ≤ iT_at.toInt + 2 → iT_number_j23.toInt ≤ 99) ∧ ((iI (iT_next_x5.toInt + 1)).toInt ≤ iT_at.toInt + 3 → iT_number_j23.toInt ≤ 999) ∧ ((iI (iT_next_x5.toInt + 1)).toInt ≤ iT_at.toInt + 4 → iT_number_j23.toInt ≤ 9999) ∧ ((iI (iT_next_x5.toInt + 1)).toInt ≤ iT_at.toInt + 5 → iT_number_j23.toInt ≤ 99999)) ∧  stk = [] ∧ va_P (dC, dI) vwCl (WT hT aT kT fT_tape dT_tape nT_tape iT_length iT_fault iT_place iT_kind iT_at iT_number_j23 jT_name iT_next_x5) H ∧ va_D A (WT hT aT kT fT_tape dT_tape nT_tape iT_length iT_fault iT_place iT_kind iT_at iT_number_j23 jT_name iT_next_x5) ∧ va_S A s.heap H locs ∧ lv_has ls 1 [(0, .ref (hT 0))]) (fun join23 => ?_) ?_
            · refine lv_icmp_ge (tgt := 82) hx hb dX9_takeNumber_55 (by decide) (fun c_55 => ?_) (fun c_55 => ?_)
              · have t_55 : (iT_next_x5.toInt - iT_at.toInt) ≥ 6 := toI_ge c_55 (iI_t (Int.le_trans (by decide) (Int.sub_le_sub (b_iT_next_x5.1) (b_iT_at.2))) (Int.le_trans (Int.sub_le_sub (b_iT_next_x5.2) (b_iT_at.1)) (by decide))) (by decide : (6 : Int32).toInt = 6)
                have hl : lv_has _ _ ([(0, .ref (hT 0))]) := lv_sub hl [0] rfl
                exact join23 _ _ _ _ ⟨iT_number_x5, (b_iT_number_x5), (show ((iI (iT_next_x5.toInt + 1)).toInt ≤ iT_at.toInt → iT_number_x5.toInt ≤ 0) ∧ ((iI (iT_next_x5.toInt + 1)).toInt ≤ iT_at.toInt + 1 → iT_number_x5.toInt ≤ 9) ∧ ((iI (iT_next_x5.toInt + 1)).toInt ≤ iT_at.toInt + 2 → iT_number_x5.toInt ≤ 99) ∧ ((iI (iT_next_x5.toInt + 1)).toInt ≤ iT_at.toInt + 3 → iT_number_x5.toInt ≤ 999) ∧ ((iI (iT_next_x5.toInt + 1)).toInt ≤ iT_at.toInt + 4 → iT_number_x5.toInt ≤ 9999) ∧ ((iI (iT_next_x5.toInt + 1)).toInt ≤ iT_at.toInt + 5 → iT_number_x5.toInt ≤ 99999) from by rw [iI_t (E := iT_next_x5.toInt + 1) (by omega) (by omega)]; (try rw [iI_t (by omega) (by omega)]); omega), rfl, hP, hD, hS, hl⟩
              · have t_55 : ¬ (iT_next_x5.toInt - iT_at.toInt) ≥ 6 := toI_nge c_55 (iI_t (Int.le_trans (by decide) (Int.sub_le_sub (b_iT_next_x5.1) (b_iT_at.2))) (Int.le_trans (Int.sub_le_sub (b_iT_next_x5.2) (b_iT_at.1)) (by decide))) (by decide : (6 : Int32).toInt = 6)
                refine lv_aload_n hx hb dX9_takeNumber_58 rfl (lv_at hl 0 rfl) ?_
                refine lv_aload_n hx hb dX9_takeNumber_59 rfl (lv_at hl 0 rfl) ?_
                refine va_get (D := (dC, dI)) (ci := 9) (v := .int iT_number_x5) (C := RX9) (T := TX9) (N := 9) hx hb hts iwsMX9_takeNumber_in9 hown hK hP 0 rfl rfl 6 (by decide) (hts (.fieldLink RX9 81 "OptimaWorks$Words" "number" "I") (by decide +kernel)) (fun _ h9 => h9) rfl dX9_takeNumber_60 ?_
                refine lv_bipush (v := 10) hx hb dX9_takeNumber_63 (by decide) ?_
                refine lv_imul hx hb dX9_takeNumber_65 ?_
                refine lv_topi (fun y70 hy70 => ?_)
                obtain rfl : (iI (iT_number_x5.toInt * 10)) = y70 := (hy70.trans (iI_mul2 (iI_of _) (by decide : (10 : Int32) = iI 10))).symm
                refine lv_aload_n hx hb dX9_takeNumber_66 rfl (lv_at hl 0 rfl) ?_
                refine va_get (D := (dC, dI)) (ci := 9) (v := .ref dT_tape) (C := RX9) (T := TX9) (N := 9) hx hb hts iwsMX9_takeNumber_in9 hown hK hP 0 rfl rfl 0 (by decide) (hts (.fieldLink RX9 9 "OptimaWorks$Words" "tape" "[B") (by decide +kernel)) (fun _ h9 => h9) rfl dX9_takeNumber_67 ?_
                refine lv_aload_n hx hb dX9_takeNumber_70 rfl (lv_at hl 0 rfl) ?_
                refine va_get (D := (dC, dI)) (ci := 9) (v := .int iT_next_x5) (C := RX9) (T := TX9) (N := 9) hx hb hts iwsMX9_takeNumber_in9 hown hK hP 0 rfl rfl 8 (by decide) (hts (.fieldLink RX9 40 "OptimaWorks$Words" "next" "I") (by decide +kernel)) (fun _ h9 => h9) rfl dX9_takeNumber_71 ?_
                refine va_bald (cA := kT 0) (n := nT_tape) (f := fT_tape) hx hb hK hP 1 0 rfl rfl (vp_in_iff.mpr ⟨b_iT_next_x5.1, (by omega)⟩) dX9_takeNumber_74 ?_
                refine lv_topi (fun v71 hv71 => ?_)
                have b_v71 : (-128) ≤ v71.toInt ∧ v71.toInt ≤ 127 := by rw [hv71]; exact b_fT_tape _
                have b1_v71 : v71 = fT_tape (iT_next_x5).toNatClampNeg := hv71
                have b2_v71 : v71.toInt = v64.toInt := by rw [hv71]; exact (congrArg Int32.toInt b1_v64).symm
                clear hv71
                refine lv_iadd hx hb dX9_takeNumber_75 ?_
                refine lv_topi (fun y72 hy72 => ?_)
                obtain rfl : (iI ((iT_number_x5.toInt * 10) + v71.toInt)) = y72 := (hy72.trans (iI_add2 rfl (iI_of _))).symm
                refine lv_bipush (v := 48) hx hb dX9_takeNumber_76 (by decide) ?_
                refine lv_isub hx hb dX9_takeNumber_78 ?_
                refine lv_topi (fun y73 hy73 => ?_)
                obtain rfl : (iI (((iT_number_x5.toInt * 10) + v71.toInt) - 48)) = y73 := (hy73.trans (iI_sub2 rfl (by decide : (48 : Int32) = iI 48))).symm
                refine va_put (D := (dC, dI)) (ci := 9) (v := .int (iI (((iT_number_x5.toInt * 10) + v71.toInt) - 48))) (ty := .int) (C := RX9) (T := TX9) (N := 9) hx hb hts iwsMX9_takeNumber_in9 tyX9 tyX9_ok nmX9 hown hK hP hD hS 0 rfl rfl 6 (by decide) (hts (.fieldLink RX9 81 "OptimaWorks$Words" "number" "I") (by decide +kernel)) (fun _ h9 => h9) rfl (by decide +kernel) rfl rfl (Nat.le_of_ble_eq_true rfl) dX9_takeNumber_79 (fun H locs hP hD hS => ?_)
                have hP : va_P (dC, dI) vwCl (WT hT aT kT fT_tape dT_tape nT_tape iT_length iT_fault iT_place iT_kind iT_at (iI (((iT_number_x5.toInt * 10) + v71.toInt) - 48)) jT_name iT_next_x5) H := hP
                have hD : va_D A (WT hT aT kT fT_tape dT_tape nT_tape iT_length iT_fault iT_place iT_kind iT_at (iI (((iT_number_x5.toInt * 10) + v71.toInt) - 48)) jT_name iT_next_x5) := hD
                have hl : lv_has _ _ ([(0, .ref (hT 0))]) := lv_sub hl [0] rfl
                exact join23 _ _ _ _ ⟨(iI (((iT_number_x5.toInt * 10) + v71.toInt) - 48)), (iI_rng (by omega) (by omega) (by decide) (by decide)), (show ((iI (iT_next_x5.toInt + 1)).toInt ≤ iT_at.toInt → (iI (((iT_number_x5.toInt * 10) + v71.toInt) - 48)).toInt ≤ 0) ∧ ((iI (iT_next_x5.toInt + 1)).toInt ≤ iT_at.toInt + 1 → (iI (((iT_number_x5.toInt * 10) + v71.toInt) - 48)).toInt ≤ 9) ∧ ((iI (iT_next_x5.toInt + 1)).toInt ≤ iT_at.toInt + 2 → (iI (((iT_number_x5.toInt * 10) + v71.toInt) - 48)).toInt ≤ 99) ∧ ((iI (iT_next_x5.toInt + 1)).toInt ≤ iT_at.toInt + 3 → (iI (((iT_number_x5.toInt * 10) + v71.toInt) - 48)).toInt ≤ 999) ∧ ((iI (iT_next_x5.toInt + 1)).toInt ≤ iT_at.toInt + 4 → (iI (((iT_number_x5.toInt * 10) + v71.toInt) - 48)).toInt ≤ 9999) ∧ ((iI (iT_next_x5.toInt + 1)).toInt ≤ iT_at.toInt + 5 → (iI (((iT_number_x5.toInt * 10) + v71.toInt) - 48)).toInt ≤ 99999) from by rw [iI_t (E := iT_next_x5.toInt + 1) (by omega) (by omega)]; (try rw [iI_t (by omega) (by omega)]); omega), rfl, hP, hD, hS, hl⟩
            · rintro H locs ls stk ⟨iT_number_j23, b_iT_number_j23, hjd, rfl, hP, hD, hS, hl⟩
              refine lv_aload_n hx hb dX9_takeNumber_82 rfl (lv_at hl 0 rfl) ?_
              refine lv_dup hx hb dX9_takeNumber_83 rfl ?_
              refine va_get (D := (dC, dI)) (ci := 9) (v := .int iT_next_x5) (C := RX9) (T := TX9) (N := 9) hx hb hts iwsMX9_takeNumber_in9 hown hK hP 0 rfl rfl 8 (by decide) (hts (.fieldLink RX9 40 "OptimaWorks$Words" "next" "I") (by decide +kernel)) (fun _ h9 => h9) rfl dX9_takeNumber_84 ?_
              refine lv_iconst (v := 1) hx hb dX9_takeNumber_87 (by decide) ?_
              refine lv_iadd hx hb dX9_takeNumber_88 ?_
              refine lv_topi (fun y74 hy74 => ?_)
              obtain rfl : (iI (iT_next_x5.toInt + 1)) = y74 := (hy74.trans (iI_add2 (iI_of _) (by decide : (1 : Int32) = iI 1))).symm
              refine va_put (D := (dC, dI)) (ci := 9) (v := .int (iI (iT_next_x5.toInt + 1))) (ty := .int) (C := RX9) (T := TX9) (N := 9) hx hb hts iwsMX9_takeNumber_in9 tyX9 tyX9_ok nmX9 hown hK hP hD hS 0 rfl rfl 8 (by decide) (hts (.fieldLink RX9 40 "OptimaWorks$Words" "next" "I") (by decide +kernel)) (fun _ h9 => h9) rfl (by decide +kernel) rfl rfl (Nat.le_of_ble_eq_true rfl) dX9_takeNumber_89 (fun H locs hP hD hS => ?_)
              have hP : va_P (dC, dI) vwCl (WT hT aT kT fT_tape dT_tape nT_tape iT_length iT_fault iT_place iT_kind iT_at iT_number_j23 jT_name (iI (iT_next_x5.toInt + 1))) H := hP
              have hD : va_D A (WT hT aT kT fT_tape dT_tape nT_tape iT_length iT_fault iT_place iT_kind iT_at iT_number_j23 jT_name (iI (iT_next_x5.toInt + 1))) := hD
              refine lv_goto (tgt := 5) hx hb dX9_takeNumber_92 (by decide) ?_
              have hl : lv_has _ _ ([(0, .ref (hT 0))]) := lv_sub hl [0] rfl
              exact ihx5 iT_number_j23 (iI (iT_next_x5.toInt + 1)) _ _ _ (b_iT_number_j23) (iI_rng (Int.le_trans (by decide) (Int.add_le_add (b_iT_next_x5.1) (Int.le_refl _))) (by omega) (by decide) (by decide)) (show (iI (iT_next_x5.toInt + 1)).toInt ≤ iT_length.toInt from by (try rw [iI_t (by omega) (by omega)]); omega) (show iT_next.toInt ≤ (iI (iT_next_x5.toInt + 1)).toInt from by (try rw [iI_t (by omega) (by omega)]); omega) (show ((iI (iT_next_x5.toInt + 1)).toInt ≤ iT_at.toInt → iT_number_j23.toInt ≤ 0) ∧ ((iI (iT_next_x5.toInt + 1)).toInt ≤ iT_at.toInt + 1 → iT_number_j23.toInt ≤ 9) ∧ ((iI (iT_next_x5.toInt + 1)).toInt ≤ iT_at.toInt + 2 → iT_number_j23.toInt ≤ 99) ∧ ((iI (iT_next_x5.toInt + 1)).toInt ≤ iT_at.toInt + 3 → iT_number_j23.toInt ≤ 999) ∧ ((iI (iT_next_x5.toInt + 1)).toInt ≤ iT_at.toInt + 4 → iT_number_j23.toInt ≤ 9999) ∧ ((iI (iT_next_x5.toInt + 1)).toInt ≤ iT_at.toInt + 5 → iT_number_j23.toInt ≤ 99999) from hjd) (by have e9 : ((iI (iT_next_x5.toInt + 1))).toInt = (iT_next_x5.toInt + 1) := (iI_t (Int.le_trans (by decide) (Int.add_le_add (b_iT_next_x5.1) (Int.le_refl _))) (Int.le_trans (Int.add_le_add (b_iT_next_x5.2) (Int.le_refl _)) (by decide))); omega) hP hD hS hl
    · rintro H locs ls stk ⟨rfl, hP, hD, hS, hl⟩
      refine lv_aload_n hx hb dX9_takeNumber_95 rfl (lv_at hl 0 rfl) ?_
      refine lv_aload_n hx hb dX9_takeNumber_96 rfl (lv_at hl 0 rfl) ?_
      refine va_get (D := (dC, dI)) (ci := 9) (v := .int iT_next_x5) (C := RX9) (T := TX9) (N := 9) hx hb hts iwsMX9_takeNumber_in9 hown hK hP 0 rfl rfl 8 (by decide) (hts (.fieldLink RX9 40 "OptimaWorks$Words" "next" "I") (by decide +kernel)) (fun _ h9 => h9) rfl dX9_takeNumber_97 ?_
      refine lv_aload_n hx hb dX9_takeNumber_100 rfl (lv_at hl 0 rfl) ?_
      refine va_get (D := (dC, dI)) (ci := 9) (v := .int iT_at) (C := RX9) (T := TX9) (N := 9) hx hb hts iwsMX9_takeNumber_in9 hown hK hP 0 rfl rfl 5 (by decide) (hts (.fieldLink RX9 34 "OptimaWorks$Words" "at" "I") (by decide +kernel)) (fun _ h9 => h9) rfl dX9_takeNumber_101 ?_
      refine lv_isub hx hb dX9_takeNumber_104 ?_
      refine lv_topi (fun y75 hy75 => ?_)
      obtain rfl : (iI (iT_next_x5.toInt - iT_at.toInt)) = y75 := (hy75.trans (iI_sub2 (iI_of _) (iI_of _))).symm
      refine lv_bipush (v := 6) hx hb dX9_takeNumber_105 (by decide) ?_
      refine W.cut (pc := 115) (fun H locs ls stk => ∃ (k0_j24 : Int32), (2 ≤ k0_j24.toInt ∧ k0_j24.toInt ≤ 3) ∧  stk = [.int k0_j24, .ref (hT 0)] ∧ va_P (dC, dI) vwCl (WT hT aT kT fT_tape dT_tape nT_tape iT_length iT_fault iT_place iT_kind iT_at iT_number_x5 jT_name iT_next_x5) H ∧ va_D A (WT hT aT kT fT_tape dT_tape nT_tape iT_length iT_fault iT_place iT_kind iT_at iT_number_x5 jT_name iT_next_x5) ∧ va_S A s.heap H locs ∧ lv_has ls 1 [(0, .ref (hT 0))]) (fun join24 => ?_) ?_
      · refine lv_icmp_le (tgt := 114) hx hb dX9_takeNumber_107 (by decide) (fun c_107 => ?_) (fun c_107 => ?_)
        · have t_107 : (iT_next_x5.toInt - iT_at.toInt) ≤ 6 := toI_le c_107 (iI_t (Int.le_trans (by decide) (Int.sub_le_sub (b_iT_next_x5.1) (b_iT_at.2))) (Int.le_trans (Int.sub_le_sub (b_iT_next_x5.2) (b_iT_at.1)) (by decide))) (by decide : (6 : Int32).toInt = 6)
          refine lv_iconst (v := 2) hx hb dX9_takeNumber_114 (by decide) ?_
          have hl : lv_has _ _ ([(0, .ref (hT 0))]) := lv_sub hl [0] rfl
          exact join24 _ _ _ _ ⟨2, (show 2 ≤ (2 : Int32).toInt ∧ (2 : Int32).toInt ≤ 3 from by decide), rfl, hP, hD, hS, hl⟩
        · have t_107 : ¬ (iT_next_x5.toInt - iT_at.toInt) ≤ 6 := toI_nle c_107 (iI_t (Int.le_trans (by decide) (Int.sub_le_sub (b_iT_next_x5.1) (b_iT_at.2))) (Int.le_trans (Int.sub_le_sub (b_iT_next_x5.2) (b_iT_at.1)) (by decide))) (by decide : (6 : Int32).toInt = 6)
          refine lv_iconst (v := 3) hx hb dX9_takeNumber_110 (by decide) ?_
          refine lv_goto (tgt := 115) hx hb dX9_takeNumber_111 (by decide) ?_
          have hl : lv_has _ _ ([(0, .ref (hT 0))]) := lv_sub hl [0] rfl
          exact join24 _ _ _ _ ⟨3, (show 2 ≤ (3 : Int32).toInt ∧ (3 : Int32).toInt ≤ 3 from by decide), rfl, hP, hD, hS, hl⟩
      · rintro H locs ls stk ⟨k0_j24, b_k0_j24, rfl, hP, hD, hS, hl⟩
        refine va_put (D := (dC, dI)) (ci := 9) (v := .int k0_j24) (ty := .int) (C := RX9) (T := TX9) (N := 9) hx hb hts iwsMX9_takeNumber_in9 tyX9 tyX9_ok nmX9 hown hK hP hD hS 0 rfl rfl 4 (by decide) (hts (.fieldLink RX9 37 "OptimaWorks$Words" "kind" "I") (by decide +kernel)) (fun _ h9 => h9) rfl (by decide +kernel) rfl rfl (Nat.le_of_ble_eq_true rfl) dX9_takeNumber_115 (fun H locs hP hD hS => ?_)
        have hP : va_P (dC, dI) vwCl (WT hT aT kT fT_tape dT_tape nT_tape iT_length iT_fault iT_place k0_j24 iT_at iT_number_x5 jT_name iT_next_x5) H := hP
        have hD : va_D A (WT hT aT kT fT_tape dT_tape nT_tape iT_length iT_fault iT_place k0_j24 iT_at iT_number_x5 jT_name iT_next_x5) := hD
        refine W.widen (k := 0) (n := 0) (by decide +kernel) (by decide +kernel) ?_
        exact W.vret hx hb hr (fun t9_ ht hW => ⟨⟨(k0_j24, iT_number_x5, iT_next_x5), rfl, ⟨(by (try dsimp only); exact (b_iT_number_x5)), (by (try dsimp only); exact (b_iT_next_x5)), (by (try dsimp only); exact (hnk)), (by (try dsimp only); exact (hmo)), (by (try dsimp only); first | decide | omega)⟩, by rw [ht]; exact hP, hD⟩, hS.F ht⟩) hS.2.2 dX9_takeNumber_118
end
section
theorem hd_yJ0_indexOf_0f7a4_RJ0 : yJ0_indexOf_0f7a4.cls = RJ0 ∧ yJ0_indexOf_0f7a4.cls ≠ "java/lang/invoke/MethodHandle" ∧ yJ0_indexOf_0f7a4.cls ≠ "java/lang/invoke/VarHandle" ∧ (parseMethodDescriptor yJ0_indexOf_0f7a4.desc).map (fun d => d.parameters.length) = some 1 := by decide +kernel
theorem hd_yX9_skipBlanks_RX9 : yX9_skipBlanks.cls = RX9 ∧ yX9_skipBlanks.cls ≠ "java/lang/invoke/MethodHandle" ∧ yX9_skipBlanks.cls ≠ "java/lang/invoke/VarHandle" ∧ (parseMethodDescriptor yX9_skipBlanks.desc).map (fun d => d.parameters.length) = some 0 := by decide +kernel
theorem hd_yX9_takeSign_RX9 : yX9_takeSign.cls = RX9 ∧ yX9_takeSign.cls ≠ "java/lang/invoke/MethodHandle" ∧ yX9_takeSign.cls ≠ "java/lang/invoke/VarHandle" ∧ (parseMethodDescriptor yX9_takeSign.desc).map (fun d => d.parameters.length) = some 1 := by decide +kernel
theorem hd_yX9_takeNumber_RX9 : yX9_takeNumber.cls = RX9 ∧ yX9_takeNumber.cls ≠ "java/lang/invoke/MethodHandle" ∧ yX9_takeNumber.cls ≠ "java/lang/invoke/VarHandle" ∧ (parseMethodDescriptor yX9_takeNumber.desc).map (fun d => d.parameters.length) = some 0 := by decide +kernel
theorem hd_yX9_takeName_RX9 : yX9_takeName.cls = RX9 ∧ yX9_takeName.cls ≠ "java/lang/invoke/MethodHandle" ∧ yX9_takeName.cls ≠ "java/lang/invoke/VarHandle" ∧ (parseMethodDescriptor yX9_takeName.desc).map (fun d => d.parameters.length) = some 0 := by decide +kernel
theorem hd_yX9_keywordOf_RX9 : yX9_keywordOf.cls = RX9 ∧ yX9_keywordOf.cls ≠ "java/lang/invoke/MethodHandle" ∧ yX9_keywordOf.cls ≠ "java/lang/invoke/VarHandle" ∧ (parseMethodDescriptor yX9_keywordOf.desc).map (fun d => d.parameters.length) = some 1 := by decide +kernel
theorem hd_yX9_advance_RX9 : yX9_advance.cls = RX9 ∧ yX9_advance.cls ≠ "java/lang/invoke/MethodHandle" ∧ yX9_advance.cls ≠ "java/lang/invoke/VarHandle" ∧ (parseMethodDescriptor yX9_advance.desc).map (fun d => d.parameters.length) = some 0 := by decide +kernel
theorem hd_yX9_failWord_RX9 : yX9_failWord.cls = RX9 ∧ yX9_failWord.cls ≠ "java/lang/invoke/MethodHandle" ∧ yX9_failWord.cls ≠ "java/lang/invoke/VarHandle" ∧ (parseMethodDescriptor yX9_failWord.desc).map (fun d => d.parameters.length) = some 0 := by decide +kernel
theorem dX9_keywordOf_0 : decode cX9_keywordOf 0 = .ok (.sipush 256, 3) := dk_17 (by decide +kernel)
theorem dX9_keywordOf_3 : decode cX9_keywordOf 3 = .ok (.istore_n 2, 1) := dk_61 (by decide +kernel)
theorem dX9_keywordOf_4 : decode cX9_keywordOf 4 = .ok (.iconst 0, 1) := dk_3 (by decide +kernel)
theorem dX9_keywordOf_5 : decode cX9_keywordOf 5 = .ok (.istore_n 3, 1) := dk_62 (by decide +kernel)
theorem dX9_keywordOf_6 : decode cX9_keywordOf 6 = .ok (.iconst 1, 1) := dk_4 (by decide +kernel)
theorem dX9_keywordOf_7 : decode cX9_keywordOf 7 = .ok (.istore 4, 2) := dk_54 (by decide +kernel)
theorem dX9_keywordOf_9 : decode cX9_keywordOf 9 = .ok (.iconst 0, 1) := dk_3 (by decide +kernel)
theorem dX9_keywordOf_10 : decode cX9_keywordOf 10 = .ok (.istore 5, 2) := dk_54 (by decide +kernel)
theorem dX9_keywordOf_12 : decode cX9_keywordOf 12 = .ok (.iload 5, 2) := dk_21 (by decide +kernel)
theorem dX9_keywordOf_14 : decode cX9_keywordOf 14 = .ok (.ldc 70, 2) := dk_18 (by decide +kernel)
theorem dX9_keywordOf_16 : decode cX9_keywordOf 16 = .ok (.invokevirtual 72, 3) := dk_182 (by decide +kernel)
theorem dX9_keywordOf_19 : decode cX9_keywordOf 19 = .ok (.if_icmp .ge 84, 3) := dk_162 (by decide +kernel)
theorem dX9_keywordOf_22 : decode cX9_keywordOf 22 = .ok (.ldc 70, 2) := dk_18 (by decide +kernel)
theorem dX9_keywordOf_24 : decode cX9_keywordOf 24 = .ok (.iload 5, 2) := dk_21 (by decide +kernel)
theorem dX9_keywordOf_26 : decode cX9_keywordOf 26 = .ok (.invokevirtual 77, 3) := dk_182 (by decide +kernel)
theorem dX9_keywordOf_29 : decode cX9_keywordOf 29 = .ok (.istore 6, 2) := dk_54 (by decide +kernel)
theorem dX9_keywordOf_31 : decode cX9_keywordOf 31 = .ok (.iload 6, 2) := dk_21 (by decide +kernel)
theorem dX9_keywordOf_33 : decode cX9_keywordOf 33 = .ok (.bipush 32, 2) := dk_16 (by decide +kernel)
theorem dX9_keywordOf_35 : decode cX9_keywordOf 35 = .ok (.if_icmp .eq 42, 3) := dk_159 (by decide +kernel)
theorem dX9_keywordOf_38 : decode cX9_keywordOf 38 = .ok (.iload 4, 2) := dk_21 (by decide +kernel)
theorem dX9_keywordOf_40 : decode cX9_keywordOf 40 = .ok (.ifCond .eq 28, 3) := dk_153 (by decide +kernel)
theorem dX9_keywordOf_43 : decode cX9_keywordOf 43 = .ok (.iload_n 3, 1) := dk_29 (by decide +kernel)
theorem dX9_keywordOf_44 : decode cX9_keywordOf 44 = .ok (.iload_n 1, 1) := dk_27 (by decide +kernel)
theorem dX9_keywordOf_45 : decode cX9_keywordOf 45 = .ok (.if_icmp .ge 23, 3) := dk_162 (by decide +kernel)
theorem dX9_keywordOf_48 : decode cX9_keywordOf 48 = .ok (.aload_n 0, 1) := dk_42 (by decide +kernel)
theorem dX9_keywordOf_49 : decode cX9_keywordOf 49 = .ok (.getfield 9, 3) := dk_180 (by decide +kernel)
theorem dX9_keywordOf_52 : decode cX9_keywordOf 52 = .ok (.aload_n 0, 1) := dk_42 (by decide +kernel)
theorem dX9_keywordOf_53 : decode cX9_keywordOf 53 = .ok (.getfield 34, 3) := dk_180 (by decide +kernel)
theorem dX9_keywordOf_56 : decode cX9_keywordOf 56 = .ok (.iload_n 3, 1) := dk_29 (by decide +kernel)
theorem dX9_keywordOf_57 : decode cX9_keywordOf 57 = .ok (.iadd, 1) := dk_96 (by decide +kernel)
theorem dX9_keywordOf_58 : decode cX9_keywordOf 58 = .ok (.baload, 1) := dk_51 (by decide +kernel)
theorem dX9_keywordOf_59 : decode cX9_keywordOf 59 = .ok (.iload 6, 2) := dk_21 (by decide +kernel)
theorem dX9_keywordOf_61 : decode cX9_keywordOf 61 = .ok (.if_icmp .ne 7, 3) := dk_160 (by decide +kernel)
theorem dX9_keywordOf_64 : decode cX9_keywordOf 64 = .ok (.iconst 1, 1) := dk_4 (by decide +kernel)
theorem dX9_keywordOf_65 : decode cX9_keywordOf 65 = .ok (.goto 4, 3) := dk_167 (by decide +kernel)
theorem dX9_keywordOf_68 : decode cX9_keywordOf 68 = .ok (.iconst 0, 1) := dk_3 (by decide +kernel)
theorem dX9_keywordOf_69 : decode cX9_keywordOf 69 = .ok (.istore 4, 2) := dk_54 (by decide +kernel)
theorem dX9_keywordOf_71 : decode cX9_keywordOf 71 = .ok (.iinc 3 1, 3) := dk_132 (by decide +kernel)
theorem dX9_keywordOf_74 : decode cX9_keywordOf 74 = .ok (.goto 23, 3) := dk_167 (by decide +kernel)
theorem dX9_keywordOf_77 : decode cX9_keywordOf 77 = .ok (.iload 4, 2) := dk_21 (by decide +kernel)
theorem dX9_keywordOf_79 : decode cX9_keywordOf 79 = .ok (.ifCond .eq 10, 3) := dk_153 (by decide +kernel)
theorem dX9_keywordOf_82 : decode cX9_keywordOf 82 = .ok (.iload_n 3, 1) := dk_29 (by decide +kernel)
theorem dX9_keywordOf_83 : decode cX9_keywordOf 83 = .ok (.iload_n 1, 1) := dk_27 (by decide +kernel)
theorem dX9_keywordOf_84 : decode cX9_keywordOf 84 = .ok (.if_icmp .ne 5, 3) := dk_160 (by decide +kernel)
theorem dX9_keywordOf_87 : decode cX9_keywordOf 87 = .ok (.iload_n 2, 1) := dk_28 (by decide +kernel)
theorem dX9_keywordOf_88 : decode cX9_keywordOf 88 = .ok (.ireturn, 1) := dk_172 (by decide +kernel)
theorem dX9_keywordOf_89 : decode cX9_keywordOf 89 = .ok (.iinc 2 1, 3) := dk_132 (by decide +kernel)
theorem dX9_keywordOf_92 : decode cX9_keywordOf 92 = .ok (.iconst 0, 1) := dk_3 (by decide +kernel)
theorem dX9_keywordOf_93 : decode cX9_keywordOf 93 = .ok (.istore_n 3, 1) := dk_62 (by decide +kernel)
theorem dX9_keywordOf_94 : decode cX9_keywordOf 94 = .ok (.iconst 1, 1) := dk_4 (by decide +kernel)
theorem dX9_keywordOf_95 : decode cX9_keywordOf 95 = .ok (.istore 4, 2) := dk_54 (by decide +kernel)
theorem dX9_keywordOf_97 : decode cX9_keywordOf 97 = .ok (.iinc 5 1, 3) := dk_132 (by decide +kernel)
theorem dX9_keywordOf_100 : decode cX9_keywordOf 100 = .ok (.goto (-88), 3) := dk_167 (by decide +kernel)
theorem dX9_keywordOf_103 : decode cX9_keywordOf 103 = .ok (.iconst (-1), 1) := dk_2 (by decide +kernel)
theorem dX9_keywordOf_104 : decode cX9_keywordOf 104 = .ok (.ireturn, 1) := dk_172 (by decide +kernel)
def wsMX9_keywordOf : List Cond := .code yX9_keywordOf cX9_keywordOf 7 (some .int) :: ([.fieldLink RX9 9 "OptimaWorks$Words" "tape" "[B", .fieldLink RX9 34 "OptimaWorks$Words" "at" "I"] ++ wsX90 ++ (wsV RX9 72 RJ0 yJ0_length_8abf5 wsMJ0_length_8abf5) ++ (wsV RX9 77 RJ0 yJ0_charAt_5068e wsRJ0ca))
theorem iwsMX9_keywordOf_in9 : ∀ w ∈ wsX90, w ∈ wsMX9_keywordOf := fun _ h => List.mem_cons_of_mem _ (List.mem_append_left _ (List.mem_append_left _ (List.mem_append_right _ h)))
theorem gwsMX9_keywordOf_0 : GoodIn wsMX9_keywordOf (wsV RX9 72 RJ0 yJ0_length_8abf5 wsMJ0_length_8abf5) := goodIn_sub (fun _ h => List.mem_cons_of_mem _ (List.mem_append_left _ (List.mem_append_right _ h))) (gdV (by decide +kernel) gdwsMJ0_length_8abf5)
theorem gwsMX9_keywordOf_1 : GoodIn wsMX9_keywordOf (wsV RX9 77 RJ0 yJ0_charAt_5068e wsRJ0ca) := goodIn_sub (fun _ h => List.mem_cons_of_mem _ (List.mem_append_right _ h)) (gdV (by decide +kernel) gdwsRJ0ca)
theorem gdwsMX9_keywordOf : wsMX9_keywordOf.all goodWord = true := gdC rfl (gdA (gdA (gdA (by decide +kernel : ([.fieldLink RX9 9 "OptimaWorks$Words" "tape" "[B", .fieldLink RX9 34 "OptimaWorks$Words" "at" "I"] : List Cond).all goodWord = true) gdwsX90) (gdV (by decide +kernel) gdwsMJ0_length_8abf5)) (gdV (by decide +kernel) gdwsRJ0ca))
set_option maxHeartbeats 4000000 in
set_option maxRecDepth 100000 in
/-- which keyword -/
theorem m_X9_keywordOf (l : Launch) (hst : l.stackTraces = false) (dC : Nat → ClassId) (dI : Nat → Nat → Nat) (hT : Nat → Nat) (aT : Nat → Nat) (kT : Nat → ClassId) (fT_tape : Nat → Int32) (dT_tape : Nat) (nT_tape : Nat) (iT_length : Int32) (iT_fault : Int32) (iT_place : Int32) (iT_kind : Int32) (iT_at : Int32) (iT_number : Int32) (jT_name : Int64) (iT_next : Int32) (p1 : Int32) (b_fT_tape : ∀ q : Nat, (-128) ≤ (fT_tape q).toInt ∧ (fT_tape q).toInt ≤ 127) (b_nT_tape : 64 ≤ nT_tape ∧ nT_tape ≤ 2560) (b_iT_length : 0 ≤ iT_length.toInt ∧ iT_length.toInt ≤ 1280) (b_iT_at : 0 ≤ iT_at.toInt ∧ iT_at.toInt ≤ 1282) (b_iT_number : 0 ≤ iT_number.toInt ∧ iT_number.toInt ≤ 999999) (b_iT_next : 0 ≤ iT_next.toInt ∧ iT_next.toInt ≤ 1282) (b_len : iT_length.toInt ≤ ((nT_tape : Nat) : Int)) (b_p1 : 0 ≤ p1.toInt ∧ p1.toInt ≤ 1282) (hat : iT_at.toInt + p1.toInt ≤ ((nT_tape : Nat) : Int)) (sz : Nat) : Met l yX9_keywordOf wsMX9_keywordOf ({ frames := 4, cells := 0, slots := 0, locals := 85 }) (va_Pc [.ref (hT 0), .int p1] (fun U => U.heap.size = sz ∧ va_P (dC, dI) vwCl (WT hT aT kT fT_tape dT_tape nT_tape iT_length iT_fault iT_place iT_kind iT_at iT_number jT_name iT_next) U.heap ∧ va_K (dC, dI) vwCl (tT kT) U ∧ va_D (fun _ => True) (WT hT aT kT fT_tape dT_tape nT_tape iT_length iT_fault iT_place iT_kind iT_at iT_number jT_name iT_next) ∧ CE (va_A (WT hT aT kT fT_tape dT_tape nT_tape iT_length iT_fault iT_place iT_kind iT_at iT_number jT_name iT_next) sz) U U.heap)) (va_Qi (fun (r : Int32) (u : Unit) => ((-1) ≤ r.toInt ∧ r.toInt ≤ 1000) ∧ (r.toInt = -1 ∨ 256 ≤ r.toInt)) (fun (u : Unit) t => va_P (dC, dI) vwCl (WT hT aT kT fT_tape dT_tape nT_tape iT_length iT_fault iT_place iT_kind iT_at iT_number jT_name iT_next) t.heap ∧ va_D (va_A (WT hT aT kT fT_tape dT_tape nT_tape iT_length iT_fault iT_place iT_kind iT_at iT_number jT_name iT_next) sz) (WT hT aT kT fT_tape dT_tape nT_tape iT_length iT_fault iT_place iT_kind iT_at iT_number jT_name iT_next)) (va_A (WT hT aT kT fT_tape dT_tape nT_tape iT_length iT_fault iT_place iT_kind iT_at iT_number jT_name iT_next) sz)) 0 0 (va_A (WT hT aT kT fT_tape dT_tape nT_tape iT_length iT_fault iT_place iT_kind iT_at iT_number jT_name iT_next) sz) := by
  refine Met.ofW (cc := cX9_keywordOf) (maxL := 7) (ret := (some .int)) (by decide) rfl ?_
  intro p e s m args below meth c s₁ B hml hv
  obtain ⟨rfl, hsz, hP, hK, hD0, hE⟩ := hv
  have hx := B.exec
  have hb := B.bytes
  have hr := B.returns
  have hts := atoms_spec (ws := wsMX9_keywordOf) B.pre
  have hown : s.vm.findClass RX9 = some m.cls := findClass_of_methodNamed B.named
  have hlocks := B.notSynchronized
  subst hsz
  have hD := hD0.self (sz := s.heap.size)
  generalize hAe : va_A (WT hT aT kT fT_tape dT_tape nT_tape iT_length iT_fault iT_place iT_kind iT_at iT_number jT_name iT_next) s.heap.size = A at hD hE ⊢
  have hA : ∀ q : Nat, s.heap.size ≤ q → A q := fun q h => by rw [← hAe]; exact Or.inr h
  have hS : va_S A s.heap s.heap [] := va_S.rf
  have hl := lv_entry ([.ref (hT 0), .int p1]) (n := 7) (Nat.le_of_ble_eq_true rfl)
  rw [lg_entry_eq]
  generalize (lg_sl ([.ref (hT 0), .int p1]) ++ List.replicate (7 - (lg_sl ([.ref (hT 0), .int p1])).length) Slot.unset).toArray = ls at hl ⊢
  have hl : lv_has ls 7 [(0, .ref (hT 0)), (1, .int p1)] := hl
  refine lv_sipush (v := 256) hx hb dX9_keywordOf_0 (by decide) ?_
  refine lv_istore_n hx hb dX9_keywordOf_3 rfl hl (by decide) rfl (fun ls (hl : lv_has ls _ ([(2, .int 256), (0, .ref (hT 0)), (1, .int p1)])) => ?_)
  refine lv_iconst (v := 0) hx hb dX9_keywordOf_4 (by decide) ?_
  refine lv_istore_n hx hb dX9_keywordOf_5 rfl hl (by decide) rfl (fun ls (hl : lv_has ls _ ([(3, .int 0), (2, .int 256), (0, .ref (hT 0)), (1, .int p1)])) => ?_)
  refine lv_iconst (v := 1) hx hb dX9_keywordOf_6 (by decide) ?_
  refine lv_istore hx hb dX9_keywordOf_7 hl (by decide) rfl (fun ls (hl : lv_has ls _ ([(4, .int 1), (3, .int 0), (2, .int 256), (0, .ref (hT 0)), (1, .int p1)])) => ?_)
  refine lv_iconst (v := 0) hx hb dX9_keywordOf_9 (by decide) ?_
  refine lv_istore hx hb dX9_keywordOf_10 hl (by decide) rfl (fun ls (hl : lv_has ls _ ([(5, .int 0), (4, .int 1), (3, .int 0), (2, .int 256), (0, .ref (hT 0)), (1, .int p1)])) => ?_)
  have hl : lv_has _ _ ([(5, .int 0), (4, .int 1), (3, .int 0), (2, .int 256), (0, .ref (hT 0)), (1, .int p1)]) := lv_sub hl [0, 1, 2, 3, 4, 5] rfl
  refine (fun (loop : ∀ (n9 : Nat) (l5_x12 : Int32) (l4_x12 : Int32) (l3_x12 : Int32) (l2_x12 : Int32) (H : Heap) (locs : List Loc) (ls : Array Slot), (0 ≤ l5_x12.toInt ∧ l5_x12.toInt ≤ 71) → (0 ≤ l4_x12.toInt ∧ l4_x12.toInt ≤ 1) → (0 ≤ l3_x12.toInt ∧ l3_x12.toInt ≤ 71) → (256 ≤ l2_x12.toInt ∧ l2_x12.toInt ≤ 327) → (l2_x12.toInt ≤ 256 + l5_x12.toInt) → (l3_x12.toInt ≤ l5_x12.toInt) → (71 - l5_x12.toInt < ((n9 : Nat) : Int)) → va_P (dC, dI) vwCl (WT hT aT kT fT_tape dT_tape nT_tape iT_length iT_fault iT_place iT_kind iT_at iT_number jT_name iT_next) H → va_D A (WT hT aT kT fT_tape dT_tape nT_tape iT_length iT_fault iT_place iT_kind iT_at iT_number jT_name iT_next) → va_S A s.heap H locs → lv_has ls 7 [(5, .int l5_x12), (4, .int l4_x12), (3, .int l3_x12), (2, .int l2_x12), (0, .ref (hT 0)), (1, .int p1)] → W p l e _ s m _ below meth c H locs 0 0 _ (F0 m 12 ls [])) => loop (72) 0 1 0 256 _ _ _ (show 0 ≤ (0 : Int32).toInt ∧ (0 : Int32).toInt ≤ 71 from by decide) (show 0 ≤ (1 : Int32).toInt ∧ (1 : Int32).toInt ≤ 1 from by decide) (show 0 ≤ (0 : Int32).toInt ∧ (0 : Int32).toInt ≤ 71 from by decide) (show 256 ≤ (256 : Int32).toInt ∧ (256 : Int32).toInt ≤ 327 from by decide) (show (256 : Int32).toInt ≤ 256 + (0 : Int32).toInt from by decide) (show (0 : Int32).toInt ≤ (0 : Int32).toInt from by decide) ((by have e9 : (0 : Int32).toInt = 0 := (by decide : (0 : Int32).toInt = 0); omega)) hP hD hS hl) ?_
  intro n9
  induction n9 with
  | zero => intro l5_x12 l4_x12 l3_x12 l2_x12 H locs ls b_l5_x12 b_l4_x12 b_l3_x12 b_l2_x12 hw2 hw3 hf9; exact False.elim (by omega)
  | succ n9 ihx12 =>
    intro l5_x12 l4_x12 l3_x12 l2_x12 H locs ls b_l5_x12 b_l4_x12 b_l3_x12 b_l2_x12 hw2 hw3 hfx12 hP hD hS hl
    refine lv_iload hx hb dX9_keywordOf_12 (lv_at hl 0 rfl) ?_
    obtain ⟨qS70, hR70, hSS70⟩ := hE.2.2.2 22 _ rfl
    refine va_ldcS hx hb hown hR70 dX9_keywordOf_14 ?_
    have hFc := noneFree hS hA
    refine va_calli (va_runV (As := []) (rest := [.int l5_x12]) ⟨hx, hb, hml, hown, hts⟩ (m_J0_length_8abf5 l dC dI qS70 71 (fun j => ([115, 101, 116, 32, 112, 97, 114, 97, 109, 32, 118, 97, 114, 32, 119, 104, 111, 108, 101, 32, 102, 114, 111, 109, 32, 116, 111, 32, 114, 111, 119, 32, 111, 114, 32, 105, 102, 32, 97, 110, 100, 32, 110, 111, 116, 32, 105, 110, 32, 115, 117, 109, 32, 100, 105, 102, 102, 101, 114, 101, 110, 116, 32, 109, 105, 110, 32, 109, 97, 120, 32] : List Int32).getD j 0) (by decide) H.size) (cwV 0 hts gwsMX9_keywordOf_0 rfl rfl rfl hd_yJ0_length_8abf5_RJ0 (by decide +kernel)) ⟨fun a U g mk q => by obtain ⟨q0, q1, qP, qK, qD, qE⟩ := q; exact ⟨q0, q1, qP, va_K.moved (u := U) (U := U.calling g mk a) (Vm.Alike.refl U.vm) qK, qD, qE.same rfl⟩, hSS70.recv hS, fun U hU9 hW => ⟨rfl, by rw [hU9], by rw [hU9]; exact nilP, va_K.moved hW.alike (hK.sub (tys' := []) [] rfl), nilD, by rw [hU9]; exact (((hSS70 : (StrE qS70 71 (fun j => ([115, 101, 116, 32, 112, 97, 114, 97, 109, 32, 118, 97, 114, 32, 119, 104, 111, 108, 101, 32, 102, 114, 111, 109, 32, 116, 111, 32, 114, 111, 119, 32, 111, 114, 32, 105, 102, 32, 97, 110, 100, 32, 110, 111, 116, 32, 105, 110, 32, 115, 117, 109, 32, 100, 105, 102, 102, 101, 114, 101, 110, 116, 32, 109, 105, 110, 32, 109, 97, 120, 32] : List Int32).getD j 0)) A s s.heap).kept hS.2.1).narrow (fun q h => hFc q h)).warm hW⟩⟩ rfl rfl hl.1 rfl (lv_room (Nat.le_of_ble_eq_true rfl)) dX9_keywordOf_16 (by decide +kernel)) hS (fun q _ h => hFc q h) hFc (fun r15 u t9_ H1 locs ht hvm hw9 hB9 hz1 hk1 hS => ?_)
    have f15_0 := hw9
    try dsimp only at f15_0
    clear hB9
    have hP := keepAll hP hk1
    generalize H1 = H at hP hS ⊢
    have hP : va_P (dC, dI) vwCl (WT hT aT kT fT_tape dT_tape nT_tape iT_length iT_fault iT_place iT_kind iT_at iT_number jT_name iT_next) H := hP
    have hD : va_D A (WT hT aT kT fT_tape dT_tape nT_tape iT_length iT_fault iT_place iT_kind iT_at iT_number jT_name iT_next) := hD
    have hlen : r15.toInt = 71 := f15_0
    refine lv_icmp_ge (tgt := 103) hx hb dX9_keywordOf_19 (by decide) (fun c_19 => ?_) (fun c_19 => ?_)
    · have t_19 : l5_x12.toInt ≥ r15.toInt := toI_ge c_19 rfl rfl
      refine lv_iconst (v := (-1)) hx hb dX9_keywordOf_103 (by decide) ?_
      refine W.widen (k := 0) (n := 0) (by decide +kernel) (by decide +kernel) ?_
      exact W.iret (v := (-1)) hx hb hr (fun t9_ ht hW => ⟨⟨((-1) : Int32), (), rfl, ⟨(show (-1) ≤ ((-1) : Int32).toInt ∧ ((-1) : Int32).toInt ≤ 1000 from by decide), (by (try dsimp only); first | (left; decide) | (right; omega))⟩, by rw [ht]; exact hP, hD⟩, hS.F ht⟩) hS.2.2 dX9_keywordOf_104
    · have t_19 : ¬ l5_x12.toInt ≥ r15.toInt := toI_nge c_19 rfl rfl
      refine va_ldcS hx hb hown hR70 dX9_keywordOf_22 ?_
      refine lv_iload hx hb dX9_keywordOf_24 (lv_at hl 0 rfl) ?_
      refine lv_topi (fun y16 hy16 => ?_)
      obtain rfl : (nI l5_x12.toInt.toNat) = y16 := (hy16.trans (toN rfl (by omega))).symm
      have hFc := noneFree hS hA
      refine va_calli (va_runV (As := [.int (nI l5_x12.toInt.toNat)]) (rest := []) ⟨hx, hb, hml, hown, hts⟩ (r_J0_charAt_5068e l dC dI qS70 (fun j => ([115, 101, 116, 32, 112, 97, 114, 97, 109, 32, 118, 97, 114, 32, 119, 104, 111, 108, 101, 32, 102, 114, 111, 109, 32, 116, 111, 32, 114, 111, 119, 32, 111, 114, 32, 105, 102, 32, 97, 110, 100, 32, 110, 111, 116, 32, 105, 110, 32, 115, 117, 109, 32, 100, 105, 102, 102, 101, 114, 101, 110, 116, 32, 109, 105, 110, 32, 109, 97, 120, 32] : List Int32).getD j 0) l5_x12.toInt.toNat 71 (by omega) (by decide) H.size) (cwV 1 hts gwsMX9_keywordOf_1 rfl rfl rfl hd_yJ0_charAt_5068e_RJ0 (by decide +kernel)) ⟨fun a U g mk q => by obtain ⟨q0, q1, qP, qK, qD, qE⟩ := q; exact ⟨q0, q1, qP, va_K.moved (u := U) (U := U.calling g mk a) (Vm.Alike.refl U.vm) qK, qD, qE.same rfl⟩, hSS70.recv hS, fun U hU9 hW => ⟨rfl, by rw [hU9], by rw [hU9]; exact nilP, va_K.moved hW.alike (hK.sub (tys' := []) [] rfl), nilD, by rw [hU9]; exact (((hSS70 : (StrE qS70 71 (fun j => ([115, 101, 116, 32, 112, 97, 114, 97, 109, 32, 118, 97, 114, 32, 119, 104, 111, 108, 101, 32, 102, 114, 111, 109, 32, 116, 111, 32, 114, 111, 119, 32, 111, 114, 32, 105, 102, 32, 97, 110, 100, 32, 110, 111, 116, 32, 105, 110, 32, 115, 117, 109, 32, 100, 105, 102, 102, 101, 114, 101, 110, 116, 32, 109, 105, 110, 32, 109, 97, 120, 32] : List Int32).getD j 0)) A s s.heap).kept hS.2.1).narrow (fun q h => hFc q h)).warm hW⟩⟩ rfl rfl hl.1 rfl (lv_room (Nat.le_of_ble_eq_true rfl)) dX9_keywordOf_26 (by decide +kernel)) hS (fun q _ h => hFc q h) hFc (fun r17 u t9_ H1 locs ht hvm hw9 hB9 hz1 hk1 hS => ?_)
      revert hw9
      refine fz_a2 ?_
      intro f17_0 f17_1
      clear hB9
      have hP := keepAll hP hk1
      generalize H1 = H at hP hS ⊢
      have hP : va_P (dC, dI) vwCl (WT hT aT kT fT_tape dT_tape nT_tape iT_length iT_fault iT_place iT_kind iT_at iT_number jT_name iT_next) H := hP
      have hD : va_D A (WT hT aT kT fT_tape dT_tape nT_tape iT_length iT_fault iT_place iT_kind iT_at iT_number jT_name iT_next) := hD
      refine lv_istore hx hb dX9_keywordOf_29 hl (by decide) rfl (fun ls (hl : lv_has ls _ ([(6, .int r17), (5, .int l5_x12), (4, .int l4_x12), (3, .int l3_x12), (2, .int l2_x12), (0, .ref (hT 0)), (1, .int p1)])) => ?_)
      refine lv_iload hx hb dX9_keywordOf_31 (lv_at hl 0 rfl) ?_
      refine lv_bipush (v := 32) hx hb dX9_keywordOf_33 (by decide) ?_
      refine lv_icmp_eq (tgt := 77) hx hb dX9_keywordOf_35 (by decide) (fun c_35 => ?_) (fun c_35 => ?_)
      · have t_35 : r17.toInt = 32 := toI_eq c_35 rfl (by decide : (32 : Int32).toInt = 32)
        refine lv_iload hx hb dX9_keywordOf_77 (lv_at hl 2 rfl) ?_
        refine lv_if_eq (tgt := 89) hx hb dX9_keywordOf_79 (by decide) (fun c_79 => ?_) (fun c_79 => ?_)
        · have t_79 : l4_x12.toInt = 0 := toI_eq c_79 rfl (by decide : (0 : Int32).toInt = 0)
          refine lv_iinc (v := (iI (l2_x12.toInt + 1))) hx hb dX9_keywordOf_89 hl (k := 4) rfl (iI_add2 (iI_of _) (by decide : (1 : Int32) = iI 1)) (by decide) rfl (fun ls (hl : lv_has ls _ ([(2, .int (iI (l2_x12.toInt + 1))), (6, .int r17), (5, .int l5_x12), (4, .int l4_x12), (3, .int l3_x12), (0, .ref (hT 0)), (1, .int p1)])) => ?_)
          refine lv_iconst (v := 0) hx hb dX9_keywordOf_92 (by decide) ?_
          refine lv_istore_n hx hb dX9_keywordOf_93 rfl hl (by decide) rfl (fun ls (hl : lv_has ls _ ([(3, .int 0), (2, .int (iI (l2_x12.toInt + 1))), (6, .int r17), (5, .int l5_x12), (4, .int l4_x12), (0, .ref (hT 0)), (1, .int p1)])) => ?_)
          refine lv_iconst (v := 1) hx hb dX9_keywordOf_94 (by decide) ?_
          refine lv_istore hx hb dX9_keywordOf_95 hl (by decide) rfl (fun ls (hl : lv_has ls _ ([(4, .int 1), (3, .int 0), (2, .int (iI (l2_x12.toInt + 1))), (6, .int r17), (5, .int l5_x12), (0, .ref (hT 0)), (1, .int p1)])) => ?_)
          refine lv_iinc (v := (iI (l5_x12.toInt + 1))) hx hb dX9_keywordOf_97 hl (k := 4) rfl (iI_add2 (iI_of _) (by decide : (1 : Int32) = iI 1)) (by decide) rfl (fun ls (hl : lv_has ls _ ([(5, .int (iI (l5_x12.toInt + 1))), (4, .int 1), (3, .int 0), (2, .int (iI (l2_x12.toInt + 1))), (6, .int r17), (0, .ref (hT 0)), (1, .int p1)])) => ?_)
          refine lv_goto (tgt := 12) hx hb dX9_keywordOf_100 (by decide) ?_
          have hl : lv_has _ _ ([(5, .int (iI (l5_x12.toInt + 1))), (4, .int 1), (3, .int 0), (2, .int (iI (l2_x12.toInt + 1))), (0, .ref (hT 0)), (1, .int p1)]) := lv_sub hl [0, 1, 2, 3, 5, 6] rfl
          exact ihx12 (iI (l5_x12.toInt + 1)) 1 0 (iI (l2_x12.toInt + 1)) _ _ _ (iI_rng (Int.le_trans (by decide) (Int.add_le_add (b_l5_x12.1) (Int.le_refl _))) (by omega) (by decide) (by decide)) (show 0 ≤ (1 : Int32).toInt ∧ (1 : Int32).toInt ≤ 1 from by decide) (show 0 ≤ (0 : Int32).toInt ∧ (0 : Int32).toInt ≤ 71 from by decide) (iI_rng (Int.le_trans (by decide) (Int.add_le_add (b_l2_x12.1) (Int.le_refl _))) (by omega) (by decide) (by decide)) (show (iI (l2_x12.toInt + 1)).toInt ≤ 256 + (iI (l5_x12.toInt + 1)).toInt from by (try rw [iI_t (E := l2_x12.toInt + 1) (by omega) (by omega)]); (try rw [iI_t (E := l3_x12.toInt + 1) (by omega) (by omega)]); rw [iI_t (E := l5_x12.toInt + 1) (by omega) (by omega)]; (try have h8 : (0 : Int32).toInt = 0 := (by decide)); omega) (show (0 : Int32).toInt ≤ (iI (l5_x12.toInt + 1)).toInt from by (try rw [iI_t (E := l2_x12.toInt + 1) (by omega) (by omega)]); (try rw [iI_t (E := l3_x12.toInt + 1) (by omega) (by omega)]); rw [iI_t (E := l5_x12.toInt + 1) (by omega) (by omega)]; (try have h8 : (0 : Int32).toInt = 0 := (by decide)); omega) (by have e9 : ((iI (l5_x12.toInt + 1))).toInt = (l5_x12.toInt + 1) := (iI_t (Int.le_trans (by decide) (Int.add_le_add (b_l5_x12.1) (Int.le_refl _))) (Int.le_trans (Int.add_le_add (b_l5_x12.2) (Int.le_refl _)) (by decide))); omega) hP hD hS hl
        · have t_79 : ¬ l4_x12.toInt = 0 := toI_neq c_79 rfl (by decide : (0 : Int32).toInt = 0)
          refine lv_iload_n hx hb dX9_keywordOf_82 rfl (lv_at hl 3 rfl) ?_
          refine lv_iload_n hx hb dX9_keywordOf_83 rfl (lv_at hl 6 rfl) ?_
          refine lv_icmp_ne (tgt := 89) hx hb dX9_keywordOf_84 (by decide) (fun c_84 => ?_) (fun c_84 => ?_)
          · have t_84 : l3_x12.toInt ≠ p1.toInt := toI_ne c_84 rfl rfl
            refine lv_iinc (v := (iI (l2_x12.toInt + 1))) hx hb dX9_keywordOf_89 hl (k := 4) rfl (iI_add2 (iI_of _) (by decide : (1 : Int32) = iI 1)) (by decide) rfl (fun ls (hl : lv_has ls _ ([(2, .int (iI (l2_x12.toInt + 1))), (6, .int r17), (5, .int l5_x12), (4, .int l4_x12), (3, .int l3_x12), (0, .ref (hT 0)), (1, .int p1)])) => ?_)
            refine lv_iconst (v := 0) hx hb dX9_keywordOf_92 (by decide) ?_
            refine lv_istore_n hx hb dX9_keywordOf_93 rfl hl (by decide) rfl (fun ls (hl : lv_has ls _ ([(3, .int 0), (2, .int (iI (l2_x12.toInt + 1))), (6, .int r17), (5, .int l5_x12), (4, .int l4_x12), (0, .ref (hT 0)), (1, .int p1)])) => ?_)
            refine lv_iconst (v := 1) hx hb dX9_keywordOf_94 (by decide) ?_
            refine lv_istore hx hb dX9_keywordOf_95 hl (by decide) rfl (fun ls (hl : lv_has ls _ ([(4, .int 1), (3, .int 0), (2, .int (iI (l2_x12.toInt + 1))), (6, .int r17), (5, .int l5_x12), (0, .ref (hT 0)), (1, .int p1)])) => ?_)
            refine lv_iinc (v := (iI (l5_x12.toInt + 1))) hx hb dX9_keywordOf_97 hl (k := 4) rfl (iI_add2 (iI_of _) (by decide : (1 : Int32) = iI 1)) (by decide) rfl (fun ls (hl : lv_has ls _ ([(5, .int (iI (l5_x12.toInt + 1))), (4, .int 1), (3, .int 0), (2, .int (iI (l2_x12.toInt + 1))), (6, .int r17), (0, .ref (hT 0)), (1, .int p1)])) => ?_)
            refine lv_goto (tgt := 12) hx hb dX9_keywordOf_100 (by decide) ?_
            have hl : lv_has _ _ ([(5, .int (iI (l5_x12.toInt + 1))), (4, .int 1), (3, .int 0), (2, .int (iI (l2_x12.toInt + 1))), (0, .ref (hT 0)), (1, .int p1)]) := lv_sub hl [0, 1, 2, 3, 5, 6] rfl
            exact ihx12 (iI (l5_x12.toInt + 1)) 1 0 (iI (l2_x12.toInt + 1)) _ _ _ (iI_rng (Int.le_trans (by decide) (Int.add_le_add (b_l5_x12.1) (Int.le_refl _))) (by omega) (by decide) (by decide)) (show 0 ≤ (1 : Int32).toInt ∧ (1 : Int32).toInt ≤ 1 from by decide) (show 0 ≤ (0 : Int32).toInt ∧ (0 : Int32).toInt ≤ 71 from by decide) (iI_rng (Int.le_trans (by decide) (Int.add_le_add (b_l2_x12.1) (Int.le_refl _))) (by omega) (by decide) (by decide)) (show (iI (l2_x12.toInt + 1)).toInt ≤ 256 + (iI (l5_x12.toInt + 1)).toInt from by (try rw [iI_t (E := l2_x12.toInt + 1) (by omega) (by omega)]); (try rw [iI_t (E := l3_x12.toInt + 1) (by omega) (by omega)]); rw [iI_t (E := l5_x12.toInt + 1) (by omega) (by omega)]; (try have h8 : (0 : Int32).toInt = 0 := (by decide)); omega) (show (0 : Int32).toInt ≤ (iI (l5_x12.toInt + 1)).toInt from by (try rw [iI_t (E := l2_x12.toInt + 1) (by omega) (by omega)]); (try rw [iI_t (E := l3_x12.toInt + 1) (by omega) (by omega)]); rw [iI_t (E := l5_x12.toInt + 1) (by omega) (by omega)]; (try have h8 : (0 : Int32).toInt = 0 := (by decide)); omega) (by have e9 : ((iI (l5_x12.toInt + 1))).toInt = (l5_x12.toInt + 1) := (iI_t (Int.le_trans (by decide) (Int.add_le_add (b_l5_x12.1) (Int.le_refl _))) (Int.le_trans (Int.add_le_add (b_l5_x12.2) (Int.le_refl _)) (by decide))); omega) hP hD hS hl
          · have t_84 : l3_x12.toInt = p1.toInt := toI_nne c_84 rfl rfl
            refine lv_iload_n hx hb dX9_keywordOf_87 rfl (lv_at hl 4 rfl) ?_
            refine W.widen (k := 0) (n := 0) (by decide +kernel) (by decide +kernel) ?_
            exact W.iret (v := l2_x12) hx hb hr (fun t9_ ht hW => ⟨⟨l2_x12, (), rfl, ⟨(⟨Int.le_trans (by decide) b_l2_x12.1, Int.le_trans b_l2_x12.2 (by decide)⟩), (by (try dsimp only); first | (left; decide) | (right; omega))⟩, by rw [ht]; exact hP, hD⟩, hS.F ht⟩) hS.2.2 dX9_keywordOf_88
      · have t_35 : ¬ r17.toInt = 32 := toI_neq c_35 rfl (by decide : (32 : Int32).toInt = 32)
        refine lv_iload hx hb dX9_keywordOf_38 (lv_at hl 2 rfl) ?_
        refine W.cut (pc := 69) (fun H locs ls stk => ∃ (k0_j6 : Int32), (0 ≤ k0_j6.toInt ∧ k0_j6.toInt ≤ 1) ∧  stk = [.int k0_j6] ∧ va_P (dC, dI) vwCl (WT hT aT kT fT_tape dT_tape nT_tape iT_length iT_fault iT_place iT_kind iT_at iT_number jT_name iT_next) H ∧ va_D A (WT hT aT kT fT_tape dT_tape nT_tape iT_length iT_fault iT_place iT_kind iT_at iT_number jT_name iT_next) ∧ va_S A s.heap H locs ∧ lv_has ls 7 [(6, .int r17), (5, .int l5_x12), (4, .int l4_x12), (3, .int l3_x12), (2, .int l2_x12), (0, .ref (hT 0)), (1, .int p1)]) (fun join6 => ?_) ?_
        · refine lv_if_eq (tgt := 68) hx hb dX9_keywordOf_40 (by decide) (fun c_40 => ?_) (fun c_40 => ?_)
          · have t_40 : l4_x12.toInt = 0 := toI_eq c_40 rfl (by decide : (0 : Int32).toInt = 0)
            refine lv_iconst (v := 0) hx hb dX9_keywordOf_68 (by decide) ?_
            have hl : lv_has _ _ ([(6, .int r17), (5, .int l5_x12), (4, .int l4_x12), (3, .int l3_x12), (2, .int l2_x12), (0, .ref (hT 0)), (1, .int p1)]) := lv_sub hl [0, 1, 2, 3, 4, 5, 6] rfl
            exact join6 _ _ _ _ ⟨0, (show 0 ≤ (0 : Int32).toInt ∧ (0 : Int32).toInt ≤ 1 from by decide), rfl, hP, hD, hS, hl⟩
          · have t_40 : ¬ l4_x12.toInt = 0 := toI_neq c_40 rfl (by decide : (0 : Int32).toInt = 0)
            refine lv_iload_n hx hb dX9_keywordOf_43 rfl (lv_at hl 3 rfl) ?_
            refine lv_iload_n hx hb dX9_keywordOf_44 rfl (lv_at hl 6 rfl) ?_
            refine lv_icmp_ge (tgt := 68) hx hb dX9_keywordOf_45 (by decide) (fun c_45 => ?_) (fun c_45 => ?_)
            · have t_45 : l3_x12.toInt ≥ p1.toInt := toI_ge c_45 rfl rfl
              refine lv_iconst (v := 0) hx hb dX9_keywordOf_68 (by decide) ?_
              have hl : lv_has _ _ ([(6, .int r17), (5, .int l5_x12), (4, .int l4_x12), (3, .int l3_x12), (2, .int l2_x12), (0, .ref (hT 0)), (1, .int p1)]) := lv_sub hl [0, 1, 2, 3, 4, 5, 6] rfl
              exact join6 _ _ _ _ ⟨0, (show 0 ≤ (0 : Int32).toInt ∧ (0 : Int32).toInt ≤ 1 from by decide), rfl, hP, hD, hS, hl⟩
            · have t_45 : ¬ l3_x12.toInt ≥ p1.toInt := toI_nge c_45 rfl rfl
              refine lv_aload_n hx hb dX9_keywordOf_48 rfl (lv_at hl 5 rfl) ?_
              refine va_get (D := (dC, dI)) (ci := 9) (v := .ref dT_tape) (C := RX9) (T := TX9) (N := 9) hx hb hts iwsMX9_keywordOf_in9 hown hK hP 0 rfl rfl 0 (by decide) (hts (.fieldLink RX9 9 "OptimaWorks$Words" "tape" "[B") (by decide +kernel)) (fun _ h9 => h9) rfl dX9_keywordOf_49 ?_
              refine lv_aload_n hx hb dX9_keywordOf_52 rfl (lv_at hl 5 rfl) ?_
              refine va_get (D := (dC, dI)) (ci := 9) (v := .int iT_at) (C := RX9) (T := TX9) (N := 9) hx hb hts iwsMX9_keywordOf_in9 hown hK hP 0 rfl rfl 5 (by decide) (hts (.fieldLink RX9 34 "OptimaWorks$Words" "at" "I") (by decide +kernel)) (fun _ h9 => h9) rfl dX9_keywordOf_53 ?_
              refine lv_iload_n hx hb dX9_keywordOf_56 rfl (lv_at hl 3 rfl) ?_
              refine lv_iadd hx hb dX9_keywordOf_57 ?_
              refine lv_topi (fun y20 hy20 => ?_)
              obtain rfl : (iI (iT_at.toInt + l3_x12.toInt)) = y20 := (hy20.trans (iI_add2 (iI_of _) (iI_of _))).symm
              refine va_bald (cA := kT 0) (n := nT_tape) (f := fT_tape) hx hb hK hP 1 0 rfl rfl (vp_iI (Int.le_trans (by decide) (Int.add_le_add (b_iT_at.1) (b_l3_x12.1))) (by omega) (by omega)) dX9_keywordOf_58 ?_
              refine lv_topi (fun v21 hv21 => ?_)
              have b_v21 : (-128) ≤ v21.toInt ∧ v21.toInt ≤ 127 := by rw [hv21]; exact b_fT_tape _
              clear hv21
              refine lv_iload hx hb dX9_keywordOf_59 (lv_at hl 0 rfl) ?_
              refine lv_icmp_ne (tgt := 68) hx hb dX9_keywordOf_61 (by decide) (fun c_61 => ?_) (fun c_61 => ?_)
              · have t_61 : v21.toInt ≠ r17.toInt := toI_ne c_61 rfl rfl
                refine lv_iconst (v := 0) hx hb dX9_keywordOf_68 (by decide) ?_
                have hl : lv_has _ _ ([(6, .int r17), (5, .int l5_x12), (4, .int l4_x12), (3, .int l3_x12), (2, .int l2_x12), (0, .ref (hT 0)), (1, .int p1)]) := lv_sub hl [0, 1, 2, 3, 4, 5, 6] rfl
                exact join6 _ _ _ _ ⟨0, (show 0 ≤ (0 : Int32).toInt ∧ (0 : Int32).toInt ≤ 1 from by decide), rfl, hP, hD, hS, hl⟩
              · have t_61 : v21.toInt = r17.toInt := toI_nne c_61 rfl rfl
                refine lv_iconst (v := 1) hx hb dX9_keywordOf_64 (by decide) ?_
                refine lv_goto (tgt := 69) hx hb dX9_keywordOf_65 (by decide) ?_
                have hl : lv_has _ _ ([(6, .int r17), (5, .int l5_x12), (4, .int l4_x12), (3, .int l3_x12), (2, .int l2_x12), (0, .ref (hT 0)), (1, .int p1)]) := lv_sub hl [0, 1, 2, 3, 4, 5, 6] rfl
                exact join6 _ _ _ _ ⟨1, (show 0 ≤ (1 : Int32).toInt ∧ (1 : Int32).toInt ≤ 1 from by decide), rfl, hP, hD, hS, hl⟩
        · rintro H locs ls stk ⟨k0_j6, b_k0_j6, rfl, hP, hD, hS, hl⟩
          refine lv_istore hx hb dX9_keywordOf_69 hl (by decide) rfl (fun ls (hl : lv_has ls _ ([(4, .int k0_j6), (6, .int r17), (5, .int l5_x12), (3, .int l3_x12), (2, .int l2_x12), (0, .ref (hT 0)), (1, .int p1)])) => ?_)
          refine lv_iinc (v := (iI (l3_x12.toInt + 1))) hx hb dX9_keywordOf_71 hl (k := 3) rfl (iI_add2 (iI_of _) (by decide : (1 : Int32) = iI 1)) (by decide) rfl (fun ls (hl : lv_has ls _ ([(3, .int (iI (l3_x12.toInt + 1))), (4, .int k0_j6), (6, .int r17), (5, .int l5_x12), (2, .int l2_x12), (0, .ref (hT 0)), (1, .int p1)])) => ?_)
          refine lv_goto (tgt := 97) hx hb dX9_keywordOf_74 (by decide) ?_
          refine lv_iinc (v := (iI (l5_x12.toInt + 1))) hx hb dX9_keywordOf_97 hl (k := 3) rfl (iI_add2 (iI_of _) (by decide : (1 : Int32) = iI 1)) (by decide) rfl (fun ls (hl : lv_has ls _ ([(5, .int (iI (l5_x12.toInt + 1))), (3, .int (iI (l3_x12.toInt + 1))), (4, .int k0_j6), (6, .int r17), (2, .int l2_x12), (0, .ref (hT 0)), (1, .int p1)])) => ?_)
          refine lv_goto (tgt := 12) hx hb dX9_keywordOf_100 (by decide) ?_
          have hl : lv_has _ _ ([(5, .int (iI (l5_x12.toInt + 1))), (4, .int k0_j6), (3, .int (iI (l3_x12.toInt + 1))), (2, .int l2_x12), (0, .ref (hT 0)), (1, .int p1)]) := lv_sub hl [0, 2, 1, 4, 5, 6] rfl
          exact ihx12 (iI (l5_x12.toInt + 1)) k0_j6 (iI (l3_x12.toInt + 1)) l2_x12 _ _ _ (iI_rng (Int.le_trans (by decide) (Int.add_le_add (b_l5_x12.1) (Int.le_refl _))) (by omega) (by decide) (by decide)) (b_k0_j6) (iI_rng (Int.le_trans (by decide) (Int.add_le_add (b_l3_x12.1) (Int.le_refl _))) (by omega) (by decide) (by decide)) (b_l2_x12) (show l2_x12.toInt ≤ 256 + (iI (l5_x12.toInt + 1)).toInt from by (try rw [iI_t (E := l2_x12.toInt + 1) (by omega) (by omega)]); (try rw [iI_t (E := l3_x12.toInt + 1) (by omega) (by omega)]); rw [iI_t (E := l5_x12.toInt + 1) (by omega) (by omega)]; (try have h8 : (0 : Int32).toInt = 0 := (by decide)); omega) (show (iI (l3_x12.toInt + 1)).toInt ≤ (iI (l5_x12.toInt + 1)).toInt from by (try rw [iI_t (E := l2_x12.toInt + 1) (by omega) (by omega)]); (try rw [iI_t (E := l3_x12.toInt + 1) (by omega) (by omega)]); rw [iI_t (E := l5_x12.toInt + 1) (by omega) (by omega)]; (try have h8 : (0 : Int32).toInt = 0 := (by decide)); omega) (by have e9 : ((iI (l5_x12.toInt + 1))).toInt = (l5_x12.toInt + 1) := (iI_t (Int.le_trans (by decide) (Int.add_le_add (b_l5_x12.1) (Int.le_refl _))) (Int.le_trans (Int.add_le_add (b_l5_x12.2) (Int.le_refl _)) (by decide))); omega) hP hD hS hl
theorem dX9_takeSign_0 : decode cX9_takeSign 0 = .ok (.aload_n 0, 1) := dk_42 (by decide +kernel)
theorem dX9_takeSign_1 : decode cX9_takeSign 1 = .ok (.getfield 40, 3) := dk_180 (by decide +kernel)
theorem dX9_takeSign_4 : decode cX9_takeSign 4 = .ok (.iconst 1, 1) := dk_4 (by decide +kernel)
theorem dX9_takeSign_5 : decode cX9_takeSign 5 = .ok (.iadd, 1) := dk_96 (by decide +kernel)
theorem dX9_takeSign_6 : decode cX9_takeSign 6 = .ok (.aload_n 0, 1) := dk_42 (by decide +kernel)
theorem dX9_takeSign_7 : decode cX9_takeSign 7 = .ok (.getfield 19, 3) := dk_180 (by decide +kernel)
theorem dX9_takeSign_10 : decode cX9_takeSign 10 = .ok (.if_icmp .ge 17, 3) := dk_162 (by decide +kernel)
theorem dX9_takeSign_13 : decode cX9_takeSign 13 = .ok (.aload_n 0, 1) := dk_42 (by decide +kernel)
theorem dX9_takeSign_14 : decode cX9_takeSign 14 = .ok (.getfield 9, 3) := dk_180 (by decide +kernel)
theorem dX9_takeSign_17 : decode cX9_takeSign 17 = .ok (.aload_n 0, 1) := dk_42 (by decide +kernel)
theorem dX9_takeSign_18 : decode cX9_takeSign 18 = .ok (.getfield 40, 3) := dk_180 (by decide +kernel)
theorem dX9_takeSign_21 : decode cX9_takeSign 21 = .ok (.iconst 1, 1) := dk_4 (by decide +kernel)
theorem dX9_takeSign_22 : decode cX9_takeSign 22 = .ok (.iadd, 1) := dk_96 (by decide +kernel)
theorem dX9_takeSign_23 : decode cX9_takeSign 23 = .ok (.baload, 1) := dk_51 (by decide +kernel)
theorem dX9_takeSign_24 : decode cX9_takeSign 24 = .ok (.goto 4, 3) := dk_167 (by decide +kernel)
theorem dX9_takeSign_27 : decode cX9_takeSign 27 = .ok (.iconst (-1), 1) := dk_2 (by decide +kernel)
theorem dX9_takeSign_28 : decode cX9_takeSign 28 = .ok (.istore_n 2, 1) := dk_61 (by decide +kernel)
theorem dX9_takeSign_29 : decode cX9_takeSign 29 = .ok (.aload_n 0, 1) := dk_42 (by decide +kernel)
theorem dX9_takeSign_30 : decode cX9_takeSign 30 = .ok (.iload_n 1, 1) := dk_27 (by decide +kernel)
theorem dX9_takeSign_31 : decode cX9_takeSign 31 = .ok (.bipush 46, 2) := dk_16 (by decide +kernel)
theorem dX9_takeSign_33 : decode cX9_takeSign 33 = .ok (.if_icmp .ne 15, 3) := dk_160 (by decide +kernel)
theorem dX9_takeSign_36 : decode cX9_takeSign 36 = .ok (.iload_n 2, 1) := dk_28 (by decide +kernel)
theorem dX9_takeSign_37 : decode cX9_takeSign 37 = .ok (.bipush 46, 2) := dk_16 (by decide +kernel)
theorem dX9_takeSign_39 : decode cX9_takeSign 39 = .ok (.if_icmp .ne 9, 3) := dk_160 (by decide +kernel)
theorem dX9_takeSign_42 : decode cX9_takeSign 42 = .ok (.sipush 300, 3) := dk_17 (by decide +kernel)
theorem dX9_takeSign_45 : decode cX9_takeSign 45 = .ok (.goto 58, 3) := dk_167 (by decide +kernel)
theorem dX9_takeSign_48 : decode cX9_takeSign 48 = .ok (.iload_n 1, 1) := dk_27 (by decide +kernel)
theorem dX9_takeSign_49 : decode cX9_takeSign 49 = .ok (.bipush 60, 2) := dk_16 (by decide +kernel)
theorem dX9_takeSign_51 : decode cX9_takeSign 51 = .ok (.if_icmp .ne 15, 3) := dk_160 (by decide +kernel)
theorem dX9_takeSign_54 : decode cX9_takeSign 54 = .ok (.iload_n 2, 1) := dk_28 (by decide +kernel)
theorem dX9_takeSign_55 : decode cX9_takeSign 55 = .ok (.bipush 61, 2) := dk_16 (by decide +kernel)
theorem dX9_takeSign_57 : decode cX9_takeSign 57 = .ok (.if_icmp .ne 9, 3) := dk_160 (by decide +kernel)
theorem dX9_takeSign_60 : decode cX9_takeSign 60 = .ok (.sipush 301, 3) := dk_17 (by decide +kernel)
theorem dX9_takeSign_63 : decode cX9_takeSign 63 = .ok (.goto 40, 3) := dk_167 (by decide +kernel)
theorem dX9_takeSign_66 : decode cX9_takeSign 66 = .ok (.iload_n 1, 1) := dk_27 (by decide +kernel)
theorem dX9_takeSign_67 : decode cX9_takeSign 67 = .ok (.bipush 62, 2) := dk_16 (by decide +kernel)
theorem dX9_takeSign_69 : decode cX9_takeSign 69 = .ok (.if_icmp .ne 15, 3) := dk_160 (by decide +kernel)
theorem dX9_takeSign_72 : decode cX9_takeSign 72 = .ok (.iload_n 2, 1) := dk_28 (by decide +kernel)
theorem dX9_takeSign_73 : decode cX9_takeSign 73 = .ok (.bipush 61, 2) := dk_16 (by decide +kernel)
theorem dX9_takeSign_75 : decode cX9_takeSign 75 = .ok (.if_icmp .ne 9, 3) := dk_160 (by decide +kernel)
theorem dX9_takeSign_78 : decode cX9_takeSign 78 = .ok (.sipush 302, 3) := dk_17 (by decide +kernel)
theorem dX9_takeSign_81 : decode cX9_takeSign 81 = .ok (.goto 22, 3) := dk_167 (by decide +kernel)
theorem dX9_takeSign_84 : decode cX9_takeSign 84 = .ok (.iload_n 1, 1) := dk_27 (by decide +kernel)
theorem dX9_takeSign_85 : decode cX9_takeSign 85 = .ok (.bipush 60, 2) := dk_16 (by decide +kernel)
theorem dX9_takeSign_87 : decode cX9_takeSign 87 = .ok (.if_icmp .ne 15, 3) := dk_160 (by decide +kernel)
theorem dX9_takeSign_90 : decode cX9_takeSign 90 = .ok (.iload_n 2, 1) := dk_28 (by decide +kernel)
theorem dX9_takeSign_91 : decode cX9_takeSign 91 = .ok (.bipush 62, 2) := dk_16 (by decide +kernel)
theorem dX9_takeSign_93 : decode cX9_takeSign 93 = .ok (.if_icmp .ne 9, 3) := dk_160 (by decide +kernel)
theorem dX9_takeSign_96 : decode cX9_takeSign 96 = .ok (.sipush 303, 3) := dk_17 (by decide +kernel)
theorem dX9_takeSign_99 : decode cX9_takeSign 99 = .ok (.goto 4, 3) := dk_167 (by decide +kernel)
theorem dX9_takeSign_102 : decode cX9_takeSign 102 = .ok (.iconst (-1), 1) := dk_2 (by decide +kernel)
theorem dX9_takeSign_103 : decode cX9_takeSign 103 = .ok (.putfield 37, 3) := dk_181 (by decide +kernel)
theorem dX9_takeSign_106 : decode cX9_takeSign 106 = .ok (.aload_n 0, 1) := dk_42 (by decide +kernel)
theorem dX9_takeSign_107 : decode cX9_takeSign 107 = .ok (.getfield 37, 3) := dk_180 (by decide +kernel)
theorem dX9_takeSign_110 : decode cX9_takeSign 110 = .ok (.iconst (-1), 1) := dk_2 (by decide +kernel)
theorem dX9_takeSign_111 : decode cX9_takeSign 111 = .ok (.if_icmp .eq 14, 3) := dk_159 (by decide +kernel)
theorem dX9_takeSign_114 : decode cX9_takeSign 114 = .ok (.aload_n 0, 1) := dk_42 (by decide +kernel)
theorem dX9_takeSign_115 : decode cX9_takeSign 115 = .ok (.dup, 1) := dk_89 (by decide +kernel)
theorem dX9_takeSign_116 : decode cX9_takeSign 116 = .ok (.getfield 40, 3) := dk_180 (by decide +kernel)
theorem dX9_takeSign_119 : decode cX9_takeSign 119 = .ok (.iconst 2, 1) := dk_5 (by decide +kernel)
theorem dX9_takeSign_120 : decode cX9_takeSign 120 = .ok (.iadd, 1) := dk_96 (by decide +kernel)
theorem dX9_takeSign_121 : decode cX9_takeSign 121 = .ok (.putfield 40, 3) := dk_181 (by decide +kernel)
theorem dX9_takeSign_124 : decode cX9_takeSign 124 = .ok (.return_, 1) := dk_177 (by decide +kernel)
theorem dX9_takeSign_125 : decode cX9_takeSign 125 = .ok (.aload_n 0, 1) := dk_42 (by decide +kernel)
theorem dX9_takeSign_126 : decode cX9_takeSign 126 = .ok (.ldc 84, 2) := dk_18 (by decide +kernel)
theorem dX9_takeSign_128 : decode cX9_takeSign 128 = .ok (.iload_n 1, 1) := dk_27 (by decide +kernel)
theorem dX9_takeSign_129 : decode cX9_takeSign 129 = .ok (.i2c, 1) := dk_146 (by decide +kernel)
theorem dX9_takeSign_130 : decode cX9_takeSign 130 = .ok (.invokevirtual 86, 3) := dk_182 (by decide +kernel)
theorem dX9_takeSign_133 : decode cX9_takeSign 133 = .ok (.ifCond .lt 7, 3) := dk_155 (by decide +kernel)
theorem dX9_takeSign_136 : decode cX9_takeSign 136 = .ok (.iload_n 1, 1) := dk_27 (by decide +kernel)
theorem dX9_takeSign_137 : decode cX9_takeSign 137 = .ok (.goto 4, 3) := dk_167 (by decide +kernel)
theorem dX9_takeSign_140 : decode cX9_takeSign 140 = .ok (.iconst 3, 1) := dk_6 (by decide +kernel)
theorem dX9_takeSign_141 : decode cX9_takeSign 141 = .ok (.putfield 37, 3) := dk_181 (by decide +kernel)
theorem dX9_takeSign_144 : decode cX9_takeSign 144 = .ok (.aload_n 0, 1) := dk_42 (by decide +kernel)
theorem dX9_takeSign_145 : decode cX9_takeSign 145 = .ok (.dup, 1) := dk_89 (by decide +kernel)
theorem dX9_takeSign_146 : decode cX9_takeSign 146 = .ok (.getfield 40, 3) := dk_180 (by decide +kernel)
theorem dX9_takeSign_149 : decode cX9_takeSign 149 = .ok (.iconst 1, 1) := dk_4 (by decide +kernel)
theorem dX9_takeSign_150 : decode cX9_takeSign 150 = .ok (.iadd, 1) := dk_96 (by decide +kernel)
theorem dX9_takeSign_151 : decode cX9_takeSign 151 = .ok (.putfield 40, 3) := dk_181 (by decide +kernel)
theorem dX9_takeSign_154 : decode cX9_takeSign 154 = .ok (.return_, 1) := dk_177 (by decide +kernel)
def wsMX9_takeSign : List Cond := .code yX9_takeSign cX9_takeSign 3 none :: ([.fieldLink RX9 40 "OptimaWorks$Words" "next" "I", .fieldLink RX9 19 "OptimaWorks$Words" "length" "I", .fieldLink RX9 9 "OptimaWorks$Words" "tape" "[B", .fieldLink RX9 37 "OptimaWorks$Words" "kind" "I"] ++ wsX90 ++ (wsV RX9 86 RJ0 yJ0_indexOf_0f7a4 wsMJ0_indexOf_0f7a4))
theorem iwsMX9_takeSign_in9 : ∀ w ∈ wsX90, w ∈ wsMX9_takeSign := fun _ h => List.mem_cons_of_mem _ (List.mem_append_left _ (List.mem_append_right _ h))
theorem gwsMX9_takeSign_0 : GoodIn wsMX9_takeSign (wsV RX9 86 RJ0 yJ0_indexOf_0f7a4 wsMJ0_indexOf_0f7a4) := goodIn_sub (fun _ h => List.mem_cons_of_mem _ (List.mem_append_right _ h)) (gdV (by decide +kernel) gdwsMJ0_indexOf_0f7a4)
theorem gdwsMX9_takeSign : wsMX9_takeSign.all goodWord = true := gdC rfl (gdA (gdA (by decide +kernel : ([.fieldLink RX9 40 "OptimaWorks$Words" "next" "I", .fieldLink RX9 19 "OptimaWorks$Words" "length" "I", .fieldLink RX9 9 "OptimaWorks$Words" "tape" "[B", .fieldLink RX9 37 "OptimaWorks$Words" "kind" "I"] : List Cond).all goodWord = true) gdwsX90) (gdV (by decide +kernel) gdwsMJ0_indexOf_0f7a4))
set_option maxHeartbeats 4000000 in
set_option maxRecDepth 100000 in
/-- a sign -/
theorem m_X9_takeSign (l : Launch) (hst : l.stackTraces = false) (dC : Nat → ClassId) (dI : Nat → Nat → Nat) (hT : Nat → Nat) (aT : Nat → Nat) (kT : Nat → ClassId) (fT_tape : Nat → Int32) (dT_tape : Nat) (nT_tape : Nat) (iT_length : Int32) (iT_fault : Int32) (iT_place : Int32) (iT_kind : Int32) (iT_at : Int32) (iT_number : Int32) (jT_name : Int64) (iT_next : Int32) (p1 : Int32) (b_fT_tape : ∀ q : Nat, (-128) ≤ (fT_tape q).toInt ∧ (fT_tape q).toInt ≤ 127) (b_nT_tape : 64 ≤ nT_tape ∧ nT_tape ≤ 2560) (b_iT_length : 0 ≤ iT_length.toInt ∧ iT_length.toInt ≤ 1280) (b_iT_at : 0 ≤ iT_at.toInt ∧ iT_at.toInt ≤ 1282) (b_iT_number : 0 ≤ iT_number.toInt ∧ iT_number.toInt ≤ 999999) (b_iT_next : 0 ≤ iT_next.toInt ∧ iT_next.toInt ≤ 1282) (b_len : iT_length.toInt ≤ ((nT_tape : Nat) : Int)) (hlt : iT_next.toInt < iT_length.toInt) (sz : Nat) : Met l yX9_takeSign wsMX9_takeSign ({ frames := 4, cells := 0, slots := 0, locals := 91 }) (va_Pc [.ref (hT 0), .int p1] (fun U => U.heap.size = sz ∧ va_P (dC, dI) vwCl (WT hT aT kT fT_tape dT_tape nT_tape iT_length iT_fault iT_place iT_kind iT_at iT_number jT_name iT_next) U.heap ∧ va_K (dC, dI) vwCl (tT kT) U ∧ va_D (fun _ => True) (WT hT aT kT fT_tape dT_tape nT_tape iT_length iT_fault iT_place iT_kind iT_at iT_number jT_name iT_next) ∧ CE (va_A (WT hT aT kT fT_tape dT_tape nT_tape iT_length iT_fault iT_place iT_kind iT_at iT_number jT_name iT_next) sz) U U.heap)) (va_Qv (fun (u : (Int32) × (Int32)) => (0 ≤ (u.2).toInt ∧ (u.2).toInt ≤ 1282) ∧ ((u.2).toInt ≤ iT_length.toInt) ∧ (iT_next.toInt + 1 ≤ (u.2).toInt)) (fun (u : (Int32) × (Int32)) t => va_P (dC, dI) vwCl (WT hT aT kT fT_tape dT_tape nT_tape iT_length iT_fault iT_place (u.1) iT_at iT_number jT_name (u.2)) t.heap ∧ va_D (va_A (WT hT aT kT fT_tape dT_tape nT_tape iT_length iT_fault iT_place iT_kind iT_at iT_number jT_name iT_next) sz) (WT hT aT kT fT_tape dT_tape nT_tape iT_length iT_fault iT_place (u.1) iT_at iT_number jT_name (u.2))) (va_A (WT hT aT kT fT_tape dT_tape nT_tape iT_length iT_fault iT_place iT_kind iT_at iT_number jT_name iT_next) sz)) 0 0 (va_A (WT hT aT kT fT_tape dT_tape nT_tape iT_length iT_fault iT_place iT_kind iT_at iT_number jT_name iT_next) sz) := by
  refine Met.ofW (cc := cX9_takeSign) (maxL := 3) (ret := none) (by decide) rfl ?_
  intro p e s m args below meth c s₁ B hml hv
  obtain ⟨rfl, hsz, hP, hK, hD0, hE⟩ := hv
  have hx := B.exec
  have hb := B.bytes
  have hr := B.returns
  have hts := atoms_spec (ws := wsMX9_takeSign) B.pre
  have hown : s.vm.findClass RX9 = some m.cls := findClass_of_methodNamed B.named
  have hlocks := B.notSynchronized
  subst hsz
  have hD := hD0.self (sz := s.heap.size)
  generalize hAe : va_A (WT hT aT kT fT_tape dT_tape nT_tape iT_length iT_fault iT_place iT_kind iT_at iT_number jT_name iT_next) s.heap.size = A at hD hE ⊢
  have hA : ∀ q : Nat, s.heap.size ≤ q → A q := fun q h => by rw [← hAe]; exact Or.inr h
  have hS : va_S A s.heap s.heap [] := va_S.rf
  have hl := lv_entry ([.ref (hT 0), .int p1]) (n := 3) (Nat.le_of_ble_eq_true rfl)
  rw [lg_entry_eq]
  generalize (lg_sl ([.ref (hT 0), .int p1]) ++ List.replicate (3 - (lg_sl ([.ref (hT 0), .int p1])).length) Slot.unset).toArray = ls at hl ⊢
  have hl : lv_has ls 3 [(0, .ref (hT 0)), (1, .int p1)] := hl
  refine lv_aload_n hx hb dX9_takeSign_0 rfl (lv_at hl 0 rfl) ?_
  refine va_get (D := (dC, dI)) (ci := 9) (v := .int iT_next) (C := RX9) (T := TX9) (N := 9) hx hb hts iwsMX9_takeSign_in9 hown hK hP 0 rfl rfl 8 (by decide) (hts (.fieldLink RX9 40 "OptimaWorks$Words" "next" "I") (by decide +kernel)) (fun _ h9 => h9) rfl dX9_takeSign_1 ?_
  refine lv_iconst (v := 1) hx hb dX9_takeSign_4 (by decide) ?_
  refine lv_iadd hx hb dX9_takeSign_5 ?_
  refine lv_topi (fun y1 hy1 => ?_)
  obtain rfl : (iI (iT_next.toInt + 1)) = y1 := (hy1.trans (iI_add2 (iI_of _) (by decide : (1 : Int32) = iI 1))).symm
  refine lv_aload_n hx hb dX9_takeSign_6 rfl (lv_at hl 0 rfl) ?_
  refine va_get (D := (dC, dI)) (ci := 9) (v := .int iT_length) (C := RX9) (T := TX9) (N := 9) hx hb hts iwsMX9_takeSign_in9 hown hK hP 0 rfl rfl 1 (by decide) (hts (.fieldLink RX9 19 "OptimaWorks$Words" "length" "I") (by decide +kernel)) (fun _ h9 => h9) rfl dX9_takeSign_7 ?_
  refine W.cut (pc := 28) (fun H locs ls stk => ∃ (k0_j4 : Int32), ((-128) ≤ k0_j4.toInt ∧ k0_j4.toInt ≤ 127) ∧ (k0_j4.toInt ≠ -1 → iT_next.toInt + 1 < iT_length.toInt) ∧  stk = [.int k0_j4] ∧ va_P (dC, dI) vwCl (WT hT aT kT fT_tape dT_tape nT_tape iT_length iT_fault iT_place iT_kind iT_at iT_number jT_name iT_next) H ∧ va_D A (WT hT aT kT fT_tape dT_tape nT_tape iT_length iT_fault iT_place iT_kind iT_at iT_number jT_name iT_next) ∧ va_S A s.heap H locs ∧ lv_has ls 3 [(0, .ref (hT 0)), (1, .int p1)]) (fun join4 => ?_) ?_
  · refine lv_icmp_ge (tgt := 27) hx hb dX9_takeSign_10 (by decide) (fun c_10 => ?_) (fun c_10 => ?_)
    · have t_10 : (iT_next.toInt + 1) ≥ iT_length.toInt := toI_ge c_10 (iI_t (Int.le_trans (by decide) (Int.add_le_add (b_iT_next.1) (Int.le_refl _))) (Int.le_trans (Int.add_le_add (b_iT_next.2) (Int.le_refl _)) (by decide))) rfl
      refine lv_iconst (v := (-1)) hx hb dX9_takeSign_27 (by decide) ?_
      have hl : lv_has _ _ ([(0, .ref (hT 0)), (1, .int p1)]) := lv_sub hl [0, 1] rfl
      exact join4 _ _ _ _ ⟨(-1), (show (-128) ≤ ((-1) : Int32).toInt ∧ ((-1) : Int32).toInt ≤ 127 from by decide), (show ((-1) : Int32).toInt ≠ -1 → iT_next.toInt + 1 < iT_length.toInt from by first | (intro h9; exact absurd (by decide) h9) | (intro h9; omega)), rfl, hP, hD, hS, hl⟩
    · have t_10 : ¬ (iT_next.toInt + 1) ≥ iT_length.toInt := toI_nge c_10 (iI_t (Int.le_trans (by decide) (Int.add_le_add (b_iT_next.1) (Int.le_refl _))) (Int.le_trans (Int.add_le_add (b_iT_next.2) (Int.le_refl _)) (by decide))) rfl
      refine lv_aload_n hx hb dX9_takeSign_13 rfl (lv_at hl 0 rfl) ?_
      refine va_get (D := (dC, dI)) (ci := 9) (v := .ref dT_tape) (C := RX9) (T := TX9) (N := 9) hx hb hts iwsMX9_takeSign_in9 hown hK hP 0 rfl rfl 0 (by decide) (hts (.fieldLink RX9 9 "OptimaWorks$Words" "tape" "[B") (by decide +kernel)) (fun _ h9 => h9) rfl dX9_takeSign_14 ?_
      refine lv_aload_n hx hb dX9_takeSign_17 rfl (lv_at hl 0 rfl) ?_
      refine va_get (D := (dC, dI)) (ci := 9) (v := .int iT_next) (C := RX9) (T := TX9) (N := 9) hx hb hts iwsMX9_takeSign_in9 hown hK hP 0 rfl rfl 8 (by decide) (hts (.fieldLink RX9 40 "OptimaWorks$Words" "next" "I") (by decide +kernel)) (fun _ h9 => h9) rfl dX9_takeSign_18 ?_
      refine lv_iconst (v := 1) hx hb dX9_takeSign_21 (by decide) ?_
      refine lv_iadd hx hb dX9_takeSign_22 ?_
      refine lv_topi (fun y4 hy4 => ?_)
      obtain rfl : (iI (iT_next.toInt + 1)) = y4 := (hy4.trans (iI_add2 (iI_of _) (by decide : (1 : Int32) = iI 1))).symm
      refine va_bald (cA := kT 0) (n := nT_tape) (f := fT_tape) hx hb hK hP 1 0 rfl rfl (vp_iI (Int.le_trans (by decide) (Int.add_le_add (b_iT_next.1) (Int.le_refl _))) (by omega) (by omega)) dX9_takeSign_23 ?_
      refine lv_topi (fun v5 hv5 => ?_)
      have b_v5 : (-128) ≤ v5.toInt ∧ v5.toInt ≤ 127 := by rw [hv5]; exact b_fT_tape _
      clear hv5
      refine lv_goto (tgt := 28) hx hb dX9_takeSign_24 (by decide) ?_
      have hl : lv_has _ _ ([(0, .ref (hT 0)), (1, .int p1)]) := lv_sub hl [0, 1] rfl
      exact join4 _ _ _ _ ⟨v5, (b_v5), (show v5.toInt ≠ -1 → iT_next.toInt + 1 < iT_length.toInt from by first | (intro h9; exact absurd (by decide) h9) | (intro h9; omega)), rfl, hP, hD, hS, hl⟩
  · rintro H locs ls stk ⟨k0_j4, b_k0_j4, hjs, rfl, hP, hD, hS, hl⟩
    refine lv_istore_n hx hb dX9_takeSign_28 rfl hl (by decide) rfl (fun ls (hl : lv_has ls _ ([(2, .int k0_j4), (0, .ref (hT 0)), (1, .int p1)])) => ?_)
    refine lv_aload_n hx hb dX9_takeSign_29 rfl (lv_at hl 1 rfl) ?_
    refine lv_iload_n hx hb dX9_takeSign_30 rfl (lv_at hl 2 rfl) ?_
    refine lv_bipush (v := 46) hx hb dX9_takeSign_31 (by decide) ?_
    refine W.cut (pc := 103) (fun H locs ls stk => ∃ (k0_j5 : Int32), ((-1) ≤ k0_j5.toInt ∧ k0_j5.toInt ≤ 303) ∧ (k0_j5.toInt ≠ -1 → iT_next.toInt + 2 ≤ iT_length.toInt) ∧  stk = [.int k0_j5, .ref (hT 0)] ∧ va_P (dC, dI) vwCl (WT hT aT kT fT_tape dT_tape nT_tape iT_length iT_fault iT_place iT_kind iT_at iT_number jT_name iT_next) H ∧ va_D A (WT hT aT kT fT_tape dT_tape nT_tape iT_length iT_fault iT_place iT_kind iT_at iT_number jT_name iT_next) ∧ va_S A s.heap H locs ∧ lv_has ls 3 [(2, .int k0_j4), (0, .ref (hT 0)), (1, .int p1)]) (fun join5 => ?_) ?_
    · refine lv_icmp_ne (tgt := 48) hx hb dX9_takeSign_33 (by decide) (fun c_33 => ?_) (fun c_33 => ?_)
      · have t_33 : p1.toInt ≠ 46 := toI_ne c_33 rfl (by decide : (46 : Int32).toInt = 46)
        refine lv_iload_n hx hb dX9_takeSign_48 rfl (lv_at hl 2 rfl) ?_
        refine lv_bipush (v := 60) hx hb dX9_takeSign_49 (by decide) ?_
        refine lv_icmp_ne (tgt := 66) hx hb dX9_takeSign_51 (by decide) (fun c_51 => ?_) (fun c_51 => ?_)
        · have t_51 : p1.toInt ≠ 60 := toI_ne c_51 rfl (by decide : (60 : Int32).toInt = 60)
          refine lv_iload_n hx hb dX9_takeSign_66 rfl (lv_at hl 2 rfl) ?_
          refine lv_bipush (v := 62) hx hb dX9_takeSign_67 (by decide) ?_
          refine lv_icmp_ne (tgt := 84) hx hb dX9_takeSign_69 (by decide) (fun c_69 => ?_) (fun c_69 => ?_)
          · have t_69 : p1.toInt ≠ 62 := toI_ne c_69 rfl (by decide : (62 : Int32).toInt = 62)
            refine lv_iload_n hx hb dX9_takeSign_84 rfl (lv_at hl 2 rfl) ?_
            refine lv_bipush (v := 60) hx hb dX9_takeSign_85 (by decide) ?_
            refine lv_icmp_ne (tgt := 102) hx hb dX9_takeSign_87 (by decide) (fun c_87 => ?_) (fun c_87 => ?_)
            · have t_87 : p1.toInt ≠ 60 := toI_ne c_87 rfl (by decide : (60 : Int32).toInt = 60)
              refine lv_iconst (v := (-1)) hx hb dX9_takeSign_102 (by decide) ?_
              have hl : lv_has _ _ ([(2, .int k0_j4), (0, .ref (hT 0)), (1, .int p1)]) := lv_sub hl [0, 1, 2] rfl
              exact join5 _ _ _ _ ⟨(-1), (show (-1) ≤ ((-1) : Int32).toInt ∧ ((-1) : Int32).toInt ≤ 303 from by decide), (show ((-1) : Int32).toInt ≠ -1 → iT_next.toInt + 2 ≤ iT_length.toInt from by first | (intro h9; exact absurd (by decide) h9) | (intro h9; omega)), rfl, hP, hD, hS, hl⟩
            · have t_87 : p1.toInt = 60 := toI_nne c_87 rfl (by decide : (60 : Int32).toInt = 60)
              refine lv_iload_n hx hb dX9_takeSign_90 rfl (lv_at hl 0 rfl) ?_
              refine lv_bipush (v := 62) hx hb dX9_takeSign_91 (by decide) ?_
              refine lv_icmp_ne (tgt := 102) hx hb dX9_takeSign_93 (by decide) (fun c_93 => ?_) (fun c_93 => ?_)
              · have t_93 : k0_j4.toInt ≠ 62 := toI_ne c_93 rfl (by decide : (62 : Int32).toInt = 62)
                refine lv_iconst (v := (-1)) hx hb dX9_takeSign_102 (by decide) ?_
                have hl : lv_has _ _ ([(2, .int k0_j4), (0, .ref (hT 0)), (1, .int p1)]) := lv_sub hl [0, 1, 2] rfl
                exact join5 _ _ _ _ ⟨(-1), (show (-1) ≤ ((-1) : Int32).toInt ∧ ((-1) : Int32).toInt ≤ 303 from by decide), (show ((-1) : Int32).toInt ≠ -1 → iT_next.toInt + 2 ≤ iT_length.toInt from by first | (intro h9; exact absurd (by decide) h9) | (intro h9; omega)), rfl, hP, hD, hS, hl⟩
              · have t_93 : k0_j4.toInt = 62 := toI_nne c_93 rfl (by decide : (62 : Int32).toInt = 62)
                refine lv_sipush (v := 303) hx hb dX9_takeSign_96 (by decide) ?_
                refine lv_goto (tgt := 103) hx hb dX9_takeSign_99 (by decide) ?_
                have hl : lv_has _ _ ([(2, .int k0_j4), (0, .ref (hT 0)), (1, .int p1)]) := lv_sub hl [0, 1, 2] rfl
                exact join5 _ _ _ _ ⟨303, (show (-1) ≤ (303 : Int32).toInt ∧ (303 : Int32).toInt ≤ 303 from by decide), (show (303 : Int32).toInt ≠ -1 → iT_next.toInt + 2 ≤ iT_length.toInt from by first | (intro h9; exact absurd (by decide) h9) | (intro h9; omega)), rfl, hP, hD, hS, hl⟩
          · have t_69 : p1.toInt = 62 := toI_nne c_69 rfl (by decide : (62 : Int32).toInt = 62)
            refine lv_iload_n hx hb dX9_takeSign_72 rfl (lv_at hl 0 rfl) ?_
            refine lv_bipush (v := 61) hx hb dX9_takeSign_73 (by decide) ?_
            refine lv_icmp_ne (tgt := 84) hx hb dX9_takeSign_75 (by decide) (fun c_75 => ?_) (fun c_75 => ?_)
            · have t_75 : k0_j4.toInt ≠ 61 := toI_ne c_75 rfl (by decide : (61 : Int32).toInt = 61)
              refine lv_iload_n hx hb dX9_takeSign_84 rfl (lv_at hl 2 rfl) ?_
              refine lv_bipush (v := 60) hx hb dX9_takeSign_85 (by decide) ?_
              refine lv_icmp_ne (tgt := 102) hx hb dX9_takeSign_87 (by decide) (fun c_87 => ?_) (fun c_87 => ?_)
              · have t_87 : p1.toInt ≠ 60 := toI_ne c_87 rfl (by decide : (60 : Int32).toInt = 60)
                refine lv_iconst (v := (-1)) hx hb dX9_takeSign_102 (by decide) ?_
                have hl : lv_has _ _ ([(2, .int k0_j4), (0, .ref (hT 0)), (1, .int p1)]) := lv_sub hl [0, 1, 2] rfl
                exact join5 _ _ _ _ ⟨(-1), (show (-1) ≤ ((-1) : Int32).toInt ∧ ((-1) : Int32).toInt ≤ 303 from by decide), (show ((-1) : Int32).toInt ≠ -1 → iT_next.toInt + 2 ≤ iT_length.toInt from by first | (intro h9; exact absurd (by decide) h9) | (intro h9; omega)), rfl, hP, hD, hS, hl⟩
              · have t_87 : p1.toInt = 60 := toI_nne c_87 rfl (by decide : (60 : Int32).toInt = 60)
                refine lv_iload_n hx hb dX9_takeSign_90 rfl (lv_at hl 0 rfl) ?_
                refine lv_bipush (v := 62) hx hb dX9_takeSign_91 (by decide) ?_
                refine lv_icmp_ne (tgt := 102) hx hb dX9_takeSign_93 (by decide) (fun c_93 => ?_) (fun c_93 => ?_)
                · have t_93 : k0_j4.toInt ≠ 62 := toI_ne c_93 rfl (by decide : (62 : Int32).toInt = 62)
                  refine lv_iconst (v := (-1)) hx hb dX9_takeSign_102 (by decide) ?_
                  have hl : lv_has _ _ ([(2, .int k0_j4), (0, .ref (hT 0)), (1, .int p1)]) := lv_sub hl [0, 1, 2] rfl
                  exact join5 _ _ _ _ ⟨(-1), (show (-1) ≤ ((-1) : Int32).toInt ∧ ((-1) : Int32).toInt ≤ 303 from by decide), (show ((-1) : Int32).toInt ≠ -1 → iT_next.toInt + 2 ≤ iT_length.toInt from by first | (intro h9; exact absurd (by decide) h9) | (intro h9; omega)), rfl, hP, hD, hS, hl⟩
                · have t_93 : k0_j4.toInt = 62 := toI_nne c_93 rfl (by decide : (62 : Int32).toInt = 62)
                  refine lv_sipush (v := 303) hx hb dX9_takeSign_96 (by decide) ?_
                  refine lv_goto (tgt := 103) hx hb dX9_takeSign_99 (by decide) ?_
                  have hl : lv_has _ _ ([(2, .int k0_j4), (0, .ref (hT 0)), (1, .int p1)]) := lv_sub hl [0, 1, 2] rfl
                  exact join5 _ _ _ _ ⟨303, (show (-1) ≤ (303 : Int32).toInt ∧ (303 : Int32).toInt ≤ 303 from by decide), (show (303 : Int32).toInt ≠ -1 → iT_next.toInt + 2 ≤ iT_length.toInt from by first | (intro h9; exact absurd (by decide) h9) | (intro h9; omega)), rfl, hP, hD, hS, hl⟩
            · have t_75 : k0_j4.toInt = 61 := toI_nne c_75 rfl (by decide : (61 : Int32).toInt = 61)
              refine lv_sipush (v := 302) hx hb dX9_takeSign_78 (by decide) ?_
              refine lv_goto (tgt := 103) hx hb dX9_takeSign_81 (by decide) ?_
              have hl : lv_has _ _ ([(2, .int k0_j4), (0, .ref (hT 0)), (1, .int p1)]) := lv_sub hl [0, 1, 2] rfl
              exact join5 _ _ _ _ ⟨302, (show (-1) ≤ (302 : Int32).toInt ∧ (302 : Int32).toInt ≤ 303 from by decide), (show (302 : Int32).toInt ≠ -1 → iT_next.toInt + 2 ≤ iT_length.toInt from by first | (intro h9; exact absurd (by decide) h9) | (intro h9; omega)), rfl, hP, hD, hS, hl⟩
        · have t_51 : p1.toInt = 60 := toI_nne c_51 rfl (by decide : (60 : Int32).toInt = 60)
          refine lv_iload_n hx hb dX9_takeSign_54 rfl (lv_at hl 0 rfl) ?_
          refine lv_bipush (v := 61) hx hb dX9_takeSign_55 (by decide) ?_
          refine lv_icmp_ne (tgt := 66) hx hb dX9_takeSign_57 (by decide) (fun c_57 => ?_) (fun c_57 => ?_)
          · have t_57 : k0_j4.toInt ≠ 61 := toI_ne c_57 rfl (by decide : (61 : Int32).toInt = 61)
            refine lv_iload_n hx hb dX9_takeSign_66 rfl (lv_at hl 2 rfl) ?_
            refine lv_bipush (v := 62) hx hb dX9_takeSign_67 (by decide) ?_
            refine lv_icmp_ne (tgt := 84) hx hb dX9_takeSign_69 (by decide) (fun c_69 => ?_) (fun c_69 => ?_)
            · have t_69 : p1.toInt ≠ 62 := toI_ne c_69 rfl (by decide : (62 : Int32).toInt = 62)
              refine lv_iload_n hx hb dX9_takeSign_84 rfl (lv_at hl 2 rfl) ?_
              refine lv_bipush (v := 60) hx hb dX9_takeSign_85 (by decide) ?_
              refine lv_icmp_ne (tgt := 102) hx hb dX9_takeSign_87 (by decide) (fun c_87 => ?_) (fun c_87 => ?_)
              · have t_87 : p1.toInt ≠ 60 := toI_ne c_87 rfl (by decide : (60 : Int32).toInt = 60)
                refine lv_iconst (v := (-1)) hx hb dX9_takeSign_102 (by decide) ?_
                have hl : lv_has _ _ ([(2, .int k0_j4), (0, .ref (hT 0)), (1, .int p1)]) := lv_sub hl [0, 1, 2] rfl
                exact join5 _ _ _ _ ⟨(-1), (show (-1) ≤ ((-1) : Int32).toInt ∧ ((-1) : Int32).toInt ≤ 303 from by decide), (show ((-1) : Int32).toInt ≠ -1 → iT_next.toInt + 2 ≤ iT_length.toInt from by first | (intro h9; exact absurd (by decide) h9) | (intro h9; omega)), rfl, hP, hD, hS, hl⟩
              · have t_87 : p1.toInt = 60 := toI_nne c_87 rfl (by decide : (60 : Int32).toInt = 60)
                refine lv_iload_n hx hb dX9_takeSign_90 rfl (lv_at hl 0 rfl) ?_
                refine lv_bipush (v := 62) hx hb dX9_takeSign_91 (by decide) ?_
                refine lv_icmp_ne (tgt := 102) hx hb dX9_takeSign_93 (by decide) (fun c_93 => ?_) (fun c_93 => ?_)
                · have t_93 : k0_j4.toInt ≠ 62 := toI_ne c_93 rfl (by decide : (62 : Int32).toInt = 62)
                  refine lv_iconst (v := (-1)) hx hb dX9_takeSign_102 (by decide) ?_
                  have hl : lv_has _ _ ([(2, .int k0_j4), (0, .ref (hT 0)), (1, .int p1)]) := lv_sub hl [0, 1, 2] rfl
                  exact join5 _ _ _ _ ⟨(-1), (show (-1) ≤ ((-1) : Int32).toInt ∧ ((-1) : Int32).toInt ≤ 303 from by decide), (show ((-1) : Int32).toInt ≠ -1 → iT_next.toInt + 2 ≤ iT_length.toInt from by first | (intro h9; exact absurd (by decide) h9) | (intro h9; omega)), rfl, hP, hD, hS, hl⟩
                · have t_93 : k0_j4.toInt = 62 := toI_nne c_93 rfl (by decide : (62 : Int32).toInt = 62)
                  refine lv_sipush (v := 303) hx hb dX9_takeSign_96 (by decide) ?_
                  refine lv_goto (tgt := 103) hx hb dX9_takeSign_99 (by decide) ?_
                  have hl : lv_has _ _ ([(2, .int k0_j4), (0, .ref (hT 0)), (1, .int p1)]) := lv_sub hl [0, 1, 2] rfl
                  exact join5 _ _ _ _ ⟨303, (show (-1) ≤ (303 : Int32).toInt ∧ (303 : Int32).toInt ≤ 303 from by decide), (show (303 : Int32).toInt ≠ -1 → iT_next.toInt + 2 ≤ iT_length.toInt from by first | (intro h9; exact absurd (by decide) h9) | (intro h9; omega)), rfl, hP, hD, hS, hl⟩
            · have t_69 : p1.toInt = 62 := toI_nne c_69 rfl (by decide : (62 : Int32).toInt = 62)
              refine lv_iload_n hx hb dX9_takeSign_72 rfl (lv_at hl 0 rfl) ?_
              refine lv_bipush (v := 61) hx hb dX9_takeSign_73 (by decide) ?_
              refine lv_icmp_ne (tgt := 84) hx hb dX9_takeSign_75 (by decide) (fun c_75 => ?_) (fun c_75 => ?_)
              · have t_75 : k0_j4.toInt ≠ 61 := toI_ne c_75 rfl (by decide : (61 : Int32).toInt = 61)
                refine lv_iload_n hx hb dX9_takeSign_84 rfl (lv_at hl 2 rfl) ?_
                refine lv_bipush (v := 60) hx hb dX9_takeSign_85 (by decide) ?_
                refine lv_icmp_ne (tgt := 102) hx hb dX9_takeSign_87 (by decide) (fun c_87 => ?_) (fun c_87 => ?_)
                · have t_87 : p1.toInt ≠ 60 := toI_ne c_87 rfl (by decide : (60 : Int32).toInt = 60)
                  refine lv_iconst (v := (-1)) hx hb dX9_takeSign_102 (by decide) ?_
                  have hl : lv_has _ _ ([(2, .int k0_j4), (0, .ref (hT 0)), (1, .int p1)]) := lv_sub hl [0, 1, 2] rfl
                  exact join5 _ _ _ _ ⟨(-1), (show (-1) ≤ ((-1) : Int32).toInt ∧ ((-1) : Int32).toInt ≤ 303 from by decide), (show ((-1) : Int32).toInt ≠ -1 → iT_next.toInt + 2 ≤ iT_length.toInt from by first | (intro h9; exact absurd (by decide) h9) | (intro h9; omega)), rfl, hP, hD, hS, hl⟩
                · have t_87 : p1.toInt = 60 := toI_nne c_87 rfl (by decide : (60 : Int32).toInt = 60)
                  refine lv_iload_n hx hb dX9_takeSign_90 rfl (lv_at hl 0 rfl) ?_
                  refine lv_bipush (v := 62) hx hb dX9_takeSign_91 (by decide) ?_
                  refine lv_icmp_ne (tgt := 102) hx hb dX9_takeSign_93 (by decide) (fun c_93 => ?_) (fun c_93 => ?_)
                  · have t_93 : k0_j4.toInt ≠ 62 := toI_ne c_93 rfl (by decide : (62 : Int32).toInt = 62)
                    refine lv_iconst (v := (-1)) hx hb dX9_takeSign_102 (by decide) ?_
                    have hl : lv_has _ _ ([(2, .int k0_j4), (0, .ref (hT 0)), (1, .int p1)]) := lv_sub hl [0, 1, 2] rfl
                    exact join5 _ _ _ _ ⟨(-1), (show (-1) ≤ ((-1) : Int32).toInt ∧ ((-1) : Int32).toInt ≤ 303 from by decide), (show ((-1) : Int32).toInt ≠ -1 → iT_next.toInt + 2 ≤ iT_length.toInt from by first | (intro h9; exact absurd (by decide) h9) | (intro h9; omega)), rfl, hP, hD, hS, hl⟩
                  · have t_93 : k0_j4.toInt = 62 := toI_nne c_93 rfl (by decide : (62 : Int32).toInt = 62)
                    refine lv_sipush (v := 303) hx hb dX9_takeSign_96 (by decide) ?_
                    refine lv_goto (tgt := 103) hx hb dX9_takeSign_99 (by decide) ?_
                    have hl : lv_has _ _ ([(2, .int k0_j4), (0, .ref (hT 0)), (1, .int p1)]) := lv_sub hl [0, 1, 2] rfl
                    exact join5 _ _ _ _ ⟨303, (show (-1) ≤ (303 : Int32).toInt ∧ (303 : Int32).toInt ≤ 303 from by decide), (show (303 : Int32).toInt ≠ -1 → iT_next.toInt + 2 ≤ iT_length.toInt from by first | (intro h9; exact absurd (by decide) h9) | (intro h9; omega)), rfl, hP, hD, hS, hl⟩
              · have t_75 : k0_j4.toInt = 61 := toI_nne c_75 rfl (by decide : (61 : Int32).toInt = 61)
                refine lv_sipush (v := 302) hx hb dX9_takeSign_78 (by decide) ?_
                refine lv_goto (tgt := 103) hx hb dX9_takeSign_81 (by decide) ?_
                have hl : lv_has _ _ ([(2, .int k0_j4), (0, .ref (hT 0)), (1, .int p1)]) := lv_sub hl [0, 1, 2] rfl
                exact join5 _ _ _ _ ⟨302, (show (-1) ≤ (302 : Int32).toInt ∧ (302 : Int32).toInt ≤ 303 from by decide), (show (302 : Int32).toInt ≠ -1 → iT_next.toInt + 2 ≤ iT_length.toInt from by first | (intro h9; exact absurd (by decide) h9) | (intro h9; omega)), rfl, hP, hD, hS, hl⟩
          · have t_57 : k0_j4.toInt = 61 := toI_nne c_57 rfl (by decide : (61 : Int32).toInt = 61)
            refine lv_sipush (v := 301) hx hb dX9_takeSign_60 (by decide) ?_
            refine lv_goto (tgt := 103) hx hb dX9_takeSign_63 (by decide) ?_
            have hl : lv_has _ _ ([(2, .int k0_j4), (0, .ref (hT 0)), (1, .int p1)]) := lv_sub hl [0, 1, 2] rfl
            exact join5 _ _ _ _ ⟨301, (show (-1) ≤ (301 : Int32).toInt ∧ (301 : Int32).toInt ≤ 303 from by decide), (show (301 : Int32).toInt ≠ -1 → iT_next.toInt + 2 ≤ iT_length.toInt from by first | (intro h9; exact absurd (by decide) h9) | (intro h9; omega)), rfl, hP, hD, hS, hl⟩
      · have t_33 : p1.toInt = 46 := toI_nne c_33 rfl (by decide : (46 : Int32).toInt = 46)
        refine lv_iload_n hx hb dX9_takeSign_36 rfl (lv_at hl 0 rfl) ?_
        refine lv_bipush (v := 46) hx hb dX9_takeSign_37 (by decide) ?_
        refine lv_icmp_ne (tgt := 48) hx hb dX9_takeSign_39 (by decide) (fun c_39 => ?_) (fun c_39 => ?_)
        · have t_39 : k0_j4.toInt ≠ 46 := toI_ne c_39 rfl (by decide : (46 : Int32).toInt = 46)
          refine lv_iload_n hx hb dX9_takeSign_48 rfl (lv_at hl 2 rfl) ?_
          refine lv_bipush (v := 60) hx hb dX9_takeSign_49 (by decide) ?_
          refine lv_icmp_ne (tgt := 66) hx hb dX9_takeSign_51 (by decide) (fun c_51 => ?_) (fun c_51 => ?_)
          · have t_51 : p1.toInt ≠ 60 := toI_ne c_51 rfl (by decide : (60 : Int32).toInt = 60)
            refine lv_iload_n hx hb dX9_takeSign_66 rfl (lv_at hl 2 rfl) ?_
            refine lv_bipush (v := 62) hx hb dX9_takeSign_67 (by decide) ?_
            refine lv_icmp_ne (tgt := 84) hx hb dX9_takeSign_69 (by decide) (fun c_69 => ?_) (fun c_69 => ?_)
            · have t_69 : p1.toInt ≠ 62 := toI_ne c_69 rfl (by decide : (62 : Int32).toInt = 62)
              refine lv_iload_n hx hb dX9_takeSign_84 rfl (lv_at hl 2 rfl) ?_
              refine lv_bipush (v := 60) hx hb dX9_takeSign_85 (by decide) ?_
              refine lv_icmp_ne (tgt := 102) hx hb dX9_takeSign_87 (by decide) (fun c_87 => ?_) (fun c_87 => ?_)
              · have t_87 : p1.toInt ≠ 60 := toI_ne c_87 rfl (by decide : (60 : Int32).toInt = 60)
                refine lv_iconst (v := (-1)) hx hb dX9_takeSign_102 (by decide) ?_
                have hl : lv_has _ _ ([(2, .int k0_j4), (0, .ref (hT 0)), (1, .int p1)]) := lv_sub hl [0, 1, 2] rfl
                exact join5 _ _ _ _ ⟨(-1), (show (-1) ≤ ((-1) : Int32).toInt ∧ ((-1) : Int32).toInt ≤ 303 from by decide), (show ((-1) : Int32).toInt ≠ -1 → iT_next.toInt + 2 ≤ iT_length.toInt from by first | (intro h9; exact absurd (by decide) h9) | (intro h9; omega)), rfl, hP, hD, hS, hl⟩
              · have t_87 : p1.toInt = 60 := toI_nne c_87 rfl (by decide : (60 : Int32).toInt = 60)
                refine lv_iload_n hx hb dX9_takeSign_90 rfl (lv_at hl 0 rfl) ?_
                refine lv_bipush (v := 62) hx hb dX9_takeSign_91 (by decide) ?_
                refine lv_icmp_ne (tgt := 102) hx hb dX9_takeSign_93 (by decide) (fun c_93 => ?_) (fun c_93 => ?_)
                · have t_93 : k0_j4.toInt ≠ 62 := toI_ne c_93 rfl (by decide : (62 : Int32).toInt = 62)
                  refine lv_iconst (v := (-1)) hx hb dX9_takeSign_102 (by decide) ?_
                  have hl : lv_has _ _ ([(2, .int k0_j4), (0, .ref (hT 0)), (1, .int p1)]) := lv_sub hl [0, 1, 2] rfl
                  exact join5 _ _ _ _ ⟨(-1), (show (-1) ≤ ((-1) : Int32).toInt ∧ ((-1) : Int32).toInt ≤ 303 from by decide), (show ((-1) : Int32).toInt ≠ -1 → iT_next.toInt + 2 ≤ iT_length.toInt from by first | (intro h9; exact absurd (by decide) h9) | (intro h9; omega)), rfl, hP, hD, hS, hl⟩
                · have t_93 : k0_j4.toInt = 62 := toI_nne c_93 rfl (by decide : (62 : Int32).toInt = 62)
                  refine lv_sipush (v := 303) hx hb dX9_takeSign_96 (by decide) ?_
                  refine lv_goto (tgt := 103) hx hb dX9_takeSign_99 (by decide) ?_
                  have hl : lv_has _ _ ([(2, .int k0_j4), (0, .ref (hT 0)), (1, .int p1)]) := lv_sub hl [0, 1, 2] rfl
                  exact join5 _ _ _ _ ⟨303, (show (-1) ≤ (303 : Int32).toInt ∧ (303 : Int32).toInt ≤ 303 from by decide), (show (303 : Int32).toInt ≠ -1 → iT_next.toInt + 2 ≤ iT_length.toInt from by first | (intro h9; exact absurd (by decide) h9) | (intro h9; omega)), rfl, hP, hD, hS, hl⟩
            · have t_69 : p1.toInt = 62 := toI_nne c_69 rfl (by decide : (62 : Int32).toInt = 62)
              refine lv_iload_n hx hb dX9_takeSign_72 rfl (lv_at hl 0 rfl) ?_
              refine lv_bipush (v := 61) hx hb dX9_takeSign_73 (by decide) ?_
              refine lv_icmp_ne (tgt := 84) hx hb dX9_takeSign_75 (by decide) (fun c_75 => ?_) (fun c_75 => ?_)
              · have t_75 : k0_j4.toInt ≠ 61 := toI_ne c_75 rfl (by decide : (61 : Int32).toInt = 61)
                refine lv_iload_n hx hb dX9_takeSign_84 rfl (lv_at hl 2 rfl) ?_
                refine lv_bipush (v := 60) hx hb dX9_takeSign_85 (by decide) ?_
                refine lv_icmp_ne (tgt := 102) hx hb dX9_takeSign_87 (by decide) (fun c_87 => ?_) (fun c_87 => ?_)
                · have t_87 : p1.toInt ≠ 60 := toI_ne c_87 rfl (by decide : (60 : Int32).toInt = 60)
                  refine lv_iconst (v := (-1)) hx hb dX9_takeSign_102 (by decide) ?_
                  have hl : lv_has _ _ ([(2, .int k0_j4), (0, .ref (hT 0)), (1, .int p1)]) := lv_sub hl [0, 1, 2] rfl
                  exact join5 _ _ _ _ ⟨(-1), (show (-1) ≤ ((-1) : Int32).toInt ∧ ((-1) : Int32).toInt ≤ 303 from by decide), (show ((-1) : Int32).toInt ≠ -1 → iT_next.toInt + 2 ≤ iT_length.toInt from by first | (intro h9; exact absurd (by decide) h9) | (intro h9; omega)), rfl, hP, hD, hS, hl⟩
                · have t_87 : p1.toInt = 60 := toI_nne c_87 rfl (by decide : (60 : Int32).toInt = 60)
                  refine lv_iload_n hx hb dX9_takeSign_90 rfl (lv_at hl 0 rfl) ?_
                  refine lv_bipush (v := 62) hx hb dX9_takeSign_91 (by decide) ?_
                  refine lv_icmp_ne (tgt := 102) hx hb dX9_takeSign_93 (by decide) (fun c_93 => ?_) (fun c_93 => ?_)
                  · have t_93 : k0_j4.toInt ≠ 62 := toI_ne c_93 rfl (by decide : (62 : Int32).toInt = 62)
                    refine lv_iconst (v := (-1)) hx hb dX9_takeSign_102 (by decide) ?_
                    have hl : lv_has _ _ ([(2, .int k0_j4), (0, .ref (hT 0)), (1, .int p1)]) := lv_sub hl [0, 1, 2] rfl
                    exact join5 _ _ _ _ ⟨(-1), (show (-1) ≤ ((-1) : Int32).toInt ∧ ((-1) : Int32).toInt ≤ 303 from by decide), (show ((-1) : Int32).toInt ≠ -1 → iT_next.toInt + 2 ≤ iT_length.toInt from by first | (intro h9; exact absurd (by decide) h9) | (intro h9; omega)), rfl, hP, hD, hS, hl⟩
                  · have t_93 : k0_j4.toInt = 62 := toI_nne c_93 rfl (by decide : (62 : Int32).toInt = 62)
                    refine lv_sipush (v := 303) hx hb dX9_takeSign_96 (by decide) ?_
                    refine lv_goto (tgt := 103) hx hb dX9_takeSign_99 (by decide) ?_
                    have hl : lv_has _ _ ([(2, .int k0_j4), (0, .ref (hT 0)), (1, .int p1)]) := lv_sub hl [0, 1, 2] rfl
                    exact join5 _ _ _ _ ⟨303, (show (-1) ≤ (303 : Int32).toInt ∧ (303 : Int32).toInt ≤ 303 from by decide), (show (303 : Int32).toInt ≠ -1 → iT_next.toInt + 2 ≤ iT_length.toInt from by first | (intro h9; exact absurd (by decide) h9) | (intro h9; omega)), rfl, hP, hD, hS, hl⟩
              · have t_75 : k0_j4.toInt = 61 := toI_nne c_75 rfl (by decide : (61 : Int32).toInt = 61)
                refine lv_sipush (v := 302) hx hb dX9_takeSign_78 (by decide) ?_
                refine lv_goto (tgt := 103) hx hb dX9_takeSign_81 (by decide) ?_
                have hl : lv_has _ _ ([(2, .int k0_j4), (0, .ref (hT 0)), (1, .int p1)]) := lv_sub hl [0, 1, 2] rfl
                exact join5 _ _ _ _ ⟨302, (show (-1) ≤ (302 : Int32).toInt ∧ (302 : Int32).toInt ≤ 303 from by decide), (show (302 : Int32).toInt ≠ -1 → iT_next.toInt + 2 ≤ iT_length.toInt from by first | (intro h9; exact absurd (by decide) h9) | (intro h9; omega)), rfl, hP, hD, hS, hl⟩
          · have t_51 : p1.toInt = 60 := toI_nne c_51 rfl (by decide : (60 : Int32).toInt = 60)
            refine lv_iload_n hx hb dX9_takeSign_54 rfl (lv_at hl 0 rfl) ?_
            refine lv_bipush (v := 61) hx hb dX9_takeSign_55 (by decide) ?_
            refine lv_icmp_ne (tgt := 66) hx hb dX9_takeSign_57 (by decide) (fun c_57 => ?_) (fun c_57 => ?_)
            · have t_57 : k0_j4.toInt ≠ 61 := toI_ne c_57 rfl (by decide : (61 : Int32).toInt = 61)
              refine lv_iload_n hx hb dX9_takeSign_66 rfl (lv_at hl 2 rfl) ?_
              refine lv_bipush (v := 62) hx hb dX9_takeSign_67 (by decide) ?_
              refine lv_icmp_ne (tgt := 84) hx hb dX9_takeSign_69 (by decide) (fun c_69 => ?_) (fun c_69 => ?_)
              · have t_69 : p1.toInt ≠ 62 := toI_ne c_69 rfl (by decide : (62 : Int32).toInt = 62)
                refine lv_iload_n hx hb dX9_takeSign_84 rfl (lv_at hl 2 rfl) ?_
                refine lv_bipush (v := 60) hx hb dX9_takeSign_85 (by decide) ?_
                refine lv_icmp_ne (tgt := 102) hx hb dX9_takeSign_87 (by decide) (fun c_87 => ?_) (fun c_87 => ?_)
                · have t_87 : p1.toInt ≠ 60 := toI_ne c_87 rfl (by decide : (60 : Int32).toInt = 60)
                  refine lv_iconst (v := (-1)) hx hb dX9_takeSign_102 (by decide) ?_
                  have hl : lv_has _ _ ([(2, .int k0_j4), (0, .ref (hT 0)), (1, .int p1)]) := lv_sub hl [0, 1, 2] rfl
                  exact join5 _ _ _ _ ⟨(-1), (show (-1) ≤ ((-1) : Int32).toInt ∧ ((-1) : Int32).toInt ≤ 303 from by decide), (show ((-1) : Int32).toInt ≠ -1 → iT_next.toInt + 2 ≤ iT_length.toInt from by first | (intro h9; exact absurd (by decide) h9) | (intro h9; omega)), rfl, hP, hD, hS, hl⟩
                · have t_87 : p1.toInt = 60 := toI_nne c_87 rfl (by decide : (60 : Int32).toInt = 60)
                  refine lv_iload_n hx hb dX9_takeSign_90 rfl (lv_at hl 0 rfl) ?_
                  refine lv_bipush (v := 62) hx hb dX9_takeSign_91 (by decide) ?_
                  refine lv_icmp_ne (tgt := 102) hx hb dX9_takeSign_93 (by decide) (fun c_93 => ?_) (fun c_93 => ?_)
                  · have t_93 : k0_j4.toInt ≠ 62 := toI_ne c_93 rfl (by decide : (62 : Int32).toInt = 62)
                    refine lv_iconst (v := (-1)) hx hb dX9_takeSign_102 (by decide) ?_
                    have hl : lv_has _ _ ([(2, .int k0_j4), (0, .ref (hT 0)), (1, .int p1)]) := lv_sub hl [0, 1, 2] rfl
                    exact join5 _ _ _ _ ⟨(-1), (show (-1) ≤ ((-1) : Int32).toInt ∧ ((-1) : Int32).toInt ≤ 303 from by decide), (show ((-1) : Int32).toInt ≠ -1 → iT_next.toInt + 2 ≤ iT_length.toInt from by first | (intro h9; exact absurd (by decide) h9) | (intro h9; omega)), rfl, hP, hD, hS, hl⟩
                  · have t_93 : k0_j4.toInt = 62 := toI_nne c_93 rfl (by decide : (62 : Int32).toInt = 62)
                    refine lv_sipush (v := 303) hx hb dX9_takeSign_96 (by decide) ?_
                    refine lv_goto (tgt := 103) hx hb dX9_takeSign_99 (by decide) ?_
                    have hl : lv_has _ _ ([(2, .int k0_j4), (0, .ref (hT 0)), (1, .int p1)]) := lv_sub hl [0, 1, 2] rfl
                    exact join5 _ _ _ _ ⟨303, (show (-1) ≤ (303 : Int32).toInt ∧ (303 : Int32).toInt ≤ 303 from by decide), (show (303 : Int32).toInt ≠ -1 → iT_next.toInt + 2 ≤ iT_length.toInt from by first | (intro h9; exact absurd (by decide) h9) | (intro h9; omega)), rfl, hP, hD, hS, hl⟩
              · have t_69 : p1.toInt = 62 := toI_nne c_69 rfl (by decide : (62 : Int32).toInt = 62)
                refine lv_iload_n hx hb dX9_takeSign_72 rfl (lv_at hl 0 rfl) ?_
                refine lv_bipush (v := 61) hx hb dX9_takeSign_73 (by decide) ?_
                refine lv_icmp_ne (tgt := 84) hx hb dX9_takeSign_75 (by decide) (fun c_75 => ?_) (fun c_75 => ?_)
                · have t_75 : k0_j4.toInt ≠ 61 := toI_ne c_75 rfl (by decide : (61 : Int32).toInt = 61)
                  refine lv_iload_n hx hb dX9_takeSign_84 rfl (lv_at hl 2 rfl) ?_
                  refine lv_bipush (v := 60) hx hb dX9_takeSign_85 (by decide) ?_
                  refine lv_icmp_ne (tgt := 102) hx hb dX9_takeSign_87 (by decide) (fun c_87 => ?_) (fun c_87 => ?_)
                  · have t_87 : p1.toInt ≠ 60 := toI_ne c_87 rfl (by decide : (60 : Int32).toInt = 60)
                    refine lv_iconst (v := (-1)) hx hb dX9_takeSign_102 (by decide) ?_
                    have hl : lv_has _ _ ([(2, .int k0_j4), (0, .ref (hT 0)), (1, .int p1)]) := lv_sub hl [0, 1, 2] rfl
                    exact join5 _ _ _ _ ⟨(-1), (show (-1) ≤ ((-1) : Int32).toInt ∧ ((-1) : Int32).toInt ≤ 303 from by decide), (show ((-1) : Int32).toInt ≠ -1 → iT_next.toInt + 2 ≤ iT_length.toInt from by first | (intro h9; exact absurd (by decide) h9) | (intro h9; omega)), rfl, hP, hD, hS, hl⟩
                  · have t_87 : p1.toInt = 60 := toI_nne c_87 rfl (by decide : (60 : Int32).toInt = 60)
                    refine lv_iload_n hx hb dX9_takeSign_90 rfl (lv_at hl 0 rfl) ?_
                    refine lv_bipush (v := 62) hx hb dX9_takeSign_91 (by decide) ?_
                    refine lv_icmp_ne (tgt := 102) hx hb dX9_takeSign_93 (by decide) (fun c_93 => ?_) (fun c_93 => ?_)
                    · have t_93 : k0_j4.toInt ≠ 62 := toI_ne c_93 rfl (by decide : (62 : Int32).toInt = 62)
                      refine lv_iconst (v := (-1)) hx hb dX9_takeSign_102 (by decide) ?_
                      have hl : lv_has _ _ ([(2, .int k0_j4), (0, .ref (hT 0)), (1, .int p1)]) := lv_sub hl [0, 1, 2] rfl
                      exact join5 _ _ _ _ ⟨(-1), (show (-1) ≤ ((-1) : Int32).toInt ∧ ((-1) : Int32).toInt ≤ 303 from by decide), (show ((-1) : Int32).toInt ≠ -1 → iT_next.toInt + 2 ≤ iT_length.toInt from by first | (intro h9; exact absurd (by decide) h9) | (intro h9; omega)), rfl, hP, hD, hS, hl⟩
                    · have t_93 : k0_j4.toInt = 62 := toI_nne c_93 rfl (by decide : (62 : Int32).toInt = 62)
                      refine lv_sipush (v := 303) hx hb dX9_takeSign_96 (by decide) ?_
                      refine lv_goto (tgt := 103) hx hb dX9_takeSign_99 (by decide) ?_
                      have hl : lv_has _ _ ([(2, .int k0_j4), (0, .ref (hT 0)), (1, .int p1)]) := lv_sub hl [0, 1, 2] rfl
                      exact join5 _ _ _ _ ⟨303, (show (-1) ≤ (303 : Int32).toInt ∧ (303 : Int32).toInt ≤ 303 from by decide), (show (303 : Int32).toInt ≠ -1 → iT_next.toInt + 2 ≤ iT_length.toInt from by first | (intro h9; exact absurd (by decide) h9) | (intro h9; omega)), rfl, hP, hD, hS, hl⟩
                · have t_75 : k0_j4.toInt = 61 := toI_nne c_75 rfl (by decide : (61 : Int32).toInt = 61)
                  refine lv_sipush (v := 302) hx hb dX9_takeSign_78 (by decide) ?_
                  refine lv_goto (tgt := 103) hx hb dX9_takeSign_81 (by decide) ?_
                  have hl : lv_has _ _ ([(2, .int k0_j4), (0, .ref (hT 0)), (1, .int p1)]) := lv_sub hl [0, 1, 2] rfl
                  exact join5 _ _ _ _ ⟨302, (show (-1) ≤ (302 : Int32).toInt ∧ (302 : Int32).toInt ≤ 303 from by decide), (show (302 : Int32).toInt ≠ -1 → iT_next.toInt + 2 ≤ iT_length.toInt from by first | (intro h9; exact absurd (by decide) h9) | (intro h9; omega)), rfl, hP, hD, hS, hl⟩
            · have t_57 : k0_j4.toInt = 61 := toI_nne c_57 rfl (by decide : (61 : Int32).toInt = 61)
              refine lv_sipush (v := 301) hx hb dX9_takeSign_60 (by decide) ?_
              refine lv_goto (tgt := 103) hx hb dX9_takeSign_63 (by decide) ?_
              have hl : lv_has _ _ ([(2, .int k0_j4), (0, .ref (hT 0)), (1, .int p1)]) := lv_sub hl [0, 1, 2] rfl
              exact join5 _ _ _ _ ⟨301, (show (-1) ≤ (301 : Int32).toInt ∧ (301 : Int32).toInt ≤ 303 from by decide), (show (301 : Int32).toInt ≠ -1 → iT_next.toInt + 2 ≤ iT_length.toInt from by first | (intro h9; exact absurd (by decide) h9) | (intro h9; omega)), rfl, hP, hD, hS, hl⟩
        · have t_39 : k0_j4.toInt = 46 := toI_nne c_39 rfl (by decide : (46 : Int32).toInt = 46)
          refine lv_sipush (v := 300) hx hb dX9_takeSign_42 (by decide) ?_
          refine lv_goto (tgt := 103) hx hb dX9_takeSign_45 (by decide) ?_
          have hl : lv_has _ _ ([(2, .int k0_j4), (0, .ref (hT 0)), (1, .int p1)]) := lv_sub hl [0, 1, 2] rfl
          exact join5 _ _ _ _ ⟨300, (show (-1) ≤ (300 : Int32).toInt ∧ (300 : Int32).toInt ≤ 303 from by decide), (show (300 : Int32).toInt ≠ -1 → iT_next.toInt + 2 ≤ iT_length.toInt from by first | (intro h9; exact absurd (by decide) h9) | (intro h9; omega)), rfl, hP, hD, hS, hl⟩
    · rintro H locs ls stk ⟨k0_j5, b_k0_j5, hjk, rfl, hP, hD, hS, hl⟩
      refine va_put (D := (dC, dI)) (ci := 9) (v := .int k0_j5) (ty := .int) (C := RX9) (T := TX9) (N := 9) hx hb hts iwsMX9_takeSign_in9 tyX9 tyX9_ok nmX9 hown hK hP hD hS 0 rfl rfl 4 (by decide) (hts (.fieldLink RX9 37 "OptimaWorks$Words" "kind" "I") (by decide +kernel)) (fun _ h9 => h9) rfl (by decide +kernel) rfl rfl (Nat.le_of_ble_eq_true rfl) dX9_takeSign_103 (fun H locs hP hD hS => ?_)
      have hP : va_P (dC, dI) vwCl (WT hT aT kT fT_tape dT_tape nT_tape iT_length iT_fault iT_place k0_j5 iT_at iT_number jT_name iT_next) H := hP
      have hD : va_D A (WT hT aT kT fT_tape dT_tape nT_tape iT_length iT_fault iT_place k0_j5 iT_at iT_number jT_name iT_next) := hD
      refine lv_aload_n hx hb dX9_takeSign_106 rfl (lv_at hl 1 rfl) ?_
      refine va_get (D := (dC, dI)) (ci := 9) (v := .int k0_j5) (C := RX9) (T := TX9) (N := 9) hx hb hts iwsMX9_takeSign_in9 hown hK hP 0 rfl rfl 4 (by decide) (hts (.fieldLink RX9 37 "OptimaWorks$Words" "kind" "I") (by decide +kernel)) (fun _ h9 => h9) rfl dX9_takeSign_107 ?_
      refine lv_iconst (v := (-1)) hx hb dX9_takeSign_110 (by decide) ?_
      refine lv_icmp_eq (tgt := 125) hx hb dX9_takeSign_111 (by decide) (fun c_111 => ?_) (fun c_111 => ?_)
      · have t_111 : k0_j5.toInt = (-1) := toI_eq c_111 rfl (by decide : ((-1) : Int32).toInt = (-1))
        refine lv_aload_n hx hb dX9_takeSign_125 rfl (lv_at hl 1 rfl) ?_
        obtain ⟨qS84, hR84, hSS84⟩ := hE.2.2.2 23 _ rfl
        refine va_ldcS hx hb hown hR84 dX9_takeSign_126 ?_
        refine lv_iload_n hx hb dX9_takeSign_128 rfl (lv_at hl 2 rfl) ?_
        refine lv_i2c hx hb dX9_takeSign_129 rfl ?_
        refine lv_topi (fun v6 hv6 => ?_)
        clear hv6
        have hFc := noneFree hS hA
        refine va_calli (va_runV (As := [.int v6]) (rest := [.ref (hT 0)]) ⟨hx, hb, hml, hown, hts⟩ (m_J0_indexOf_0f7a4 l dC dI qS84 16 (fun j => ([61, 60, 62, 58, 59, 44, 91, 93, 123, 125, 40, 41, 43, 45, 42, 47] : List Int32).getD j 0) v6 (by decide) H.size) (cwV 1 hts gwsMX9_takeSign_0 rfl rfl rfl hd_yJ0_indexOf_0f7a4_RJ0 (by decide +kernel)) ⟨fun a U g mk q => by obtain ⟨q0, q1, qP, qK, qD, qE⟩ := q; exact ⟨q0, q1, qP, va_K.moved (u := U) (U := U.calling g mk a) (Vm.Alike.refl U.vm) qK, qD, qE.same rfl⟩, hSS84.recv hS, fun U hU9 hW => ⟨rfl, by rw [hU9], by rw [hU9]; exact nilP, va_K.moved hW.alike (hK.sub (tys' := []) [] rfl), nilD, by rw [hU9]; exact (((hSS84 : (StrE qS84 16 (fun j => ([61, 60, 62, 58, 59, 44, 91, 93, 123, 125, 40, 41, 43, 45, 42, 47] : List Int32).getD j 0)) A s s.heap).kept hS.2.1).narrow (fun q h => hFc q h)).warm hW⟩⟩ rfl rfl hl.1 rfl (lv_room (Nat.le_of_ble_eq_true rfl)) dX9_takeSign_130 (by decide +kernel)) hS (fun q _ h => hFc q h) hFc (fun r7 u t9_ H1 locs ht hvm hw9 hB9 hz1 hk1 hS => ?_)
        clear hw9
        clear hB9
        have hP := keepAll hP hk1
        generalize H1 = H at hP hS ⊢
        have hP : va_P (dC, dI) vwCl (WT hT aT kT fT_tape dT_tape nT_tape iT_length iT_fault iT_place k0_j5 iT_at iT_number jT_name iT_next) H := hP
        have hD : va_D A (WT hT aT kT fT_tape dT_tape nT_tape iT_length iT_fault iT_place k0_j5 iT_at iT_number jT_name iT_next) := hD
        refine W.cut (pc := 141) (fun H locs ls stk => ∃ (k0_j6 : Int32),  stk = [.int k0_j6, .ref (hT 0)] ∧ va_P (dC, dI) vwCl (WT hT aT kT fT_tape dT_tape nT_tape iT_length iT_fault iT_place k0_j5 iT_at iT_number jT_name iT_next) H ∧ va_D A (WT hT aT kT fT_tape dT_tape nT_tape iT_length iT_fault iT_place k0_j5 iT_at iT_number jT_name iT_next) ∧ va_S A s.heap H locs ∧ lv_has ls 3 [(2, .int k0_j4), (0, .ref (hT 0)), (1, .int p1)]) (fun join6 => ?_) ?_
        · refine lv_if_lt (tgt := 140) hx hb dX9_takeSign_133 (by decide) (fun c_133 => ?_) (fun c_133 => ?_)
          · have t_133 : r7.toInt < 0 := toI_lt c_133 rfl (by decide : (0 : Int32).toInt = 0)
            refine lv_iconst (v := 3) hx hb dX9_takeSign_140 (by decide) ?_
            have hl : lv_has _ _ ([(2, .int k0_j4), (0, .ref (hT 0)), (1, .int p1)]) := lv_sub hl [0, 1, 2] rfl
            exact join6 _ _ _ _ ⟨3, rfl, hP, hD, hS, hl⟩
          · have t_133 : ¬ r7.toInt < 0 := toI_nlt c_133 rfl (by decide : (0 : Int32).toInt = 0)
            refine lv_iload_n hx hb dX9_takeSign_136 rfl (lv_at hl 2 rfl) ?_
            refine lv_goto (tgt := 141) hx hb dX9_takeSign_137 (by decide) ?_
            have hl : lv_has _ _ ([(2, .int k0_j4), (0, .ref (hT 0)), (1, .int p1)]) := lv_sub hl [0, 1, 2] rfl
            exact join6 _ _ _ _ ⟨p1, rfl, hP, hD, hS, hl⟩
        · rintro H locs ls stk ⟨k0_j6, rfl, hP, hD, hS, hl⟩
          refine va_put (D := (dC, dI)) (ci := 9) (v := .int k0_j6) (ty := .int) (C := RX9) (T := TX9) (N := 9) hx hb hts iwsMX9_takeSign_in9 tyX9 tyX9_ok nmX9 hown hK hP hD hS 0 rfl rfl 4 (by decide) (hts (.fieldLink RX9 37 "OptimaWorks$Words" "kind" "I") (by decide +kernel)) (fun _ h9 => h9) rfl (by decide +kernel) rfl rfl (Nat.le_of_ble_eq_true rfl) dX9_takeSign_141 (fun H locs hP hD hS => ?_)
          have hP : va_P (dC, dI) vwCl (WT hT aT kT fT_tape dT_tape nT_tape iT_length iT_fault iT_place k0_j6 iT_at iT_number jT_name iT_next) H := hP
          have hD : va_D A (WT hT aT kT fT_tape dT_tape nT_tape iT_length iT_fault iT_place k0_j6 iT_at iT_number jT_name iT_next) := hD
          refine lv_aload_n hx hb dX9_takeSign_144 rfl (lv_at hl 1 rfl) ?_
          refine lv_dup hx hb dX9_takeSign_145 rfl ?_
          refine va_get (D := (dC, dI)) (ci := 9) (v := .int iT_next) (C := RX9) (T := TX9) (N := 9) hx hb hts iwsMX9_takeSign_in9 hown hK hP 0 rfl rfl 8 (by decide) (hts (.fieldLink RX9 40 "OptimaWorks$Words" "next" "I") (by decide +kernel)) (fun _ h9 => h9) rfl dX9_takeSign_146 ?_
          refine lv_iconst (v := 1) hx hb dX9_takeSign_149 (by decide) ?_
          refine lv_iadd hx hb dX9_takeSign_150 ?_
          refine lv_topi (fun y8 hy8 => ?_)
          obtain rfl : (iI (iT_next.toInt + 1)) = y8 := (hy8.trans (iI_add2 (iI_of _) (by decide : (1 : Int32) = iI 1))).symm
          refine va_put (D := (dC, dI)) (ci := 9) (v := .int (iI (iT_next.toInt + 1))) (ty := .int) (C := RX9) (T := TX9) (N := 9) hx hb hts iwsMX9_takeSign_in9 tyX9 tyX9_ok nmX9 hown hK hP hD hS 0 rfl rfl 8 (by decide) (hts (.fieldLink RX9 40 "OptimaWorks$Words" "next" "I") (by decide +kernel)) (fun _ h9 => h9) rfl (by decide +kernel) rfl rfl (Nat.le_of_ble_eq_true rfl) dX9_takeSign_151 (fun H locs hP hD hS => ?_)
          have hP : va_P (dC, dI) vwCl (WT hT aT kT fT_tape dT_tape nT_tape iT_length iT_fault iT_place k0_j6 iT_at iT_number jT_name (iI (iT_next.toInt + 1))) H := hP
          have hD : va_D A (WT hT aT kT fT_tape dT_tape nT_tape iT_length iT_fault iT_place k0_j6 iT_at iT_number jT_name (iI (iT_next.toInt + 1))) := hD
          refine W.widen (k := 0) (n := 0) (by decide +kernel) (by decide +kernel) ?_
          exact W.vret hx hb hr (fun t9_ ht hW => ⟨⟨(k0_j6, (iI (iT_next.toInt + 1))), rfl, ⟨(by (try dsimp only); exact (iI_rng (Int.le_trans (by decide) (Int.add_le_add (b_iT_next.1) (Int.le_refl _))) (by omega) (by decide) (by decide))), (by (try dsimp only); first | assumption | omega | (rw [iI_t (by omega) (by omega)]; omega)), (by (try dsimp only); first | assumption | omega | (rw [iI_t (by omega) (by omega)]; omega))⟩, by rw [ht]; exact hP, hD⟩, hS.F ht⟩) hS.2.2 dX9_takeSign_154
      · have t_111 : ¬ k0_j5.toInt = (-1) := toI_neq c_111 rfl (by decide : ((-1) : Int32).toInt = (-1))
        refine lv_aload_n hx hb dX9_takeSign_114 rfl (lv_at hl 1 rfl) ?_
        refine lv_dup hx hb dX9_takeSign_115 rfl ?_
        refine va_get (D := (dC, dI)) (ci := 9) (v := .int iT_next) (C := RX9) (T := TX9) (N := 9) hx hb hts iwsMX9_takeSign_in9 hown hK hP 0 rfl rfl 8 (by decide) (hts (.fieldLink RX9 40 "OptimaWorks$Words" "next" "I") (by decide +kernel)) (fun _ h9 => h9) rfl dX9_takeSign_116 ?_
        refine lv_iconst (v := 2) hx hb dX9_takeSign_119 (by decide) ?_
        refine lv_iadd hx hb dX9_takeSign_120 ?_
        refine lv_topi (fun y9 hy9 => ?_)
        obtain rfl : (iI (iT_next.toInt + 2)) = y9 := (hy9.trans (iI_add2 (iI_of _) (by decide : (2 : Int32) = iI 2))).symm
        refine va_put (D := (dC, dI)) (ci := 9) (v := .int (iI (iT_next.toInt + 2))) (ty := .int) (C := RX9) (T := TX9) (N := 9) hx hb hts iwsMX9_takeSign_in9 tyX9 tyX9_ok nmX9 hown hK hP hD hS 0 rfl rfl 8 (by decide) (hts (.fieldLink RX9 40 "OptimaWorks$Words" "next" "I") (by decide +kernel)) (fun _ h9 => h9) rfl (by decide +kernel) rfl rfl (Nat.le_of_ble_eq_true rfl) dX9_takeSign_121 (fun H locs hP hD hS => ?_)
        have hP : va_P (dC, dI) vwCl (WT hT aT kT fT_tape dT_tape nT_tape iT_length iT_fault iT_place k0_j5 iT_at iT_number jT_name (iI (iT_next.toInt + 2))) H := hP
        have hD : va_D A (WT hT aT kT fT_tape dT_tape nT_tape iT_length iT_fault iT_place k0_j5 iT_at iT_number jT_name (iI (iT_next.toInt + 2))) := hD
        refine W.widen (k := 0) (n := 0) (by decide +kernel) (by decide +kernel) ?_
        exact W.vret hx hb hr (fun t9_ ht hW => ⟨⟨(k0_j5, (iI (iT_next.toInt + 2))), rfl, ⟨(by (try dsimp only); exact (iI_rng (Int.le_trans (by decide) (Int.add_le_add (b_iT_next.1) (Int.le_refl _))) (by omega) (by decide) (by decide))), (by (try dsimp only); first | assumption | omega | (rw [iI_t (by omega) (by omega)]; omega)), (by (try dsimp only); first | assumption | omega | (rw [iI_t (by omega) (by omega)]; omega))⟩, by rw [ht]; exact hP, hD⟩, hS.F ht⟩) hS.2.2 dX9_takeSign_124
theorem dX9_advance_0 : decode cX9_advance 0 = .ok (.aload_n 0, 1) := dk_42 (by decide +kernel)
theorem dX9_advance_1 : decode cX9_advance 1 = .ok (.invokevirtual 46, 3) := dk_182 (by decide +kernel)
theorem dX9_advance_4 : decode cX9_advance 4 = .ok (.aload_n 0, 1) := dk_42 (by decide +kernel)
theorem dX9_advance_5 : decode cX9_advance 5 = .ok (.aload_n 0, 1) := dk_42 (by decide +kernel)
theorem dX9_advance_6 : decode cX9_advance 6 = .ok (.getfield 40, 3) := dk_180 (by decide +kernel)
theorem dX9_advance_9 : decode cX9_advance 9 = .ok (.putfield 34, 3) := dk_181 (by decide +kernel)
theorem dX9_advance_12 : decode cX9_advance 12 = .ok (.aload_n 0, 1) := dk_42 (by decide +kernel)
theorem dX9_advance_13 : decode cX9_advance 13 = .ok (.getfield 40, 3) := dk_180 (by decide +kernel)
theorem dX9_advance_16 : decode cX9_advance 16 = .ok (.aload_n 0, 1) := dk_42 (by decide +kernel)
theorem dX9_advance_17 : decode cX9_advance 17 = .ok (.getfield 19, 3) := dk_180 (by decide +kernel)
theorem dX9_advance_20 : decode cX9_advance 20 = .ok (.if_icmp .ge 19, 3) := dk_162 (by decide +kernel)
theorem dX9_advance_23 : decode cX9_advance 23 = .ok (.aload_n 0, 1) := dk_42 (by decide +kernel)
theorem dX9_advance_24 : decode cX9_advance 24 = .ok (.getfield 9, 3) := dk_180 (by decide +kernel)
theorem dX9_advance_27 : decode cX9_advance 27 = .ok (.aload_n 0, 1) := dk_42 (by decide +kernel)
theorem dX9_advance_28 : decode cX9_advance 28 = .ok (.getfield 40, 3) := dk_180 (by decide +kernel)
theorem dX9_advance_31 : decode cX9_advance 31 = .ok (.baload, 1) := dk_51 (by decide +kernel)
theorem dX9_advance_32 : decode cX9_advance 32 = .ok (.sipush 255, 3) := dk_17 (by decide +kernel)
theorem dX9_advance_35 : decode cX9_advance 35 = .ok (.iand, 1) := dk_126 (by decide +kernel)
theorem dX9_advance_36 : decode cX9_advance 36 = .ok (.goto 4, 3) := dk_167 (by decide +kernel)
theorem dX9_advance_39 : decode cX9_advance 39 = .ok (.iconst (-1), 1) := dk_2 (by decide +kernel)
theorem dX9_advance_40 : decode cX9_advance 40 = .ok (.istore_n 1, 1) := dk_60 (by decide +kernel)
theorem dX9_advance_41 : decode cX9_advance 41 = .ok (.iload_n 1, 1) := dk_27 (by decide +kernel)
theorem dX9_advance_42 : decode cX9_advance 42 = .ok (.iconst (-1), 1) := dk_2 (by decide +kernel)
theorem dX9_advance_43 : decode cX9_advance 43 = .ok (.if_icmp .ne 11, 3) := dk_160 (by decide +kernel)
theorem dX9_advance_46 : decode cX9_advance 46 = .ok (.aload_n 0, 1) := dk_42 (by decide +kernel)
theorem dX9_advance_47 : decode cX9_advance 47 = .ok (.iconst 0, 1) := dk_3 (by decide +kernel)
theorem dX9_advance_48 : decode cX9_advance 48 = .ok (.putfield 37, 3) := dk_181 (by decide +kernel)
theorem dX9_advance_51 : decode cX9_advance 51 = .ok (.goto 106, 3) := dk_167 (by decide +kernel)
theorem dX9_advance_54 : decode cX9_advance 54 = .ok (.iload_n 1, 1) := dk_27 (by decide +kernel)
theorem dX9_advance_55 : decode cX9_advance 55 = .ok (.bipush 97, 2) := dk_16 (by decide +kernel)
theorem dX9_advance_57 : decode cX9_advance 57 = .ok (.if_icmp .lt 9, 3) := dk_161 (by decide +kernel)
theorem dX9_advance_60 : decode cX9_advance 60 = .ok (.iload_n 1, 1) := dk_27 (by decide +kernel)
theorem dX9_advance_61 : decode cX9_advance 61 = .ok (.bipush 122, 2) := dk_16 (by decide +kernel)
theorem dX9_advance_63 : decode cX9_advance 63 = .ok (.if_icmp .le 15, 3) := dk_164 (by decide +kernel)
theorem dX9_advance_66 : decode cX9_advance 66 = .ok (.iload_n 1, 1) := dk_27 (by decide +kernel)
theorem dX9_advance_67 : decode cX9_advance 67 = .ok (.bipush 65, 2) := dk_16 (by decide +kernel)
theorem dX9_advance_69 : decode cX9_advance 69 = .ok (.if_icmp .lt 64, 3) := dk_161 (by decide +kernel)
theorem dX9_advance_72 : decode cX9_advance 72 = .ok (.iload_n 1, 1) := dk_27 (by decide +kernel)
theorem dX9_advance_73 : decode cX9_advance 73 = .ok (.bipush 90, 2) := dk_16 (by decide +kernel)
theorem dX9_advance_75 : decode cX9_advance 75 = .ok (.if_icmp .gt 58, 3) := dk_163 (by decide +kernel)
theorem dX9_advance_78 : decode cX9_advance 78 = .ok (.aload_n 0, 1) := dk_42 (by decide +kernel)
theorem dX9_advance_79 : decode cX9_advance 79 = .ok (.invokevirtual 49, 3) := dk_182 (by decide +kernel)
theorem dX9_advance_82 : decode cX9_advance 82 = .ok (.aload_n 0, 1) := dk_42 (by decide +kernel)
theorem dX9_advance_83 : decode cX9_advance 83 = .ok (.aload_n 0, 1) := dk_42 (by decide +kernel)
theorem dX9_advance_84 : decode cX9_advance 84 = .ok (.aload_n 0, 1) := dk_42 (by decide +kernel)
theorem dX9_advance_85 : decode cX9_advance 85 = .ok (.getfield 40, 3) := dk_180 (by decide +kernel)
theorem dX9_advance_88 : decode cX9_advance 88 = .ok (.aload_n 0, 1) := dk_42 (by decide +kernel)
theorem dX9_advance_89 : decode cX9_advance 89 = .ok (.getfield 34, 3) := dk_180 (by decide +kernel)
theorem dX9_advance_92 : decode cX9_advance 92 = .ok (.isub, 1) := dk_100 (by decide +kernel)
theorem dX9_advance_93 : decode cX9_advance 93 = .ok (.invokevirtual 52, 3) := dk_182 (by decide +kernel)
theorem dX9_advance_96 : decode cX9_advance 96 = .ok (.putfield 37, 3) := dk_181 (by decide +kernel)
theorem dX9_advance_99 : decode cX9_advance 99 = .ok (.aload_n 0, 1) := dk_42 (by decide +kernel)
theorem dX9_advance_100 : decode cX9_advance 100 = .ok (.getfield 37, 3) := dk_180 (by decide +kernel)
theorem dX9_advance_103 : decode cX9_advance 103 = .ok (.iconst (-1), 1) := dk_2 (by decide +kernel)
theorem dX9_advance_104 : decode cX9_advance 104 = .ok (.if_icmp .ne 53, 3) := dk_160 (by decide +kernel)
theorem dX9_advance_107 : decode cX9_advance 107 = .ok (.aload_n 0, 1) := dk_42 (by decide +kernel)
theorem dX9_advance_108 : decode cX9_advance 108 = .ok (.aload_n 0, 1) := dk_42 (by decide +kernel)
theorem dX9_advance_109 : decode cX9_advance 109 = .ok (.getfield 40, 3) := dk_180 (by decide +kernel)
theorem dX9_advance_112 : decode cX9_advance 112 = .ok (.aload_n 0, 1) := dk_42 (by decide +kernel)
theorem dX9_advance_113 : decode cX9_advance 113 = .ok (.getfield 34, 3) := dk_180 (by decide +kernel)
theorem dX9_advance_116 : decode cX9_advance 116 = .ok (.isub, 1) := dk_100 (by decide +kernel)
theorem dX9_advance_117 : decode cX9_advance 117 = .ok (.bipush 8, 2) := dk_16 (by decide +kernel)
theorem dX9_advance_119 : decode cX9_advance 119 = .ok (.if_icmp .le 7, 3) := dk_164 (by decide +kernel)
theorem dX9_advance_122 : decode cX9_advance 122 = .ok (.iconst 3, 1) := dk_6 (by decide +kernel)
theorem dX9_advance_123 : decode cX9_advance 123 = .ok (.goto 4, 3) := dk_167 (by decide +kernel)
theorem dX9_advance_126 : decode cX9_advance 126 = .ok (.iconst 1, 1) := dk_4 (by decide +kernel)
theorem dX9_advance_127 : decode cX9_advance 127 = .ok (.putfield 37, 3) := dk_181 (by decide +kernel)
theorem dX9_advance_130 : decode cX9_advance 130 = .ok (.goto 27, 3) := dk_167 (by decide +kernel)
theorem dX9_advance_133 : decode cX9_advance 133 = .ok (.iload_n 1, 1) := dk_27 (by decide +kernel)
theorem dX9_advance_134 : decode cX9_advance 134 = .ok (.bipush 48, 2) := dk_16 (by decide +kernel)
theorem dX9_advance_136 : decode cX9_advance 136 = .ok (.if_icmp .lt 16, 3) := dk_161 (by decide +kernel)
theorem dX9_advance_139 : decode cX9_advance 139 = .ok (.iload_n 1, 1) := dk_27 (by decide +kernel)
theorem dX9_advance_140 : decode cX9_advance 140 = .ok (.bipush 57, 2) := dk_16 (by decide +kernel)
theorem dX9_advance_142 : decode cX9_advance 142 = .ok (.if_icmp .gt 10, 3) := dk_163 (by decide +kernel)
theorem dX9_advance_145 : decode cX9_advance 145 = .ok (.aload_n 0, 1) := dk_42 (by decide +kernel)
theorem dX9_advance_146 : decode cX9_advance 146 = .ok (.invokevirtual 56, 3) := dk_182 (by decide +kernel)
theorem dX9_advance_149 : decode cX9_advance 149 = .ok (.goto 8, 3) := dk_167 (by decide +kernel)
theorem dX9_advance_152 : decode cX9_advance 152 = .ok (.aload_n 0, 1) := dk_42 (by decide +kernel)
theorem dX9_advance_153 : decode cX9_advance 153 = .ok (.iload_n 1, 1) := dk_27 (by decide +kernel)
theorem dX9_advance_154 : decode cX9_advance 154 = .ok (.invokevirtual 59, 3) := dk_182 (by decide +kernel)
theorem dX9_advance_157 : decode cX9_advance 157 = .ok (.return_, 1) := dk_177 (by decide +kernel)
def wsMX9_advance : List Cond := .code yX9_advance cX9_advance 2 none :: ([.fieldLink RX9 40 "OptimaWorks$Words" "next" "I", .fieldLink RX9 34 "OptimaWorks$Words" "at" "I", .fieldLink RX9 19 "OptimaWorks$Words" "length" "I", .fieldLink RX9 9 "OptimaWorks$Words" "tape" "[B", .fieldLink RX9 37 "OptimaWorks$Words" "kind" "I"] ++ wsX90 ++ (wsV RX9 46 RX9 yX9_skipBlanks wsMX9_skipBlanks) ++ (wsV RX9 59 RX9 yX9_takeSign wsMX9_takeSign) ++ (wsV RX9 56 RX9 yX9_takeNumber wsMX9_takeNumber) ++ (wsV RX9 49 RX9 yX9_takeName wsMX9_takeName) ++ (wsV RX9 52 RX9 yX9_keywordOf wsMX9_keywordOf))
theorem iwsMX9_advance_in9 : ∀ w ∈ wsX90, w ∈ wsMX9_advance := fun _ h => List.mem_cons_of_mem _ (List.mem_append_left _ (List.mem_append_left _ (List.mem_append_left _ (List.mem_append_left _ (List.mem_append_left _ (List.mem_append_right _ h))))))
theorem gwsMX9_advance_0 : GoodIn wsMX9_advance (wsV RX9 46 RX9 yX9_skipBlanks wsMX9_skipBlanks) := goodIn_sub (fun _ h => List.mem_cons_of_mem _ (List.mem_append_left _ (List.mem_append_left _ (List.mem_append_left _ (List.mem_append_left _ (List.mem_append_right _ h)))))) (gdV (by decide +kernel) gdwsMX9_skipBlanks)
theorem gwsMX9_advance_1 : GoodIn wsMX9_advance (wsV RX9 59 RX9 yX9_takeSign wsMX9_takeSign) := goodIn_sub (fun _ h => List.mem_cons_of_mem _ (List.mem_append_left _ (List.mem_append_left _ (List.mem_append_left _ (List.mem_append_right _ h))))) (gdV (by decide +kernel) gdwsMX9_takeSign)
theorem gwsMX9_advance_2 : GoodIn wsMX9_advance (wsV RX9 56 RX9 yX9_takeNumber wsMX9_takeNumber) := goodIn_sub (fun _ h => List.mem_cons_of_mem _ (List.mem_append_left _ (List.mem_append_left _ (List.mem_append_right _ h)))) (gdV (by decide +kernel) gdwsMX9_takeNumber)
theorem gwsMX9_advance_3 : GoodIn wsMX9_advance (wsV RX9 49 RX9 yX9_takeName wsMX9_takeName) := goodIn_sub (fun _ h => List.mem_cons_of_mem _ (List.mem_append_left _ (List.mem_append_right _ h))) (gdV (by decide +kernel) gdwsMX9_takeName)
theorem gwsMX9_advance_4 : GoodIn wsMX9_advance (wsV RX9 52 RX9 yX9_keywordOf wsMX9_keywordOf) := goodIn_sub (fun _ h => List.mem_cons_of_mem _ (List.mem_append_right _ h)) (gdV (by decide +kernel) gdwsMX9_keywordOf)
theorem gdwsMX9_advance : wsMX9_advance.all goodWord = true := gdC rfl (gdA (gdA (gdA (gdA (gdA (gdA (by decide +kernel : ([.fieldLink RX9 40 "OptimaWorks$Words" "next" "I", .fieldLink RX9 34 "OptimaWorks$Words" "at" "I", .fieldLink RX9 19 "OptimaWorks$Words" "length" "I", .fieldLink RX9 9 "OptimaWorks$Words" "tape" "[B", .fieldLink RX9 37 "OptimaWorks$Words" "kind" "I"] : List Cond).all goodWord = true) gdwsX90) (gdV (by decide +kernel) gdwsMX9_skipBlanks)) (gdV (by decide +kernel) gdwsMX9_takeSign)) (gdV (by decide +kernel) gdwsMX9_takeNumber)) (gdV (by decide +kernel) gdwsMX9_takeName)) (gdV (by decide +kernel) gdwsMX9_keywordOf))
set_option maxHeartbeats 4000000 in
set_option maxRecDepth 100000 in
/-- the next word -/
theorem m_X9_advance (l : Launch) (hst : l.stackTraces = false) (dC : Nat → ClassId) (dI : Nat → Nat → Nat) (hT : Nat → Nat) (aT : Nat → Nat) (kT : Nat → ClassId) (fT_tape : Nat → Int32) (dT_tape : Nat) (nT_tape : Nat) (iT_length : Int32) (iT_fault : Int32) (iT_place : Int32) (iT_kind : Int32) (iT_at : Int32) (iT_number : Int32) (jT_name : Int64) (iT_next : Int32) (b_fT_tape : ∀ q : Nat, (-128) ≤ (fT_tape q).toInt ∧ (fT_tape q).toInt ≤ 127) (b_nT_tape : 64 ≤ nT_tape ∧ nT_tape ≤ 2560) (b_iT_length : 0 ≤ iT_length.toInt ∧ iT_length.toInt ≤ 1280) (b_iT_at : 0 ≤ iT_at.toInt ∧ iT_at.toInt ≤ 1282) (b_iT_number : 0 ≤ iT_number.toInt ∧ iT_number.toInt ≤ 999999) (b_iT_next : 0 ≤ iT_next.toInt ∧ iT_next.toInt ≤ 1282) (b_len : iT_length.toInt ≤ ((nT_tape : Nat) : Int)) (hnl : iT_next.toInt ≤ iT_length.toInt) (sz : Nat) : Met l yX9_advance wsMX9_advance ({ frames := 5, cells := 0, slots := 0, locals := 113 }) (va_Pc [.ref (hT 0)] (fun U => U.heap.size = sz ∧ va_P (dC, dI) vwCl (WT hT aT kT fT_tape dT_tape nT_tape iT_length iT_fault iT_place iT_kind iT_at iT_number jT_name iT_next) U.heap ∧ va_K (dC, dI) vwCl (tT kT) U ∧ va_D (fun _ => True) (WT hT aT kT fT_tape dT_tape nT_tape iT_length iT_fault iT_place iT_kind iT_at iT_number jT_name iT_next) ∧ CE (va_A (WT hT aT kT fT_tape dT_tape nT_tape iT_length iT_fault iT_place iT_kind iT_at iT_number jT_name iT_next) sz) U U.heap)) (va_Qv (fun (u : (Int32) × (Int32) × (Int32) × (Int64) × (Int32)) => (0 ≤ (u.2.1).toInt ∧ (u.2.1).toInt ≤ 1282) ∧ (0 ≤ (u.2.2.1).toInt ∧ (u.2.2.1).toInt ≤ 999999) ∧ (0 ≤ (u.2.2.2.2).toInt ∧ (u.2.2.2.2).toInt ≤ 1282) ∧ (iT_next.toInt ≤ (u.2.1).toInt) ∧ ((u.2.1).toInt ≤ (u.2.2.2.2).toInt) ∧ ((u.2.2.2.2).toInt ≤ iT_length.toInt) ∧ (((u.1).toInt = 44 ∨ (u.1).toInt = 61) → (u.2.1).toInt < (u.2.2.2.2).toInt)) (fun (u : (Int32) × (Int32) × (Int32) × (Int64) × (Int32)) t => va_P (dC, dI) vwCl (WT hT aT kT fT_tape dT_tape nT_tape iT_length iT_fault iT_place (u.1) (u.2.1) (u.2.2.1) (u.2.2.2.1) (u.2.2.2.2)) t.heap ∧ va_D (va_A (WT hT aT kT fT_tape dT_tape nT_tape iT_length iT_fault iT_place iT_kind iT_at iT_number jT_name iT_next) sz) (WT hT aT kT fT_tape dT_tape nT_tape iT_length iT_fault iT_place (u.1) (u.2.1) (u.2.2.1) (u.2.2.2.1) (u.2.2.2.2))) (va_A (WT hT aT kT fT_tape dT_tape nT_tape iT_length iT_fault iT_place iT_kind iT_at iT_number jT_name iT_next) sz)) 0 0 (va_A (WT hT aT kT fT_tape dT_tape nT_tape iT_length iT_fault iT_place iT_kind iT_at iT_number jT_name iT_next) sz) := by
  refine Met.ofW (cc := cX9_advance) (maxL := 2) (ret := none) (by decide) rfl ?_
  intro p e s m args below meth c s₁ B hml hv
  obtain ⟨rfl, hsz, hP, hK, hD0, hE⟩ := hv
  have hx := B.exec
  have hb := B.bytes
  have hr := B.returns
  have hts := atoms_spec (ws := wsMX9_advance) B.pre
  have hown : s.vm.findClass RX9 = some m.cls := findClass_of_methodNamed B.named
  have hlocks := B.notSynchronized
  subst hsz
  have hD := hD0.self (sz := s.heap.size)
  generalize hAe : va_A (WT hT aT kT fT_tape dT_tape nT_tape iT_length iT_fault iT_place iT_kind iT_at iT_number jT_name iT_next) s.heap.size = A at hD hE ⊢
  have hA : ∀ q : Nat, s.heap.size ≤ q → A q := fun q h => by rw [← hAe]; exact Or.inr h
  have hS : va_S A s.heap s.heap [] := va_S.rf
  have hl := lv_entry ([.ref (hT 0)]) (n := 2) (Nat.le_of_ble_eq_true rfl)
  rw [lg_entry_eq]
  generalize (lg_sl ([.ref (hT 0)]) ++ List.replicate (2 - (lg_sl ([.ref (hT 0)])).length) Slot.unset).toArray = ls at hl ⊢
  have hl : lv_has ls 2 [(0, .ref (hT 0))] := hl
  refine lv_aload_n hx hb dX9_advance_0 rfl (lv_at hl 0 rfl) ?_
  have hFc := allFree hD hS hA
  refine va_callv (va_runV (As := []) (rest := []) ⟨hx, hb, hml, hown, hts⟩ (m_X9_skipBlanks l dC dI hT aT kT fT_tape dT_tape nT_tape iT_length iT_fault iT_place iT_kind iT_at iT_number jT_name iT_next b_fT_tape (by first | exact b_nT_tape | with_reducible assumption | exact ⟨by omega, by omega⟩ | assumption) (b_iT_length) (b_iT_at) (b_iT_number) (b_iT_next) (by first | with_reducible assumption | omega | assumption) (by first | with_reducible assumption | omega | (rw [iI_t (by omega) (by omega)]; omega) | assumption) s.heap.size) (cwV 0 hts gwsMX9_advance_0 rfl rfl rfl hd_yX9_skipBlanks_RX9 (by decide +kernel)) (fz_pre (va_recv hK hP (ci := 9) (q0 := 0) rfl rfl) hP hK hD) rfl rfl hl.1 rfl (lv_room (Nat.le_of_ble_eq_true rfl)) dX9_advance_1 (by decide +kernel)) hS (fun q _ h => hFc q h) hFc (fun iT_next_1 t9_ H locs ht hvm hw9 hB9 hz1 hk1 hS => ?_)
  revert hw9
  refine fz_a3 ?_
  intro b_iT_next_1 f1_0 f1_1
  have hP : va_P (dC, dI) vwCl (WT hT aT kT fT_tape dT_tape nT_tape iT_length iT_fault iT_place iT_kind iT_at iT_number jT_name iT_next_1) H := fz_P ht hB9.1
  have hD : va_D A (WT hT aT kT fT_tape dT_tape nT_tape iT_length iT_fault iT_place iT_kind iT_at iT_number jT_name iT_next_1) := hB9.2.weaken (fun _ q _ h => hFc q.1 h)
  refine lv_aload_n hx hb dX9_advance_4 rfl (lv_at hl 0 rfl) ?_
  refine lv_aload_n hx hb dX9_advance_5 rfl (lv_at hl 0 rfl) ?_
  refine va_get (D := (dC, dI)) (ci := 9) (v := .int iT_next_1) (C := RX9) (T := TX9) (N := 9) hx hb hts iwsMX9_advance_in9 hown hK hP 0 rfl rfl 8 (by decide) (hts (.fieldLink RX9 40 "OptimaWorks$Words" "next" "I") (by decide +kernel)) (fun _ h9 => h9) rfl dX9_advance_6 ?_
  refine va_put (D := (dC, dI)) (ci := 9) (v := .int iT_next_1) (ty := .int) (C := RX9) (T := TX9) (N := 9) hx hb hts iwsMX9_advance_in9 tyX9 tyX9_ok nmX9 hown hK hP hD hS 0 rfl rfl 5 (by decide) (hts (.fieldLink RX9 34 "OptimaWorks$Words" "at" "I") (by decide +kernel)) (fun _ h9 => h9) rfl (by decide +kernel) rfl rfl (Nat.le_of_ble_eq_true rfl) dX9_advance_9 (fun H locs hP hD hS => ?_)
  have hP : va_P (dC, dI) vwCl (WT hT aT kT fT_tape dT_tape nT_tape iT_length iT_fault iT_place iT_kind iT_next_1 iT_number jT_name iT_next_1) H := hP
  have hD : va_D A (WT hT aT kT fT_tape dT_tape nT_tape iT_length iT_fault iT_place iT_kind iT_next_1 iT_number jT_name iT_next_1) := hD
  refine lv_aload_n hx hb dX9_advance_12 rfl (lv_at hl 0 rfl) ?_
  refine va_get (D := (dC, dI)) (ci := 9) (v := .int iT_next_1) (C := RX9) (T := TX9) (N := 9) hx hb hts iwsMX9_advance_in9 hown hK hP 0 rfl rfl 8 (by decide) (hts (.fieldLink RX9 40 "OptimaWorks$Words" "next" "I") (by decide +kernel)) (fun _ h9 => h9) rfl dX9_advance_13 ?_
  refine lv_aload_n hx hb dX9_advance_16 rfl (lv_at hl 0 rfl) ?_
  refine va_get (D := (dC, dI)) (ci := 9) (v := .int iT_length) (C := RX9) (T := TX9) (N := 9) hx hb hts iwsMX9_advance_in9 hown hK hP 0 rfl rfl 1 (by decide) (hts (.fieldLink RX9 19 "OptimaWorks$Words" "length" "I") (by decide +kernel)) (fun _ h9 => h9) rfl dX9_advance_17 ?_
  refine W.cut (pc := 40) (fun H locs ls stk => ∃ (k0_j9 : Int32), ((-1) ≤ k0_j9.toInt ∧ k0_j9.toInt ≤ 255) ∧ (k0_j9.toInt ≠ -1 → iT_next_1.toInt < iT_length.toInt) ∧  stk = [.int k0_j9] ∧ va_P (dC, dI) vwCl (WT hT aT kT fT_tape dT_tape nT_tape iT_length iT_fault iT_place iT_kind iT_next_1 iT_number jT_name iT_next_1) H ∧ va_D A (WT hT aT kT fT_tape dT_tape nT_tape iT_length iT_fault iT_place iT_kind iT_next_1 iT_number jT_name iT_next_1) ∧ va_S A s.heap H locs ∧ lv_has ls 2 [(0, .ref (hT 0))]) (fun join9 => ?_) ?_
  · refine lv_icmp_ge (tgt := 39) hx hb dX9_advance_20 (by decide) (fun c_20 => ?_) (fun c_20 => ?_)
    · have t_20 : iT_next_1.toInt ≥ iT_length.toInt := toI_ge c_20 rfl rfl
      refine lv_iconst (v := (-1)) hx hb dX9_advance_39 (by decide) ?_
      have hl : lv_has _ _ ([(0, .ref (hT 0))]) := lv_sub hl [0] rfl
      exact join9 _ _ _ _ ⟨(-1), (show (-1) ≤ ((-1) : Int32).toInt ∧ ((-1) : Int32).toInt ≤ 255 from by decide), (show ((-1) : Int32).toInt ≠ -1 → iT_next_1.toInt < iT_length.toInt from by first | (intro h9; exact absurd (by decide) h9) | (intro h9; omega)), rfl, hP, hD, hS, hl⟩
    · have t_20 : ¬ iT_next_1.toInt ≥ iT_length.toInt := toI_nge c_20 rfl rfl
      refine lv_aload_n hx hb dX9_advance_23 rfl (lv_at hl 0 rfl) ?_
      refine va_get (D := (dC, dI)) (ci := 9) (v := .ref dT_tape) (C := RX9) (T := TX9) (N := 9) hx hb hts iwsMX9_advance_in9 hown hK hP 0 rfl rfl 0 (by decide) (hts (.fieldLink RX9 9 "OptimaWorks$Words" "tape" "[B") (by decide +kernel)) (fun _ h9 => h9) rfl dX9_advance_24 ?_
      refine lv_aload_n hx hb dX9_advance_27 rfl (lv_at hl 0 rfl) ?_
      refine va_get (D := (dC, dI)) (ci := 9) (v := .int iT_next_1) (C := RX9) (T := TX9) (N := 9) hx hb hts iwsMX9_advance_in9 hown hK hP 0 rfl rfl 8 (by decide) (hts (.fieldLink RX9 40 "OptimaWorks$Words" "next" "I") (by decide +kernel)) (fun _ h9 => h9) rfl dX9_advance_28 ?_
      refine va_bald (cA := kT 0) (n := nT_tape) (f := fT_tape) hx hb hK hP 1 0 rfl rfl (vp_in_iff.mpr ⟨b_iT_next_1.1, (by omega)⟩) dX9_advance_31 ?_
      refine lv_topi (fun v4 hv4 => ?_)
      have b_v4 : (-128) ≤ v4.toInt ∧ v4.toInt ≤ 127 := by rw [hv4]; exact b_fT_tape _
      clear hv4
      refine lv_sipush (v := 255) hx hb dX9_advance_32 (by decide) ?_
      refine lv_iand hx hb dX9_advance_35 ?_
      refine lv_topi (fun v5 hv5 => ?_)
      have b_v5 : 0 ≤ v5.toInt ∧ v5.toInt ≤ 255 := by rw [hv5]; exact and_rng _ (by decide) (by decide)
      clear hv5
      refine lv_goto (tgt := 40) hx hb dX9_advance_36 (by decide) ?_
      have hl : lv_has _ _ ([(0, .ref (hT 0))]) := lv_sub hl [0] rfl
      exact join9 _ _ _ _ ⟨v5, (⟨Int.le_trans (by decide) b_v5.1, b_v5.2⟩), (show v5.toInt ≠ -1 → iT_next_1.toInt < iT_length.toInt from by first | (intro h9; exact absurd (by decide) h9) | (intro h9; omega)), rfl, hP, hD, hS, hl⟩
  · rintro H locs ls stk ⟨k0_j9, b_k0_j9, hjl, rfl, hP, hD, hS, hl⟩
    refine lv_istore_n hx hb dX9_advance_40 rfl hl (by decide) rfl (fun ls (hl : lv_has ls _ ([(1, .int k0_j9), (0, .ref (hT 0))])) => ?_)
    refine lv_iload_n hx hb dX9_advance_41 rfl (lv_at hl 0 rfl) ?_
    refine lv_iconst (v := (-1)) hx hb dX9_advance_42 (by decide) ?_
    refine W.cut (pc := 157) (fun H locs ls stk => ∃ (iT_kind_j13 : Int32) (iT_number_j13 : Int32) (jT_name_j13 : Int64) (iT_next_j13 : Int32), (0 ≤ iT_number_j13.toInt ∧ iT_number_j13.toInt ≤ 999999) ∧ (0 ≤ iT_next_j13.toInt ∧ iT_next_j13.toInt ≤ 1282) ∧ (iT_next_1.toInt ≤ iT_next_j13.toInt) ∧ (iT_next_j13.toInt ≤ iT_length.toInt) ∧ ((iT_kind_j13.toInt = 44 ∨ iT_kind_j13.toInt = 61) → iT_next_1.toInt < iT_next_j13.toInt) ∧  stk = [] ∧ va_P (dC, dI) vwCl (WT hT aT kT fT_tape dT_tape nT_tape iT_length iT_fault iT_place iT_kind_j13 iT_next_1 iT_number_j13 jT_name_j13 iT_next_j13) H ∧ va_D A (WT hT aT kT fT_tape dT_tape nT_tape iT_length iT_fault iT_place iT_kind_j13 iT_next_1 iT_number_j13 jT_name_j13 iT_next_j13) ∧ va_S A s.heap H locs ∧ lv_has ls 2 [(1, .int k0_j9), (0, .ref (hT 0))]) (fun join13 => ?_) ?_
    · refine lv_icmp_ne (tgt := 54) hx hb dX9_advance_43 (by decide) (fun c_43 => ?_) (fun c_43 => ?_)
      · have t_43 : k0_j9.toInt ≠ (-1) := toI_ne c_43 rfl (by decide : ((-1) : Int32).toInt = (-1))
        refine lv_iload_n hx hb dX9_advance_54 rfl (lv_at hl 0 rfl) ?_
        refine lv_bipush (v := 97) hx hb dX9_advance_55 (by decide) ?_
        refine lv_icmp_lt (tgt := 66) hx hb dX9_advance_57 (by decide) (fun c_57 => ?_) (fun c_57 => ?_)
        · have t_57 : k0_j9.toInt < 97 := toI_lt c_57 rfl (by decide : (97 : Int32).toInt = 97)
          refine lv_iload_n hx hb dX9_advance_66 rfl (lv_at hl 0 rfl) ?_
          refine lv_bipush (v := 65) hx hb dX9_advance_67 (by decide) ?_
          refine lv_icmp_lt (tgt := 133) hx hb dX9_advance_69 (by decide) (fun c_69 => ?_) (fun c_69 => ?_)
          · have t_69 : k0_j9.toInt < 65 := toI_lt c_69 rfl (by decide : (65 : Int32).toInt = 65)
            refine lv_iload_n hx hb dX9_advance_133 rfl (lv_at hl 0 rfl) ?_
            refine lv_bipush (v := 48) hx hb dX9_advance_134 (by decide) ?_
            refine lv_icmp_lt (tgt := 152) hx hb dX9_advance_136 (by decide) (fun c_136 => ?_) (fun c_136 => ?_)
            · have t_136 : k0_j9.toInt < 48 := toI_lt c_136 rfl (by decide : (48 : Int32).toInt = 48)
              refine lv_aload_n hx hb dX9_advance_152 rfl (lv_at hl 1 rfl) ?_
              refine lv_iload_n hx hb dX9_advance_153 rfl (lv_at hl 0 rfl) ?_
              have hFc := allFree hD hS hA
              refine va_callv (va_runV (As := [.int k0_j9]) (rest := []) ⟨hx, hb, hml, hown, hts⟩ (m_X9_takeSign l hst dC dI hT aT kT fT_tape dT_tape nT_tape iT_length iT_fault iT_place iT_kind iT_next_1 iT_number jT_name iT_next_1 k0_j9 b_fT_tape (by first | exact b_nT_tape | with_reducible assumption | exact ⟨by omega, by omega⟩ | assumption) (b_iT_length) (b_iT_next_1) (b_iT_number) (b_iT_next_1) (by first | with_reducible assumption | omega | assumption) (by first | with_reducible assumption | omega | (rw [iI_t (by omega) (by omega)]; omega) | decide | assumption) H.size) (cwV 1 hts gwsMX9_advance_1 rfl rfl rfl hd_yX9_takeSign_RX9 (by decide +kernel)) (fz_preE (va_recv hK hP (ci := 9) (q0 := 0) rfl rfl) hP hK hD (fun a U g mk qE => qE.call) (fun U hU9 hW => by rw [hU9]; exact (((hE : CE A s s.heap).kept hS.2.1).narrow (fun q h => hFc q h)).warm hW)) rfl rfl hl.1 rfl (lv_room (Nat.le_of_ble_eq_true rfl)) dX9_advance_154 (by decide +kernel)) hS (fun q _ h => hFc q h) hFc (fun u t9_ H locs ht hvm hw9 hB9 hz1 hk1 hS => ?_)
              revert u hw9 hB9
              refine fz_p2 ?_
              intro iT_kind_30 iT_next_30 hw9 hB9
              try dsimp only at hw9 hB9
              revert hw9
              refine fz_a3 ?_
              intro b_iT_next_30 f30_0 f30_1
              have hP : va_P (dC, dI) vwCl (WT hT aT kT fT_tape dT_tape nT_tape iT_length iT_fault iT_place iT_kind_30 iT_next_1 iT_number jT_name iT_next_30) H := fz_P ht hB9.1
              have hD : va_D A (WT hT aT kT fT_tape dT_tape nT_tape iT_length iT_fault iT_place iT_kind_30 iT_next_1 iT_number jT_name iT_next_30) := hB9.2.weaken (fun _ q _ h => hFc q.1 h)
              have hl : lv_has _ _ ([(1, .int k0_j9), (0, .ref (hT 0))]) := lv_sub hl [0, 1] rfl
              exact join13 _ _ _ _ ⟨iT_kind_30, iT_number, jT_name, iT_next_30, (b_iT_number), (b_iT_next_30), (show iT_next_1.toInt ≤ iT_next_30.toInt from by first | assumption | omega | (rw [iI_t (by omega) (by omega)]; omega)), (show iT_next_30.toInt ≤ iT_length.toInt from by first | assumption | omega | (rw [iI_t (by omega) (by omega)]; omega)), (show (iT_kind_30.toInt = 44 ∨ iT_kind_30.toInt = 61) → iT_next_1.toInt < iT_next_30.toInt from by first | (intro h9; omega) | (intro h9; rcases h9 with h9 | h9 <;> exact absurd h9 (by decide))), rfl, hP, hD, hS, hl⟩
            · have t_136 : ¬ k0_j9.toInt < 48 := toI_nlt c_136 rfl (by decide : (48 : Int32).toInt = 48)
              refine lv_iload_n hx hb dX9_advance_139 rfl (lv_at hl 0 rfl) ?_
              refine lv_bipush (v := 57) hx hb dX9_advance_140 (by decide) ?_
              refine lv_icmp_gt (tgt := 152) hx hb dX9_advance_142 (by decide) (fun c_142 => ?_) (fun c_142 => ?_)
              · have t_142 : k0_j9.toInt > 57 := toI_gt c_142 rfl (by decide : (57 : Int32).toInt = 57)
                refine lv_aload_n hx hb dX9_advance_152 rfl (lv_at hl 1 rfl) ?_
                refine lv_iload_n hx hb dX9_advance_153 rfl (lv_at hl 0 rfl) ?_
                have hFc := allFree hD hS hA
                refine va_callv (va_runV (As := [.int k0_j9]) (rest := []) ⟨hx, hb, hml, hown, hts⟩ (m_X9_takeSign l hst dC dI hT aT kT fT_tape dT_tape nT_tape iT_length iT_fault iT_place iT_kind iT_next_1 iT_number jT_name iT_next_1 k0_j9 b_fT_tape (by first | exact b_nT_tape | with_reducible assumption | exact ⟨by omega, by omega⟩ | assumption) (b_iT_length) (b_iT_next_1) (b_iT_number) (b_iT_next_1) (by first | with_reducible assumption | omega | assumption) (by first | with_reducible assumption | omega | (rw [iI_t (by omega) (by omega)]; omega) | decide | assumption) H.size) (cwV 1 hts gwsMX9_advance_1 rfl rfl rfl hd_yX9_takeSign_RX9 (by decide +kernel)) (fz_preE (va_recv hK hP (ci := 9) (q0 := 0) rfl rfl) hP hK hD (fun a U g mk qE => qE.call) (fun U hU9 hW => by rw [hU9]; exact (((hE : CE A s s.heap).kept hS.2.1).narrow (fun q h => hFc q h)).warm hW)) rfl rfl hl.1 rfl (lv_room (Nat.le_of_ble_eq_true rfl)) dX9_advance_154 (by decide +kernel)) hS (fun q _ h => hFc q h) hFc (fun u t9_ H locs ht hvm hw9 hB9 hz1 hk1 hS => ?_)
                revert u hw9 hB9
                refine fz_p2 ?_
                intro iT_kind_31 iT_next_31 hw9 hB9
                try dsimp only at hw9 hB9
                revert hw9
                refine fz_a3 ?_
                intro b_iT_next_31 f31_0 f31_1
                have hP : va_P (dC, dI) vwCl (WT hT aT kT fT_tape dT_tape nT_tape iT_length iT_fault iT_place iT_kind_31 iT_next_1 iT_number jT_name iT_next_31) H := fz_P ht hB9.1
                have hD : va_D A (WT hT aT kT fT_tape dT_tape nT_tape iT_length iT_fault iT_place iT_kind_31 iT_next_1 iT_number jT_name iT_next_31) := hB9.2.weaken (fun _ q _ h => hFc q.1 h)
                have hl : lv_has _ _ ([(1, .int k0_j9), (0, .ref (hT 0))]) := lv_sub hl [0, 1] rfl
                exact join13 _ _ _ _ ⟨iT_kind_31, iT_number, jT_name, iT_next_31, (b_iT_number), (b_iT_next_31), (show iT_next_1.toInt ≤ iT_next_31.toInt from by first | assumption | omega | (rw [iI_t (by omega) (by omega)]; omega)), (show iT_next_31.toInt ≤ iT_length.toInt from by first | assumption | omega | (rw [iI_t (by omega) (by omega)]; omega)), (show (iT_kind_31.toInt = 44 ∨ iT_kind_31.toInt = 61) → iT_next_1.toInt < iT_next_31.toInt from by first | (intro h9; omega) | (intro h9; rcases h9 with h9 | h9 <;> exact absurd h9 (by decide))), rfl, hP, hD, hS, hl⟩
              · have t_142 : ¬ k0_j9.toInt > 57 := toI_ngt c_142 rfl (by decide : (57 : Int32).toInt = 57)
                refine lv_aload_n hx hb dX9_advance_145 rfl (lv_at hl 1 rfl) ?_
                have hFc := allFree hD hS hA
                refine va_callv (va_runV (As := []) (rest := []) ⟨hx, hb, hml, hown, hts⟩ (m_X9_takeNumber l dC dI hT aT kT fT_tape dT_tape nT_tape iT_length iT_fault iT_place iT_kind iT_next_1 iT_number jT_name iT_next_1 b_fT_tape (by first | exact b_nT_tape | with_reducible assumption | exact ⟨by omega, by omega⟩ | assumption) (b_iT_length) (b_iT_next_1) (b_iT_number) (b_iT_next_1) (by first | with_reducible assumption | omega | assumption) (by first | with_reducible assumption | omega | (rw [iI_t (by omega) (by omega)]; omega) | assumption) (by first | with_reducible assumption | omega | (rw [iI_t (by omega) (by omega)]; omega) | decide | assumption) H.size) (cwV 0 hts gwsMX9_advance_2 rfl rfl rfl hd_yX9_takeNumber_RX9 (by decide +kernel)) (fz_pre (va_recv hK hP (ci := 9) (q0 := 0) rfl rfl) hP hK hD) rfl rfl hl.1 rfl (lv_room (Nat.le_of_ble_eq_true rfl)) dX9_advance_146 (by decide +kernel)) hS (fun q _ h => hFc q h) hFc (fun u t9_ H locs ht hvm hw9 hB9 hz1 hk1 hS => ?_)
                revert u hw9 hB9
                refine fz_p3 ?_
                intro iT_kind_32 iT_number_32 iT_next_32 hw9 hB9
                try dsimp only at hw9 hB9
                revert hw9
                refine fz_a5 ?_
                intro b_iT_number_32 b_iT_next_32 f32_0 f32_1 f32_2
                have hP : va_P (dC, dI) vwCl (WT hT aT kT fT_tape dT_tape nT_tape iT_length iT_fault iT_place iT_kind_32 iT_next_1 iT_number_32 jT_name iT_next_32) H := fz_P ht hB9.1
                have hD : va_D A (WT hT aT kT fT_tape dT_tape nT_tape iT_length iT_fault iT_place iT_kind_32 iT_next_1 iT_number_32 jT_name iT_next_32) := hB9.2.weaken (fun _ q _ h => hFc q.1 h)
                refine lv_goto (tgt := 157) hx hb dX9_advance_149 (by decide) ?_
                have hl : lv_has _ _ ([(1, .int k0_j9), (0, .ref (hT 0))]) := lv_sub hl [0, 1] rfl
                exact join13 _ _ _ _ ⟨iT_kind_32, iT_number_32, jT_name, iT_next_32, (b_iT_number_32), (b_iT_next_32), (show iT_next_1.toInt ≤ iT_next_32.toInt from by first | assumption | omega | (rw [iI_t (by omega) (by omega)]; omega)), (show iT_next_32.toInt ≤ iT_length.toInt from by first | assumption | omega | (rw [iI_t (by omega) (by omega)]; omega)), (show (iT_kind_32.toInt = 44 ∨ iT_kind_32.toInt = 61) → iT_next_1.toInt < iT_next_32.toInt from by first | (intro h9; omega) | (intro h9; rcases h9 with h9 | h9 <;> exact absurd h9 (by decide))), rfl, hP, hD, hS, hl⟩
          · have t_69 : ¬ k0_j9.toInt < 65 := toI_nlt c_69 rfl (by decide : (65 : Int32).toInt = 65)
            refine lv_iload_n hx hb dX9_advance_72 rfl (lv_at hl 0 rfl) ?_
            refine lv_bipush (v := 90) hx hb dX9_advance_73 (by decide) ?_
            refine lv_icmp_gt (tgt := 133) hx hb dX9_advance_75 (by decide) (fun c_75 => ?_) (fun c_75 => ?_)
            · have t_75 : k0_j9.toInt > 90 := toI_gt c_75 rfl (by decide : (90 : Int32).toInt = 90)
              refine lv_iload_n hx hb dX9_advance_133 rfl (lv_at hl 0 rfl) ?_
              refine lv_bipush (v := 48) hx hb dX9_advance_134 (by decide) ?_
              refine lv_icmp_lt (tgt := 152) hx hb dX9_advance_136 (by decide) (fun c_136 => ?_) (fun c_136 => ?_)
              · have t_136 : k0_j9.toInt < 48 := toI_lt c_136 rfl (by decide : (48 : Int32).toInt = 48)
                refine lv_aload_n hx hb dX9_advance_152 rfl (lv_at hl 1 rfl) ?_
                refine lv_iload_n hx hb dX9_advance_153 rfl (lv_at hl 0 rfl) ?_
                have hFc := allFree hD hS hA
                refine va_callv (va_runV (As := [.int k0_j9]) (rest := []) ⟨hx, hb, hml, hown, hts⟩ (m_X9_takeSign l hst dC dI hT aT kT fT_tape dT_tape nT_tape iT_length iT_fault iT_place iT_kind iT_next_1 iT_number jT_name iT_next_1 k0_j9 b_fT_tape (by first | exact b_nT_tape | with_reducible assumption | exact ⟨by omega, by omega⟩ | assumption) (b_iT_length) (b_iT_next_1) (b_iT_number) (b_iT_next_1) (by first | with_reducible assumption | omega | assumption) (by first | with_reducible assumption | omega | (rw [iI_t (by omega) (by omega)]; omega) | decide | assumption) H.size) (cwV 1 hts gwsMX9_advance_1 rfl rfl rfl hd_yX9_takeSign_RX9 (by decide +kernel)) (fz_preE (va_recv hK hP (ci := 9) (q0 := 0) rfl rfl) hP hK hD (fun a U g mk qE => qE.call) (fun U hU9 hW => by rw [hU9]; exact (((hE : CE A s s.heap).kept hS.2.1).narrow (fun q h => hFc q h)).warm hW)) rfl rfl hl.1 rfl (lv_room (Nat.le_of_ble_eq_true rfl)) dX9_advance_154 (by decide +kernel)) hS (fun q _ h => hFc q h) hFc (fun u t9_ H locs ht hvm hw9 hB9 hz1 hk1 hS => ?_)
                revert u hw9 hB9
                refine fz_p2 ?_
                intro iT_kind_33 iT_next_33 hw9 hB9
                try dsimp only at hw9 hB9
                revert hw9
                refine fz_a3 ?_
                intro b_iT_next_33 f33_0 f33_1
                have hP : va_P (dC, dI) vwCl (WT hT aT kT fT_tape dT_tape nT_tape iT_length iT_fault iT_place iT_kind_33 iT_next_1 iT_number jT_name iT_next_33) H := fz_P ht hB9.1
                have hD : va_D A (WT hT aT kT fT_tape dT_tape nT_tape iT_length iT_fault iT_place iT_kind_33 iT_next_1 iT_number jT_name iT_next_33) := hB9.2.weaken (fun _ q _ h => hFc q.1 h)
                have hl : lv_has _ _ ([(1, .int k0_j9), (0, .ref (hT 0))]) := lv_sub hl [0, 1] rfl
                exact join13 _ _ _ _ ⟨iT_kind_33, iT_number, jT_name, iT_next_33, (b_iT_number), (b_iT_next_33), (show iT_next_1.toInt ≤ iT_next_33.toInt from by first | assumption | omega | (rw [iI_t (by omega) (by omega)]; omega)), (show iT_next_33.toInt ≤ iT_length.toInt from by first | assumption | omega | (rw [iI_t (by omega) (by omega)]; omega)), (show (iT_kind_33.toInt = 44 ∨ iT_kind_33.toInt = 61) → iT_next_1.toInt < iT_next_33.toInt from by first | (intro h9; omega) | (intro h9; rcases h9 with h9 | h9 <;> exact absurd h9 (by decide))), rfl, hP, hD, hS, hl⟩
              · have t_136 : ¬ k0_j9.toInt < 48 := toI_nlt c_136 rfl (by decide : (48 : Int32).toInt = 48)
                refine lv_iload_n hx hb dX9_advance_139 rfl (lv_at hl 0 rfl) ?_
                refine lv_bipush (v := 57) hx hb dX9_advance_140 (by decide) ?_
                refine lv_icmp_gt (tgt := 152) hx hb dX9_advance_142 (by decide) (fun c_142 => ?_) (fun c_142 => ?_)
                · have t_142 : k0_j9.toInt > 57 := toI_gt c_142 rfl (by decide : (57 : Int32).toInt = 57)
                  refine lv_aload_n hx hb dX9_advance_152 rfl (lv_at hl 1 rfl) ?_
                  refine lv_iload_n hx hb dX9_advance_153 rfl (lv_at hl 0 rfl) ?_
                  have hFc := allFree hD hS hA
                  refine va_callv (va_runV (As := [.int k0_j9]) (rest := []) ⟨hx, hb, hml, hown, hts⟩ (m_X9_takeSign l hst dC dI hT aT kT fT_tape dT_tape nT_tape iT_length iT_fault iT_place iT_kind iT_next_1 iT_number jT_name iT_next_1 k0_j9 b_fT_tape (by first | exact b_nT_tape | with_reducible assumption | exact ⟨by omega, by omega⟩ | assumption) (b_iT_length) (b_iT_next_1) (b_iT_number) (b_iT_next_1) (by first | with_reducible assumption | omega | assumption) (by first | with_reducible assumption | omega | (rw [iI_t (by omega) (by omega)]; omega) | decide | assumption) H.size) (cwV 1 hts gwsMX9_advance_1 rfl rfl rfl hd_yX9_takeSign_RX9 (by decide +kernel)) (fz_preE (va_recv hK hP (ci := 9) (q0 := 0) rfl rfl) hP hK hD (fun a U g mk qE => qE.call) (fun U hU9 hW => by rw [hU9]; exact (((hE : CE A s s.heap).kept hS.2.1).narrow (fun q h => hFc q h)).warm hW)) rfl rfl hl.1 rfl (lv_room (Nat.le_of_ble_eq_true rfl)) dX9_advance_154 (by decide +kernel)) hS (fun q _ h => hFc q h) hFc (fun u t9_ H locs ht hvm hw9 hB9 hz1 hk1 hS => ?_)
                  revert u hw9 hB9
                  refine fz_p2 ?_
                  intro iT_kind_34 iT_next_34 hw9 hB9
                  try dsimp only at hw9 hB9
                  revert hw9
                  refine fz_a3 ?_
                  intro b_iT_next_34 f34_0 f34_1
                  have hP : va_P (dC, dI) vwCl (WT hT aT kT fT_tape dT_tape nT_tape iT_length iT_fault iT_place iT_kind_34 iT_next_1 iT_number jT_name iT_next_34) H := fz_P ht hB9.1
                  have hD : va_D A (WT hT aT kT fT_tape dT_tape nT_tape iT_length iT_fault iT_place iT_kind_34 iT_next_1 iT_number jT_name iT_next_34) := hB9.2.weaken (fun _ q _ h => hFc q.1 h)
                  have hl : lv_has _ _ ([(1, .int k0_j9), (0, .ref (hT 0))]) := lv_sub hl [0, 1] rfl
                  exact join13 _ _ _ _ ⟨iT_kind_34, iT_number, jT_name, iT_next_34, (b_iT_number), (b_iT_next_34), (show iT_next_1.toInt ≤ iT_next_34.toInt from by first | assumption | omega | (rw [iI_t (by omega) (by omega)]; omega)), (show iT_next_34.toInt ≤ iT_length.toInt from by first | assumption | omega | (rw [iI_t (by omega) (by omega)]; omega)), (show (iT_kind_34.toInt = 44 ∨ iT_kind_34.toInt = 61) → iT_next_1.toInt < iT_next_34.toInt from by first | (intro h9; omega) | (intro h9; rcases h9 with h9 | h9 <;> exact absurd h9 (by decide))), rfl, hP, hD, hS, hl⟩
                · have t_142 : ¬ k0_j9.toInt > 57 := toI_ngt c_142 rfl (by decide : (57 : Int32).toInt = 57)
                  refine lv_aload_n hx hb dX9_advance_145 rfl (lv_at hl 1 rfl) ?_
                  have hFc := allFree hD hS hA
                  refine va_callv (va_runV (As := []) (rest := []) ⟨hx, hb, hml, hown, hts⟩ (m_X9_takeNumber l dC dI hT aT kT fT_tape dT_tape nT_tape iT_length iT_fault iT_place iT_kind iT_next_1 iT_number jT_name iT_next_1 b_fT_tape (by first | exact b_nT_tape | with_reducible assumption | exact ⟨by omega, by omega⟩ | assumption) (b_iT_length) (b_iT_next_1) (b_iT_number) (b_iT_next_1) (by first | with_reducible assumption | omega | assumption) (by first | with_reducible assumption | omega | (rw [iI_t (by omega) (by omega)]; omega) | assumption) (by first | with_reducible assumption | omega | (rw [iI_t (by omega) (by omega)]; omega) | decide | assumption) H.size) (cwV 0 hts gwsMX9_advance_2 rfl rfl rfl hd_yX9_takeNumber_RX9 (by decide +kernel)) (fz_pre (va_recv hK hP (ci := 9) (q0 := 0) rfl rfl) hP hK hD) rfl rfl hl.1 rfl (lv_room (Nat.le_of_ble_eq_true rfl)) dX9_advance_146 (by decide +kernel)) hS (fun q _ h => hFc q h) hFc (fun u t9_ H locs ht hvm hw9 hB9 hz1 hk1 hS => ?_)
                  revert u hw9 hB9
                  refine fz_p3 ?_
                  intro iT_kind_35 iT_number_35 iT_next_35 hw9 hB9
                  try dsimp only at hw9 hB9
                  revert hw9
                  refine fz_a5 ?_
                  intro b_iT_number_35 b_iT_next_35 f35_0 f35_1 f35_2
                  have hP : va_P (dC, dI) vwCl (WT hT aT kT fT_tape dT_tape nT_tape iT_length iT_fault iT_place iT_kind_35 iT_next_1 iT_number_35 jT_name iT_next_35) H := fz_P ht hB9.1
                  have hD : va_D A (WT hT aT kT fT_tape dT_tape nT_tape iT_length iT_fault iT_place iT_kind_35 iT_next_1 iT_number_35 jT_name iT_next_35) := hB9.2.weaken (fun _ q _ h => hFc q.1 h)
                  refine lv_goto (tgt := 157) hx hb dX9_advance_149 (by decide) ?_
                  have hl : lv_has _ _ ([(1, .int k0_j9), (0, .ref (hT 0))]) := lv_sub hl [0, 1] rfl
                  exact join13 _ _ _ _ ⟨iT_kind_35, iT_number_35, jT_name, iT_next_35, (b_iT_number_35), (b_iT_next_35), (show iT_next_1.toInt ≤ iT_next_35.toInt from by first | assumption | omega | (rw [iI_t (by omega) (by omega)]; omega)), (show iT_next_35.toInt ≤ iT_length.toInt from by first | assumption | omega | (rw [iI_t (by omega) (by omega)]; omega)), (show (iT_kind_35.toInt = 44 ∨ iT_kind_35.toInt = 61) → iT_next_1.toInt < iT_next_35.toInt from by first | (intro h9; omega) | (intro h9; rcases h9 with h9 | h9 <;> exact absurd h9 (by decide))), rfl, hP, hD, hS, hl⟩
            · have t_75 : ¬ k0_j9.toInt > 90 := toI_ngt c_75 rfl (by decide : (90 : Int32).toInt = 90)
              refine lv_aload_n hx hb dX9_advance_78 rfl (lv_at hl 1 rfl) ?_
              have hFc := allFree hD hS hA
              refine va_callv (va_runV (As := []) (rest := []) ⟨hx, hb, hml, hown, hts⟩ (m_X9_takeName l dC dI hT aT kT fT_tape dT_tape nT_tape iT_length iT_fault iT_place iT_kind iT_next_1 iT_number jT_name iT_next_1 b_fT_tape (by first | exact b_nT_tape | with_reducible assumption | exact ⟨by omega, by omega⟩ | assumption) (b_iT_length) (b_iT_next_1) (b_iT_number) (b_iT_next_1) (by first | with_reducible assumption | omega | assumption) (by first | with_reducible assumption | omega | (rw [iI_t (by omega) (by omega)]; omega) | assumption) H.size) (cwV 0 hts gwsMX9_advance_3 rfl rfl rfl hd_yX9_takeName_RX9 (by decide +kernel)) (fz_pre (va_recv hK hP (ci := 9) (q0 := 0) rfl rfl) hP hK hD) rfl rfl hl.1 rfl (lv_room (Nat.le_of_ble_eq_true rfl)) dX9_advance_79 (by decide +kernel)) hS (fun q _ h => hFc q h) hFc (fun u t9_ H locs ht hvm hw9 hB9 hz1 hk1 hS => ?_)
              revert u hw9 hB9
              refine fz_p2 ?_
              intro jT_name_36 iT_next_36 hw9 hB9
              try dsimp only at hw9 hB9
              revert hw9
              refine fz_a3 ?_
              intro b_iT_next_36 f36_0 f36_1
              have hP : va_P (dC, dI) vwCl (WT hT aT kT fT_tape dT_tape nT_tape iT_length iT_fault iT_place iT_kind iT_next_1 iT_number jT_name_36 iT_next_36) H := fz_P ht hB9.1
              have hD : va_D A (WT hT aT kT fT_tape dT_tape nT_tape iT_length iT_fault iT_place iT_kind iT_next_1 iT_number jT_name_36 iT_next_36) := hB9.2.weaken (fun _ q _ h => hFc q.1 h)
              refine lv_aload_n hx hb dX9_advance_82 rfl (lv_at hl 1 rfl) ?_
              refine lv_aload_n hx hb dX9_advance_83 rfl (lv_at hl 1 rfl) ?_
              refine lv_aload_n hx hb dX9_advance_84 rfl (lv_at hl 1 rfl) ?_
              refine va_get (D := (dC, dI)) (ci := 9) (v := .int iT_next_36) (C := RX9) (T := TX9) (N := 9) hx hb hts iwsMX9_advance_in9 hown hK hP 0 rfl rfl 8 (by decide) (hts (.fieldLink RX9 40 "OptimaWorks$Words" "next" "I") (by decide +kernel)) (fun _ h9 => h9) rfl dX9_advance_85 ?_
              refine lv_aload_n hx hb dX9_advance_88 rfl (lv_at hl 1 rfl) ?_
              refine va_get (D := (dC, dI)) (ci := 9) (v := .int iT_next_1) (C := RX9) (T := TX9) (N := 9) hx hb hts iwsMX9_advance_in9 hown hK hP 0 rfl rfl 5 (by decide) (hts (.fieldLink RX9 34 "OptimaWorks$Words" "at" "I") (by decide +kernel)) (fun _ h9 => h9) rfl dX9_advance_89 ?_
              refine lv_isub hx hb dX9_advance_92 ?_
              refine lv_topi (fun y37 hy37 => ?_)
              obtain rfl : (iI (iT_next_36.toInt - iT_next_1.toInt)) = y37 := (hy37.trans (iI_sub2 (iI_of _) (iI_of _))).symm
              have hFc := allFree hD hS hA
              refine va_calli (va_runV (As := [.int (iI (iT_next_36.toInt - iT_next_1.toInt))]) (rest := [.ref (hT 0)]) ⟨hx, hb, hml, hown, hts⟩ (m_X9_keywordOf l hst dC dI hT aT kT fT_tape dT_tape nT_tape iT_length iT_fault iT_place iT_kind iT_next_1 iT_number jT_name_36 iT_next_36 (iI (iT_next_36.toInt - iT_next_1.toInt)) b_fT_tape (by first | exact b_nT_tape | with_reducible assumption | exact ⟨by omega, by omega⟩ | assumption) (b_iT_length) (b_iT_next_1) (b_iT_number) (b_iT_next_36) (by first | with_reducible assumption | omega | assumption) (iI_rng (by omega) (Int.le_trans (Int.sub_le_sub (b_iT_next_36.2) (b_iT_next_1.1)) (by decide)) (by decide) (by decide)) (by rw [iI_t (by omega) (by omega)]; omega) H.size) (cwV 1 hts gwsMX9_advance_4 rfl rfl rfl hd_yX9_keywordOf_RX9 (by decide +kernel)) (fz_preE (va_recv hK hP (ci := 9) (q0 := 0) rfl rfl) hP hK hD (fun a U g mk qE => qE.call) (fun U hU9 hW => by rw [hU9]; exact (((hE : CE A s s.heap).kept hS.2.1).narrow (fun q h => hFc q h)).warm hW)) rfl rfl hl.1 rfl (lv_room (Nat.le_of_ble_eq_true rfl)) dX9_advance_93 (by decide +kernel)) hS (fun q _ h => hFc q h) hFc (fun r38 u t9_ H locs ht hvm hw9 hB9 hz1 hk1 hS => ?_)
              revert hw9
              refine fz_a2 ?_
              intro b_r38 f38_0
              have hP : va_P (dC, dI) vwCl (WT hT aT kT fT_tape dT_tape nT_tape iT_length iT_fault iT_place iT_kind iT_next_1 iT_number jT_name_36 iT_next_36) H := fz_P ht hB9.1
              have hD : va_D A (WT hT aT kT fT_tape dT_tape nT_tape iT_length iT_fault iT_place iT_kind iT_next_1 iT_number jT_name_36 iT_next_36) := hB9.2.weaken (fun _ q _ h => hFc q.1 h)
              refine va_put (D := (dC, dI)) (ci := 9) (v := .int r38) (ty := .int) (C := RX9) (T := TX9) (N := 9) hx hb hts iwsMX9_advance_in9 tyX9 tyX9_ok nmX9 hown hK hP hD hS 0 rfl rfl 4 (by decide) (hts (.fieldLink RX9 37 "OptimaWorks$Words" "kind" "I") (by decide +kernel)) (fun _ h9 => h9) rfl (by decide +kernel) rfl rfl (Nat.le_of_ble_eq_true rfl) dX9_advance_96 (fun H locs hP hD hS => ?_)
              have hP : va_P (dC, dI) vwCl (WT hT aT kT fT_tape dT_tape nT_tape iT_length iT_fault iT_place r38 iT_next_1 iT_number jT_name_36 iT_next_36) H := hP
              have hD : va_D A (WT hT aT kT fT_tape dT_tape nT_tape iT_length iT_fault iT_place r38 iT_next_1 iT_number jT_name_36 iT_next_36) := hD
              refine lv_aload_n hx hb dX9_advance_99 rfl (lv_at hl 1 rfl) ?_
              refine va_get (D := (dC, dI)) (ci := 9) (v := .int r38) (C := RX9) (T := TX9) (N := 9) hx hb hts iwsMX9_advance_in9 hown hK hP 0 rfl rfl 4 (by decide) (hts (.fieldLink RX9 37 "OptimaWorks$Words" "kind" "I") (by decide +kernel)) (fun _ h9 => h9) rfl dX9_advance_100 ?_
              refine lv_iconst (v := (-1)) hx hb dX9_advance_103 (by decide) ?_
              refine lv_icmp_ne (tgt := 157) hx hb dX9_advance_104 (by decide) (fun c_104 => ?_) (fun c_104 => ?_)
              · have t_104 : r38.toInt ≠ (-1) := toI_ne c_104 rfl (by decide : ((-1) : Int32).toInt = (-1))
                have hl : lv_has _ _ ([(1, .int k0_j9), (0, .ref (hT 0))]) := lv_sub hl [0, 1] rfl
                exact join13 _ _ _ _ ⟨r38, iT_number, jT_name_36, iT_next_36, (b_iT_number), (b_iT_next_36), (show iT_next_1.toInt ≤ iT_next_36.toInt from by first | assumption | omega | (rw [iI_t (by omega) (by omega)]; omega)), (show iT_next_36.toInt ≤ iT_length.toInt from by first | assumption | omega | (rw [iI_t (by omega) (by omega)]; omega)), (show (r38.toInt = 44 ∨ r38.toInt = 61) → iT_next_1.toInt < iT_next_36.toInt from by first | (intro h9; omega) | (intro h9; rcases h9 with h9 | h9 <;> exact absurd h9 (by decide))), rfl, hP, hD, hS, hl⟩
              · have t_104 : r38.toInt = (-1) := toI_nne c_104 rfl (by decide : ((-1) : Int32).toInt = (-1))
                refine lv_aload_n hx hb dX9_advance_107 rfl (lv_at hl 1 rfl) ?_
                refine lv_aload_n hx hb dX9_advance_108 rfl (lv_at hl 1 rfl) ?_
                refine va_get (D := (dC, dI)) (ci := 9) (v := .int iT_next_36) (C := RX9) (T := TX9) (N := 9) hx hb hts iwsMX9_advance_in9 hown hK hP 0 rfl rfl 8 (by decide) (hts (.fieldLink RX9 40 "OptimaWorks$Words" "next" "I") (by decide +kernel)) (fun _ h9 => h9) rfl dX9_advance_109 ?_
                refine lv_aload_n hx hb dX9_advance_112 rfl (lv_at hl 1 rfl) ?_
                refine va_get (D := (dC, dI)) (ci := 9) (v := .int iT_next_1) (C := RX9) (T := TX9) (N := 9) hx hb hts iwsMX9_advance_in9 hown hK hP 0 rfl rfl 5 (by decide) (hts (.fieldLink RX9 34 "OptimaWorks$Words" "at" "I") (by decide +kernel)) (fun _ h9 => h9) rfl dX9_advance_113 ?_
                refine lv_isub hx hb dX9_advance_116 ?_
                refine lv_topi (fun y39 hy39 => ?_)
                obtain rfl : (iI (iT_next_36.toInt - iT_next_1.toInt)) = y39 := (hy39.trans (iI_sub2 (iI_of _) (iI_of _))).symm
                refine lv_bipush (v := 8) hx hb dX9_advance_117 (by decide) ?_
                refine W.cut (pc := 127) (fun H locs ls stk => ∃ (k0_j14 : Int32), (1 ≤ k0_j14.toInt ∧ k0_j14.toInt ≤ 3) ∧  stk = [.int k0_j14, .ref (hT 0)] ∧ va_P (dC, dI) vwCl (WT hT aT kT fT_tape dT_tape nT_tape iT_length iT_fault iT_place r38 iT_next_1 iT_number jT_name_36 iT_next_36) H ∧ va_D A (WT hT aT kT fT_tape dT_tape nT_tape iT_length iT_fault iT_place r38 iT_next_1 iT_number jT_name_36 iT_next_36) ∧ va_S A s.heap H locs ∧ lv_has ls 2 [(1, .int k0_j9), (0, .ref (hT 0))]) (fun join14 => ?_) ?_
                · refine lv_icmp_le (tgt := 126) hx hb dX9_advance_119 (by decide) (fun c_119 => ?_) (fun c_119 => ?_)
                  · have t_119 : (iT_next_36.toInt - iT_next_1.toInt) ≤ 8 := toI_le c_119 (iI_t (Int.le_trans (by decide) (Int.sub_le_sub (b_iT_next_36.1) (b_iT_next_1.2))) (Int.le_trans (Int.sub_le_sub (b_iT_next_36.2) (b_iT_next_1.1)) (by decide))) (by decide : (8 : Int32).toInt = 8)
                    refine lv_iconst (v := 1) hx hb dX9_advance_126 (by decide) ?_
                    have hl : lv_has _ _ ([(1, .int k0_j9), (0, .ref (hT 0))]) := lv_sub hl [0, 1] rfl
                    exact join14 _ _ _ _ ⟨1, (show 1 ≤ (1 : Int32).toInt ∧ (1 : Int32).toInt ≤ 3 from by decide), rfl, hP, hD, hS, hl⟩
                  · have t_119 : ¬ (iT_next_36.toInt - iT_next_1.toInt) ≤ 8 := toI_nle c_119 (iI_t (Int.le_trans (by decide) (Int.sub_le_sub (b_iT_next_36.1) (b_iT_next_1.2))) (Int.le_trans (Int.sub_le_sub (b_iT_next_36.2) (b_iT_next_1.1)) (by decide))) (by decide : (8 : Int32).toInt = 8)
                    refine lv_iconst (v := 3) hx hb dX9_advance_122 (by decide) ?_
                    refine lv_goto (tgt := 127) hx hb dX9_advance_123 (by decide) ?_
                    have hl : lv_has _ _ ([(1, .int k0_j9), (0, .ref (hT 0))]) := lv_sub hl [0, 1] rfl
                    exact join14 _ _ _ _ ⟨3, (show 1 ≤ (3 : Int32).toInt ∧ (3 : Int32).toInt ≤ 3 from by decide), rfl, hP, hD, hS, hl⟩
                · rintro H locs ls stk ⟨k0_j14, b_k0_j14, rfl, hP, hD, hS, hl⟩
                  refine va_put (D := (dC, dI)) (ci := 9) (v := .int k0_j14) (ty := .int) (C := RX9) (T := TX9) (N := 9) hx hb hts iwsMX9_advance_in9 tyX9 tyX9_ok nmX9 hown hK hP hD hS 0 rfl rfl 4 (by decide) (hts (.fieldLink RX9 37 "OptimaWorks$Words" "kind" "I") (by decide +kernel)) (fun _ h9 => h9) rfl (by decide +kernel) rfl rfl (Nat.le_of_ble_eq_true rfl) dX9_advance_127 (fun H locs hP hD hS => ?_)
                  have hP : va_P (dC, dI) vwCl (WT hT aT kT fT_tape dT_tape nT_tape iT_length iT_fault iT_place k0_j14 iT_next_1 iT_number jT_name_36 iT_next_36) H := hP
                  have hD : va_D A (WT hT aT kT fT_tape dT_tape nT_tape iT_length iT_fault iT_place k0_j14 iT_next_1 iT_number jT_name_36 iT_next_36) := hD
                  refine lv_goto (tgt := 157) hx hb dX9_advance_130 (by decide) ?_
                  have hl : lv_has _ _ ([(1, .int k0_j9), (0, .ref (hT 0))]) := lv_sub hl [0, 1] rfl
                  exact join13 _ _ _ _ ⟨k0_j14, iT_number, jT_name_36, iT_next_36, (b_iT_number), (b_iT_next_36), (show iT_next_1.toInt ≤ iT_next_36.toInt from by first | assumption | omega | (rw [iI_t (by omega) (by omega)]; omega)), (show iT_next_36.toInt ≤ iT_length.toInt from by first | assumption | omega | (rw [iI_t (by omega) (by omega)]; omega)), (show (k0_j14.toInt = 44 ∨ k0_j14.toInt = 61) → iT_next_1.toInt < iT_next_36.toInt from by first | (intro h9; omega) | (intro h9; rcases h9 with h9 | h9 <;> exact absurd h9 (by decide))), rfl, hP, hD, hS, hl⟩
        · have t_57 : ¬ k0_j9.toInt < 97 := toI_nlt c_57 rfl (by decide : (97 : Int32).toInt = 97)
          refine lv_iload_n hx hb dX9_advance_60 rfl (lv_at hl 0 rfl) ?_
          refine lv_bipush (v := 122) hx hb dX9_advance_61 (by decide) ?_
          refine lv_icmp_le (tgt := 78) hx hb dX9_advance_63 (by decide) (fun c_63 => ?_) (fun c_63 => ?_)
          · have t_63 : k0_j9.toInt ≤ 122 := toI_le c_63 rfl (by decide : (122 : Int32).toInt = 122)
            refine lv_aload_n hx hb dX9_advance_78 rfl (lv_at hl 1 rfl) ?_
            have hFc := allFree hD hS hA
            refine va_callv (va_runV (As := []) (rest := []) ⟨hx, hb, hml, hown, hts⟩ (m_X9_takeName l dC dI hT aT kT fT_tape dT_tape nT_tape iT_length iT_fault iT_place iT_kind iT_next_1 iT_number jT_name iT_next_1 b_fT_tape (by first | exact b_nT_tape | with_reducible assumption | exact ⟨by omega, by omega⟩ | assumption) (b_iT_length) (b_iT_next_1) (b_iT_number) (b_iT_next_1) (by first | with_reducible assumption | omega | assumption) (by first | with_reducible assumption | omega | (rw [iI_t (by omega) (by omega)]; omega) | assumption) H.size) (cwV 0 hts gwsMX9_advance_3 rfl rfl rfl hd_yX9_takeName_RX9 (by decide +kernel)) (fz_pre (va_recv hK hP (ci := 9) (q0 := 0) rfl rfl) hP hK hD) rfl rfl hl.1 rfl (lv_room (Nat.le_of_ble_eq_true rfl)) dX9_advance_79 (by decide +kernel)) hS (fun q _ h => hFc q h) hFc (fun u t9_ H locs ht hvm hw9 hB9 hz1 hk1 hS => ?_)
            revert u hw9 hB9
            refine fz_p2 ?_
            intro jT_name_40 iT_next_40 hw9 hB9
            try dsimp only at hw9 hB9
            revert hw9
            refine fz_a3 ?_
            intro b_iT_next_40 f40_0 f40_1
            have hP : va_P (dC, dI) vwCl (WT hT aT kT fT_tape dT_tape nT_tape iT_length iT_fault iT_place iT_kind iT_next_1 iT_number jT_name_40 iT_next_40) H := fz_P ht hB9.1
            have hD : va_D A (WT hT aT kT fT_tape dT_tape nT_tape iT_length iT_fault iT_place iT_kind iT_next_1 iT_number jT_name_40 iT_next_40) := hB9.2.weaken (fun _ q _ h => hFc q.1 h)
            refine lv_aload_n hx hb dX9_advance_82 rfl (lv_at hl 1 rfl) ?_
            refine lv_aload_n hx hb dX9_advance_83 rfl (lv_at hl 1 rfl) ?_
            refine lv_aload_n hx hb dX9_advance_84 rfl (lv_at hl 1 rfl) ?_
            refine va_get (D := (dC, dI)) (ci := 9) (v := .int iT_next_40) (C := RX9) (T := TX9) (N := 9) hx hb hts iwsMX9_advance_in9 hown hK hP 0 rfl rfl 8 (by decide) (hts (.fieldLink RX9 40 "OptimaWorks$Words" "next" "I") (by decide +kernel)) (fun _ h9 => h9) rfl dX9_advance_85 ?_
            refine lv_aload_n hx hb dX9_advance_88 rfl (lv_at hl 1 rfl) ?_
            refine va_get (D := (dC, dI)) (ci := 9) (v := .int iT_next_1) (C := RX9) (T := TX9) (N := 9) hx hb hts iwsMX9_advance_in9 hown hK hP 0 rfl rfl 5 (by decide) (hts (.fieldLink RX9 34 "OptimaWorks$Words" "at" "I") (by decide +kernel)) (fun _ h9 => h9) rfl dX9_advance_89 ?_
            refine lv_isub hx hb dX9_advance_92 ?_
            refine lv_topi (fun y41 hy41 => ?_)
            obtain rfl : (iI (iT_next_40.toInt - iT_next_1.toInt)) = y41 := (hy41.trans (iI_sub2 (iI_of _) (iI_of _))).symm
            have hFc := allFree hD hS hA
            refine va_calli (va_runV (As := [.int (iI (iT_next_40.toInt - iT_next_1.toInt))]) (rest := [.ref (hT 0)]) ⟨hx, hb, hml, hown, hts⟩ (m_X9_keywordOf l hst dC dI hT aT kT fT_tape dT_tape nT_tape iT_length iT_fault iT_place iT_kind iT_next_1 iT_number jT_name_40 iT_next_40 (iI (iT_next_40.toInt - iT_next_1.toInt)) b_fT_tape (by first | exact b_nT_tape | with_reducible assumption | exact ⟨by omega, by omega⟩ | assumption) (b_iT_length) (b_iT_next_1) (b_iT_number) (b_iT_next_40) (by first | with_reducible assumption | omega | assumption) (iI_rng (by omega) (Int.le_trans (Int.sub_le_sub (b_iT_next_40.2) (b_iT_next_1.1)) (by decide)) (by decide) (by decide)) (by rw [iI_t (by omega) (by omega)]; omega) H.size) (cwV 1 hts gwsMX9_advance_4 rfl rfl rfl hd_yX9_keywordOf_RX9 (by decide +kernel)) (fz_preE (va_recv hK hP (ci := 9) (q0 := 0) rfl rfl) hP hK hD (fun a U g mk qE => qE.call) (fun U hU9 hW => by rw [hU9]; exact (((hE : CE A s s.heap).kept hS.2.1).narrow (fun q h => hFc q h)).warm hW)) rfl rfl hl.1 rfl (lv_room (Nat.le_of_ble_eq_true rfl)) dX9_advance_93 (by decide +kernel)) hS (fun q _ h => hFc q h) hFc (fun r42 u t9_ H locs ht hvm hw9 hB9 hz1 hk1 hS => ?_)
            revert hw9
            refine fz_a2 ?_
            intro b_r42 f42_0
            have hP : va_P (dC, dI) vwCl (WT hT aT kT fT_tape dT_tape nT_tape iT_length iT_fault iT_place iT_kind iT_next_1 iT_number jT_name_40 iT_next_40) H := fz_P ht hB9.1
            have hD : va_D A (WT hT aT kT fT_tape dT_tape nT_tape iT_length iT_fault iT_place iT_kind iT_next_1 iT_number jT_name_40 iT_next_40) := hB9.2.weaken (fun _ q _ h => hFc q.1 h)
            refine va_put (D := (dC, dI)) (ci := 9) (v := .int r42) (ty := .int) (C := RX9) (T := TX9) (N := 9) hx hb hts iwsMX9_advance_in9 tyX9 tyX9_ok nmX9 hown hK hP hD hS 0 rfl rfl 4 (by decide) (hts (.fieldLink RX9 37 "OptimaWorks$Words" "kind" "I") (by decide +kernel)) (fun _ h9 => h9) rfl (by decide +kernel) rfl rfl (Nat.le_of_ble_eq_true rfl) dX9_advance_96 (fun H locs hP hD hS => ?_)
            have hP : va_P (dC, dI) vwCl (WT hT aT kT fT_tape dT_tape nT_tape iT_length iT_fault iT_place r42 iT_next_1 iT_number jT_name_40 iT_next_40) H := hP
            have hD : va_D A (WT hT aT kT fT_tape dT_tape nT_tape iT_length iT_fault iT_place r42 iT_next_1 iT_number jT_name_40 iT_next_40) := hD
            refine lv_aload_n hx hb dX9_advance_99 rfl (lv_at hl 1 rfl) ?_
            refine va_get (D := (dC, dI)) (ci := 9) (v := .int r42) (C := RX9) (T := TX9) (N := 9) hx hb hts iwsMX9_advance_in9 hown hK hP 0 rfl rfl 4 (by decide) (hts (.fieldLink RX9 37 "OptimaWorks$Words" "kind" "I") (by decide +kernel)) (fun _ h9 => h9) rfl dX9_advance_100 ?_
            refine lv_iconst (v := (-1)) hx hb dX9_advance_103 (by decide) ?_
            refine lv_icmp_ne (tgt := 157) hx hb dX9_advance_104 (by decide) (fun c_104 => ?_) (fun c_104 => ?_)
            · have t_104 : r42.toInt ≠ (-1) := toI_ne c_104 rfl (by decide : ((-1) : Int32).toInt = (-1))
              have hl : lv_has _ _ ([(1, .int k0_j9), (0, .ref (hT 0))]) := lv_sub hl [0, 1] rfl
              exact join13 _ _ _ _ ⟨r42, iT_number, jT_name_40, iT_next_40, (b_iT_number), (b_iT_next_40), (show iT_next_1.toInt ≤ iT_next_40.toInt from by first | assumption | omega | (rw [iI_t (by omega) (by omega)]; omega)), (show iT_next_40.toInt ≤ iT_length.toInt from by first | assumption | omega | (rw [iI_t (by omega) (by omega)]; omega)), (show (r42.toInt = 44 ∨ r42.toInt = 61) → iT_next_1.toInt < iT_next_40.toInt from by first | (intro h9; omega) | (intro h9; rcases h9 with h9 | h9 <;> exact absurd h9 (by decide))), rfl, hP, hD, hS, hl⟩
            · have t_104 : r42.toInt = (-1) := toI_nne c_104 rfl (by decide : ((-1) : Int32).toInt = (-1))
              refine lv_aload_n hx hb dX9_advance_107 rfl (lv_at hl 1 rfl) ?_
              refine lv_aload_n hx hb dX9_advance_108 rfl (lv_at hl 1 rfl) ?_
              refine va_get (D := (dC, dI)) (ci := 9) (v := .int iT_next_40) (C := RX9) (T := TX9) (N := 9) hx hb hts iwsMX9_advance_in9 hown hK hP 0 rfl rfl 8 (by decide) (hts (.fieldLink RX9 40 "OptimaWorks$Words" "next" "I") (by decide +kernel)) (fun _ h9 => h9) rfl dX9_advance_109 ?_
              refine lv_aload_n hx hb dX9_advance_112 rfl (lv_at hl 1 rfl) ?_
              refine va_get (D := (dC, dI)) (ci := 9) (v := .int iT_next_1) (C := RX9) (T := TX9) (N := 9) hx hb hts iwsMX9_advance_in9 hown hK hP 0 rfl rfl 5 (by decide) (hts (.fieldLink RX9 34 "OptimaWorks$Words" "at" "I") (by decide +kernel)) (fun _ h9 => h9) rfl dX9_advance_113 ?_
              refine lv_isub hx hb dX9_advance_116 ?_
              refine lv_topi (fun y43 hy43 => ?_)
              obtain rfl : (iI (iT_next_40.toInt - iT_next_1.toInt)) = y43 := (hy43.trans (iI_sub2 (iI_of _) (iI_of _))).symm
              refine lv_bipush (v := 8) hx hb dX9_advance_117 (by decide) ?_
              refine W.cut (pc := 127) (fun H locs ls stk => ∃ (k0_j15 : Int32), (1 ≤ k0_j15.toInt ∧ k0_j15.toInt ≤ 3) ∧  stk = [.int k0_j15, .ref (hT 0)] ∧ va_P (dC, dI) vwCl (WT hT aT kT fT_tape dT_tape nT_tape iT_length iT_fault iT_place r42 iT_next_1 iT_number jT_name_40 iT_next_40) H ∧ va_D A (WT hT aT kT fT_tape dT_tape nT_tape iT_length iT_fault iT_place r42 iT_next_1 iT_number jT_name_40 iT_next_40) ∧ va_S A s.heap H locs ∧ lv_has ls 2 [(1, .int k0_j9), (0, .ref (hT 0))]) (fun join15 => ?_) ?_
              · refine lv_icmp_le (tgt := 126) hx hb dX9_advance_119 (by decide) (fun c_119 => ?_) (fun c_119 => ?_)
                · have t_119 : (iT_next_40.toInt - iT_next_1.toInt) ≤ 8 := toI_le c_119 (iI_t (Int.le_trans (by decide) (Int.sub_le_sub (b_iT_next_40.1) (b_iT_next_1.2))) (Int.le_trans (Int.sub_le_sub (b_iT_next_40.2) (b_iT_next_1.1)) (by decide))) (by decide : (8 : Int32).toInt = 8)
                  refine lv_iconst (v := 1) hx hb dX9_advance_126 (by decide) ?_
                  have hl : lv_has _ _ ([(1, .int k0_j9), (0, .ref (hT 0))]) := lv_sub hl [0, 1] rfl
                  exact join15 _ _ _ _ ⟨1, (show 1 ≤ (1 : Int32).toInt ∧ (1 : Int32).toInt ≤ 3 from by decide), rfl, hP, hD, hS, hl⟩
                · have t_119 : ¬ (iT_next_40.toInt - iT_next_1.toInt) ≤ 8 := toI_nle c_119 (iI_t (Int.le_trans (by decide) (Int.sub_le_sub (b_iT_next_40.1) (b_iT_next_1.2))) (Int.le_trans (Int.sub_le_sub (b_iT_next_40.2) (b_iT_next_1.1)) (by decide))) (by decide : (8 : Int32).toInt = 8)
                  refine lv_iconst (v := 3) hx hb dX9_advance_122 (by decide) ?_
                  refine lv_goto (tgt := 127) hx hb dX9_advance_123 (by decide) ?_
                  have hl : lv_has _ _ ([(1, .int k0_j9), (0, .ref (hT 0))]) := lv_sub hl [0, 1] rfl
                  exact join15 _ _ _ _ ⟨3, (show 1 ≤ (3 : Int32).toInt ∧ (3 : Int32).toInt ≤ 3 from by decide), rfl, hP, hD, hS, hl⟩
              · rintro H locs ls stk ⟨k0_j15, b_k0_j15, rfl, hP, hD, hS, hl⟩
                refine va_put (D := (dC, dI)) (ci := 9) (v := .int k0_j15) (ty := .int) (C := RX9) (T := TX9) (N := 9) hx hb hts iwsMX9_advance_in9 tyX9 tyX9_ok nmX9 hown hK hP hD hS 0 rfl rfl 4 (by decide) (hts (.fieldLink RX9 37 "OptimaWorks$Words" "kind" "I") (by decide +kernel)) (fun _ h9 => h9) rfl (by decide +kernel) rfl rfl (Nat.le_of_ble_eq_true rfl) dX9_advance_127 (fun H locs hP hD hS => ?_)
                have hP : va_P (dC, dI) vwCl (WT hT aT kT fT_tape dT_tape nT_tape iT_length iT_fault iT_place k0_j15 iT_next_1 iT_number jT_name_40 iT_next_40) H := hP
                have hD : va_D A (WT hT aT kT fT_tape dT_tape nT_tape iT_length iT_fault iT_place k0_j15 iT_next_1 iT_number jT_name_40 iT_next_40) := hD
                refine lv_goto (tgt := 157) hx hb dX9_advance_130 (by decide) ?_
                have hl : lv_has _ _ ([(1, .int k0_j9), (0, .ref (hT 0))]) := lv_sub hl [0, 1] rfl
                exact join13 _ _ _ _ ⟨k0_j15, iT_number, jT_name_40, iT_next_40, (b_iT_number), (b_iT_next_40), (show iT_next_1.toInt ≤ iT_next_40.toInt from by first | assumption | omega | (rw [iI_t (by omega) (by omega)]; omega)), (show iT_next_40.toInt ≤ iT_length.toInt from by first | assumption | omega | (rw [iI_t (by omega) (by omega)]; omega)), (show (k0_j15.toInt = 44 ∨ k0_j15.toInt = 61) → iT_next_1.toInt < iT_next_40.toInt from by first | (intro h9; omega) | (intro h9; rcases h9 with h9 | h9 <;> exact absurd h9 (by decide))), rfl, hP, hD, hS, hl⟩
          · have t_63 : ¬ k0_j9.toInt ≤ 122 := toI_nle c_63 rfl (by decide : (122 : Int32).toInt = 122)
            refine lv_iload_n hx hb dX9_advance_66 rfl (lv_at hl 0 rfl) ?_
            refine lv_bipush (v := 65) hx hb dX9_advance_67 (by decide) ?_
            refine lv_icmp_lt (tgt := 133) hx hb dX9_advance_69 (by decide) (fun c_69 => ?_) (fun c_69 => ?_)
            · have t_69 : k0_j9.toInt < 65 := toI_lt c_69 rfl (by decide : (65 : Int32).toInt = 65)
              refine lv_iload_n hx hb dX9_advance_133 rfl (lv_at hl 0 rfl) ?_
              refine lv_bipush (v := 48) hx hb dX9_advance_134 (by decide) ?_
              refine lv_icmp_lt (tgt := 152) hx hb dX9_advance_136 (by decide) (fun c_136 => ?_) (fun c_136 => ?_)
              · have t_136 : k0_j9.toInt < 48 := toI_lt c_136 rfl (by decide : (48 : Int32).toInt = 48)
                refine lv_aload_n hx hb dX9_advance_152 rfl (lv_at hl 1 rfl) ?_
                refine lv_iload_n hx hb dX9_advance_153 rfl (lv_at hl 0 rfl) ?_
                have hFc := allFree hD hS hA
                refine va_callv (va_runV (As := [.int k0_j9]) (rest := []) ⟨hx, hb, hml, hown, hts⟩ (m_X9_takeSign l hst dC dI hT aT kT fT_tape dT_tape nT_tape iT_length iT_fault iT_place iT_kind iT_next_1 iT_number jT_name iT_next_1 k0_j9 b_fT_tape (by first | exact b_nT_tape | with_reducible assumption | exact ⟨by omega, by omega⟩ | assumption) (b_iT_length) (b_iT_next_1) (b_iT_number) (b_iT_next_1) (by first | with_reducible assumption | omega | assumption) (by first | with_reducible assumption | omega | (rw [iI_t (by omega) (by omega)]; omega) | decide | assumption) H.size) (cwV 1 hts gwsMX9_advance_1 rfl rfl rfl hd_yX9_takeSign_RX9 (by decide +kernel)) (fz_preE (va_recv hK hP (ci := 9) (q0 := 0) rfl rfl) hP hK hD (fun a U g mk qE => qE.call) (fun U hU9 hW => by rw [hU9]; exact (((hE : CE A s s.heap).kept hS.2.1).narrow (fun q h => hFc q h)).warm hW)) rfl rfl hl.1 rfl (lv_room (Nat.le_of_ble_eq_true rfl)) dX9_advance_154 (by decide +kernel)) hS (fun q _ h => hFc q h) hFc (fun u t9_ H locs ht hvm hw9 hB9 hz1 hk1 hS => ?_)
                revert u hw9 hB9
                refine fz_p2 ?_
                intro iT_kind_44 iT_next_44 hw9 hB9
                try dsimp only at hw9 hB9
                revert hw9
                refine fz_a3 ?_
                intro b_iT_next_44 f44_0 f44_1
                have hP : va_P (dC, dI) vwCl (WT hT aT kT fT_tape dT_tape nT_tape iT_length iT_fault iT_place iT_kind_44 iT_next_1 iT_number jT_name iT_next_44) H := fz_P ht hB9.1
                have hD : va_D A (WT hT aT kT fT_tape dT_tape nT_tape iT_length iT_fault iT_place iT_kind_44 iT_next_1 iT_number jT_name iT_next_44) := hB9.2.weaken (fun _ q _ h => hFc q.1 h)
                have hl : lv_has _ _ ([(1, .int k0_j9), (0, .ref (hT 0))]) := lv_sub hl [0, 1] rfl
                exact join13 _ _ _ _ ⟨iT_kind_44, iT_number, jT_name, iT_next_44, (b_iT_number), (b_iT_next_44), (show iT_next_1.toInt ≤ iT_next_44.toInt from by first | assumption | omega | (rw [iI_t (by omega) (by omega)]; omega)), (show iT_next_44.toInt ≤ iT_length.toInt from by first | assumption | omega | (rw [iI_t (by omega) (by omega)]; omega)), (show (iT_kind_44.toInt = 44 ∨ iT_kind_44.toInt = 61) → iT_next_1.toInt < iT_next_44.toInt from by first | (intro h9; omega) | (intro h9; rcases h9 with h9 | h9 <;> exact absurd h9 (by decide))), rfl, hP, hD, hS, hl⟩
              · have t_136 : ¬ k0_j9.toInt < 48 := toI_nlt c_136 rfl (by decide : (48 : Int32).toInt = 48)
                refine lv_iload_n hx hb dX9_advance_139 rfl (lv_at hl 0 rfl) ?_
                refine lv_bipush (v := 57) hx hb dX9_advance_140 (by decide) ?_
                refine lv_icmp_gt (tgt := 152) hx hb dX9_advance_142 (by decide) (fun c_142 => ?_) (fun c_142 => ?_)
                · have t_142 : k0_j9.toInt > 57 := toI_gt c_142 rfl (by decide : (57 : Int32).toInt = 57)
                  refine lv_aload_n hx hb dX9_advance_152 rfl (lv_at hl 1 rfl) ?_
                  refine lv_iload_n hx hb dX9_advance_153 rfl (lv_at hl 0 rfl) ?_
                  have hFc := allFree hD hS hA
                  refine va_callv (va_runV (As := [.int k0_j9]) (rest := []) ⟨hx, hb, hml, hown, hts⟩ (m_X9_takeSign l hst dC dI hT aT kT fT_tape dT_tape nT_tape iT_length iT_fault iT_place iT_kind iT_next_1 iT_number jT_name iT_next_1 k0_j9 b_fT_tape (by first | exact b_nT_tape | with_reducible assumption | exact ⟨by omega, by omega⟩ | assumption) (b_iT_length) (b_iT_next_1) (b_iT_number) (b_iT_next_1) (by first | with_reducible assumption | omega | assumption) (by first | with_reducible assumption | omega | (rw [iI_t (by omega) (by omega)]; omega) | decide | assumption) H.size) (cwV 1 hts gwsMX9_advance_1 rfl rfl rfl hd_yX9_takeSign_RX9 (by decide +kernel)) (fz_preE (va_recv hK hP (ci := 9) (q0 := 0) rfl rfl) hP hK hD (fun a U g mk qE => qE.call) (fun U hU9 hW => by rw [hU9]; exact (((hE : CE A s s.heap).kept hS.2.1).narrow (fun q h => hFc q h)).warm hW)) rfl rfl hl.1 rfl (lv_room (Nat.le_of_ble_eq_true rfl)) dX9_advance_154 (by decide +kernel)) hS (fun q _ h => hFc q h) hFc (fun u t9_ H locs ht hvm hw9 hB9 hz1 hk1 hS => ?_)
                  revert u hw9 hB9
                  refine fz_p2 ?_
                  intro iT_kind_45 iT_next_45 hw9 hB9
                  try dsimp only at hw9 hB9
                  revert hw9
                  refine fz_a3 ?_
                  intro b_iT_next_45 f45_0 f45_1
                  have hP : va_P (dC, dI) vwCl (WT hT aT kT fT_tape dT_tape nT_tape iT_length iT_fault iT_place iT_kind_45 iT_next_1 iT_number jT_name iT_next_45) H := fz_P ht hB9.1
                  have hD : va_D A (WT hT aT kT fT_tape dT_tape nT_tape iT_length iT_fault iT_place iT_kind_45 iT_next_1 iT_number jT_name iT_next_45) := hB9.2.weaken (fun _ q _ h => hFc q.1 h)
                  have hl : lv_has _ _ ([(1, .int k0_j9), (0, .ref (hT 0))]) := lv_sub hl [0, 1] rfl
                  exact join13 _ _ _ _ ⟨iT_kind_45, iT_number, jT_name, iT_next_45, (b_iT_number), (b_iT_next_45), (show iT_next_1.toInt ≤ iT_next_45.toInt from by first | assumption | omega | (rw [iI_t (by omega) (by omega)]; omega)), (show iT_next_45.toInt ≤ iT_length.toInt from by first | assumption | omega | (rw [iI_t (by omega) (by omega)]; omega)), (show (iT_kind_45.toInt = 44 ∨ iT_kind_45.toInt = 61) → iT_next_1.toInt < iT_next_45.toInt from by first | (intro h9; omega) | (intro h9; rcases h9 with h9 | h9 <;> exact absurd h9 (by decide))), rfl, hP, hD, hS, hl⟩
                · have t_142 : ¬ k0_j9.toInt > 57 := toI_ngt c_142 rfl (by decide : (57 : Int32).toInt = 57)
                  refine lv_aload_n hx hb dX9_advance_145 rfl (lv_at hl 1 rfl) ?_
                  have hFc := allFree hD hS hA
                  refine va_callv (va_runV (As := []) (rest := []) ⟨hx, hb, hml, hown, hts⟩ (m_X9_takeNumber l dC dI hT aT kT fT_tape dT_tape nT_tape iT_length iT_fault iT_place iT_kind iT_next_1 iT_number jT_name iT_next_1 b_fT_tape (by first | exact b_nT_tape | with_reducible assumption | exact ⟨by omega, by omega⟩ | assumption) (b_iT_length) (b_iT_next_1) (b_iT_number) (b_iT_next_1) (by first | with_reducible assumption | omega | assumption) (by first | with_reducible assumption | omega | (rw [iI_t (by omega) (by omega)]; omega) | assumption) (by first | with_reducible assumption | omega | (rw [iI_t (by omega) (by omega)]; omega) | decide | assumption) H.size) (cwV 0 hts gwsMX9_advance_2 rfl rfl rfl hd_yX9_takeNumber_RX9 (by decide +kernel)) (fz_pre (va_recv hK hP (ci := 9) (q0 := 0) rfl rfl) hP hK hD) rfl rfl hl.1 rfl (lv_room (Nat.le_of_ble_eq_true rfl)) dX9_advance_146 (by decide +kernel)) hS (fun q _ h => hFc q h) hFc (fun u t9_ H locs ht hvm hw9 hB9 hz1 hk1 hS => ?_)
                  revert u hw9 hB9
                  refine fz_p3 ?_
                  intro iT_kind_46 iT_number_46 iT_next_46 hw9 hB9
                  try dsimp only at hw9 hB9
                  revert hw9
                  refine fz_a5 ?_
                  intro b_iT_number_46 b_iT_next_46 f46_0 f46_1 f46_2
                  have hP : va_P (dC, dI) vwCl (WT hT aT kT fT_tape dT_tape nT_tape iT_length iT_fault iT_place iT_kind_46 iT_next_1 iT_number_46 jT_name iT_next_46) H := fz_P ht hB9.1
                  have hD : va_D A (WT hT aT kT fT_tape dT_tape nT_tape iT_length iT_fault iT_place iT_kind_46 iT_next_1 iT_number_46 jT_name iT_next_46) := hB9.2.weaken (fun _ q _ h => hFc q.1 h)
                  refine lv_goto (tgt := 157) hx hb dX9_advance_149 (by decide) ?_
                  have hl : lv_has _ _ ([(1, .int k0_j9), (0, .ref (hT 0))]) := lv_sub hl [0, 1] rfl
                  exact join13 _ _ _ _ ⟨iT_kind_46, iT_number_46, jT_name, iT_next_46, (b_iT_number_46), (b_iT_next_46), (show iT_next_1.toInt ≤ iT_next_46.toInt from by first | assumption | omega | (rw [iI_t (by omega) (by omega)]; omega)), (show iT_next_46.toInt ≤ iT_length.toInt from by first | assumption | omega | (rw [iI_t (by omega) (by omega)]; omega)), (show (iT_kind_46.toInt = 44 ∨ iT_kind_46.toInt = 61) → iT_next_1.toInt < iT_next_46.toInt from by first | (intro h9; omega) | (intro h9; rcases h9 with h9 | h9 <;> exact absurd h9 (by decide))), rfl, hP, hD, hS, hl⟩
            · have t_69 : ¬ k0_j9.toInt < 65 := toI_nlt c_69 rfl (by decide : (65 : Int32).toInt = 65)
              refine lv_iload_n hx hb dX9_advance_72 rfl (lv_at hl 0 rfl) ?_
              refine lv_bipush (v := 90) hx hb dX9_advance_73 (by decide) ?_
              refine lv_icmp_gt (tgt := 133) hx hb dX9_advance_75 (by decide) (fun c_75 => ?_) (fun c_75 => ?_)
              · have t_75 : k0_j9.toInt > 90 := toI_gt c_75 rfl (by decide : (90 : Int32).toInt = 90)
                refine lv_iload_n hx hb dX9_advance_133 rfl (lv_at hl 0 rfl) ?_
                refine lv_bipush (v := 48) hx hb dX9_advance_134 (by decide) ?_
                refine lv_icmp_lt (tgt := 152) hx hb dX9_advance_136 (by decide) (fun c_136 => ?_) (fun c_136 => ?_)
                · have t_136 : k0_j9.toInt < 48 := toI_lt c_136 rfl (by decide : (48 : Int32).toInt = 48)
                  refine lv_aload_n hx hb dX9_advance_152 rfl (lv_at hl 1 rfl) ?_
                  refine lv_iload_n hx hb dX9_advance_153 rfl (lv_at hl 0 rfl) ?_
                  have hFc := allFree hD hS hA
                  refine va_callv (va_runV (As := [.int k0_j9]) (rest := []) ⟨hx, hb, hml, hown, hts⟩ (m_X9_takeSign l hst dC dI hT aT kT fT_tape dT_tape nT_tape iT_length iT_fault iT_place iT_kind iT_next_1 iT_number jT_name iT_next_1 k0_j9 b_fT_tape (by first | exact b_nT_tape | with_reducible assumption | exact ⟨by omega, by omega⟩ | assumption) (b_iT_length) (b_iT_next_1) (b_iT_number) (b_iT_next_1) (by first | with_reducible assumption | omega | assumption) (by first | with_reducible assumption | omega | (rw [iI_t (by omega) (by omega)]; omega) | decide | assumption) H.size) (cwV 1 hts gwsMX9_advance_1 rfl rfl rfl hd_yX9_takeSign_RX9 (by decide +kernel)) (fz_preE (va_recv hK hP (ci := 9) (q0 := 0) rfl rfl) hP hK hD (fun a U g mk qE => qE.call) (fun U hU9 hW => by rw [hU9]; exact (((hE : CE A s s.heap).kept hS.2.1).narrow (fun q h => hFc q h)).warm hW)) rfl rfl hl.1 rfl (lv_room (Nat.le_of_ble_eq_true rfl)) dX9_advance_154 (by decide +kernel)) hS (fun q _ h => hFc q h) hFc (fun u t9_ H locs ht hvm hw9 hB9 hz1 hk1 hS => ?_)
                  revert u hw9 hB9
                  refine fz_p2 ?_
                  intro iT_kind_47 iT_next_47 hw9 hB9
                  try dsimp only at hw9 hB9
                  revert hw9
                  refine fz_a3 ?_
                  intro b_iT_next_47 f47_0 f47_1
                  have hP : va_P (dC, dI) vwCl (WT hT aT kT fT_tape dT_tape nT_tape iT_length iT_fault iT_place iT_kind_47 iT_next_1 iT_number jT_name iT_next_47) H := fz_P ht hB9.1
                  have hD : va_D A (WT hT aT kT fT_tape dT_tape nT_tape iT_length iT_fault iT_place iT_kind_47 iT_next_1 iT_number jT_name iT_next_47) := hB9.2.weaken (fun _ q _ h => hFc q.1 h)
                  have hl : lv_has _ _ ([(1, .int k0_j9), (0, .ref (hT 0))]) := lv_sub hl [0, 1] rfl
                  exact join13 _ _ _ _ ⟨iT_kind_47, iT_number, jT_name, iT_next_47, (b_iT_number), (b_iT_next_47), (show iT_next_1.toInt ≤ iT_next_47.toInt from by first | assumption | omega | (rw [iI_t (by omega) (by omega)]; omega)), (show iT_next_47.toInt ≤ iT_length.toInt from by first | assumption | omega | (rw [iI_t (by omega) (by omega)]; omega)), (show (iT_kind_47.toInt = 44 ∨ iT_kind_47.toInt = 61) → iT_next_1.toInt < iT_next_47.toInt from by first | (intro h9; omega) | (intro h9; rcases h9 with h9 | h9 <;> exact absurd h9 (by decide))), rfl, hP, hD, hS, hl⟩
                · have t_136 : ¬ k0_j9.toInt < 48 := toI_nlt c_136 rfl (by decide : (48 : Int32).toInt = 48)
                  refine lv_iload_n hx hb dX9_advance_139 rfl (lv_at hl 0 rfl) ?_
                  refine lv_bipush (v := 57) hx hb dX9_advance_140 (by decide) ?_
                  refine lv_icmp_gt (tgt := 152) hx hb dX9_advance_142 (by decide) (fun c_142 => ?_) (fun c_142 => ?_)
                  · have t_142 : k0_j9.toInt > 57 := toI_gt c_142 rfl (by decide : (57 : Int32).toInt = 57)
                    refine lv_aload_n hx hb dX9_advance_152 rfl (lv_at hl 1 rfl) ?_
                    refine lv_iload_n hx hb dX9_advance_153 rfl (lv_at hl 0 rfl) ?_
                    have hFc := allFree hD hS hA
                    refine va_callv (va_runV (As := [.int k0_j9]) (rest := []) ⟨hx, hb, hml, hown, hts⟩ (m_X9_takeSign l hst dC dI hT aT kT fT_tape dT_tape nT_tape iT_length iT_fault iT_place iT_kind iT_next_1 iT_number jT_name iT_next_1 k0_j9 b_fT_tape (by first | exact b_nT_tape | with_reducible assumption | exact ⟨by omega, by omega⟩ | assumption) (b_iT_length) (b_iT_next_1) (b_iT_number) (b_iT_next_1) (by first | with_reducible assumption | omega | assumption) (by first | with_reducible assumption | omega | (rw [iI_t (by omega) (by omega)]; omega) | decide | assumption) H.size) (cwV 1 hts gwsMX9_advance_1 rfl rfl rfl hd_yX9_takeSign_RX9 (by decide +kernel)) (fz_preE (va_recv hK hP (ci := 9) (q0 := 0) rfl rfl) hP hK hD (fun a U g mk qE => qE.call) (fun U hU9 hW => by rw [hU9]; exact (((hE : CE A s s.heap).kept hS.2.1).narrow (fun q h => hFc q h)).warm hW)) rfl rfl hl.1 rfl (lv_room (Nat.le_of_ble_eq_true rfl)) dX9_advance_154 (by decide +kernel)) hS (fun q _ h => hFc q h) hFc (fun u t9_ H locs ht hvm hw9 hB9 hz1 hk1 hS => ?_)
                    revert u hw9 hB9
                    refine fz_p2 ?_
                    intro iT_kind_48 iT_next_48 hw9 hB9
                    try dsimp only at hw9 hB9
                    revert hw9
                    refine fz_a3 ?_
                    intro b_iT_next_48 f48_0 f48_1
                    have hP : va_P (dC, dI) vwCl (WT hT aT kT fT_tape dT_tape nT_tape iT_length iT_fault iT_place iT_kind_48 iT_next_1 iT_number jT_name iT_next_48) H := fz_P ht hB9.1
                    have hD : va_D A (WT hT aT kT fT_tape dT_tape nT_tape iT_length iT_fault iT_place iT_kind_48 iT_next_1 iT_number jT_name iT_next_48) := hB9.2.weaken (fun _ q _ h => hFc q.1 h)
                    have hl : lv_has _ _ ([(1, .int k0_j9), (0, .ref (hT 0))]) := lv_sub hl [0, 1] rfl
                    exact join13 _ _ _ _ ⟨iT_kind_48, iT_number, jT_name, iT_next_48, (b_iT_number), (b_iT_next_48), (show iT_next_1.toInt ≤ iT_next_48.toInt from by first | assumption | omega | (rw [iI_t (by omega) (by omega)]; omega)), (show iT_next_48.toInt ≤ iT_length.toInt from by first | assumption | omega | (rw [iI_t (by omega) (by omega)]; omega)), (show (iT_kind_48.toInt = 44 ∨ iT_kind_48.toInt = 61) → iT_next_1.toInt < iT_next_48.toInt from by first | (intro h9; omega) | (intro h9; rcases h9 with h9 | h9 <;> exact absurd h9 (by decide))), rfl, hP, hD, hS, hl⟩
                  · have t_142 : ¬ k0_j9.toInt > 57 := toI_ngt c_142 rfl (by decide : (57 : Int32).toInt = 57)
                    refine lv_aload_n hx hb dX9_advance_145 rfl (lv_at hl 1 rfl) ?_
                    have hFc := allFree hD hS hA
                    refine va_callv (va_runV (As := []) (rest := []) ⟨hx, hb, hml, hown, hts⟩ (m_X9_takeNumber l dC dI hT aT kT fT_tape dT_tape nT_tape iT_length iT_fault iT_place iT_kind iT_next_1 iT_number jT_name iT_next_1 b_fT_tape (by first | exact b_nT_tape | with_reducible assumption | exact ⟨by omega, by omega⟩ | assumption) (b_iT_length) (b_iT_next_1) (b_iT_number) (b_iT_next_1) (by first | with_reducible assumption | omega | assumption) (by first | with_reducible assumption | omega | (rw [iI_t (by omega) (by omega)]; omega) | assumption) (by first | with_reducible assumption | omega | (rw [iI_t (by omega) (by omega)]; omega) | decide | assumption) H.size) (cwV 0 hts gwsMX9_advance_2 rfl rfl rfl hd_yX9_takeNumber_RX9 (by decide +kernel)) (fz_pre (va_recv hK hP (ci := 9) (q0 := 0) rfl rfl) hP hK hD) rfl rfl hl.1 rfl (lv_room (Nat.le_of_ble_eq_true rfl)) dX9_advance_146 (by decide +kernel)) hS (fun q _ h => hFc q h) hFc (fun u t9_ H locs ht hvm hw9 hB9 hz1 hk1 hS => ?_)
                    revert u hw9 hB9
                    refine fz_p3 ?_
                    intro iT_kind_49 iT_number_49 iT_next_49 hw9 hB9
                    try dsimp only at hw9 hB9
                    revert hw9
                    refine fz_a5 ?_
                    intro b_iT_number_49 b_iT_next_49 f49_0 f49_1 f49_2
                    have hP : va_P (dC, dI) vwCl (WT hT aT kT fT_tape dT_tape nT_tape iT_length iT_fault iT_place iT_kind_49 iT_next_1 iT_number_49 jT_name iT_next_49) H := fz_P ht hB9.1
                    have hD : va_D A (WT hT aT kT fT_tape dT_tape nT_tape iT_length iT_fault iT_place iT_kind_49 iT_next_1 iT_number_49 jT_name iT_next_49) := hB9.2.weaken (fun _ q _ h => hFc q.1 h)
                    refine lv_goto (tgt := 157) hx hb dX9_advance_149 (by decide) ?_
                    have hl : lv_has _ _ ([(1, .int k0_j9), (0, .ref (hT 0))]) := lv_sub hl [0, 1] rfl
                    exact join13 _ _ _ _ ⟨iT_kind_49, iT_number_49, jT_name, iT_next_49, (b_iT_number_49), (b_iT_next_49), (show iT_next_1.toInt ≤ iT_next_49.toInt from by first | assumption | omega | (rw [iI_t (by omega) (by omega)]; omega)), (show iT_next_49.toInt ≤ iT_length.toInt from by first | assumption | omega | (rw [iI_t (by omega) (by omega)]; omega)), (show (iT_kind_49.toInt = 44 ∨ iT_kind_49.toInt = 61) → iT_next_1.toInt < iT_next_49.toInt from by first | (intro h9; omega) | (intro h9; rcases h9 with h9 | h9 <;> exact absurd h9 (by decide))), rfl, hP, hD, hS, hl⟩
              · have t_75 : ¬ k0_j9.toInt > 90 := toI_ngt c_75 rfl (by decide : (90 : Int32).toInt = 90)
                refine lv_aload_n hx hb dX9_advance_78 rfl (lv_at hl 1 rfl) ?_
                have hFc := allFree hD hS hA
                refine va_callv (va_runV (As := []) (rest := []) ⟨hx, hb, hml, hown, hts⟩ (m_X9_takeName l dC dI hT aT kT fT_tape dT_tape nT_tape iT_length iT_fault iT_place iT_kind iT_next_1 iT_number jT_name iT_next_1 b_fT_tape (by first | exact b_nT_tape | with_reducible assumption | exact ⟨by omega, by omega⟩ | assumption) (b_iT_length) (b_iT_next_1) (b_iT_number) (b_iT_next_1) (by first | with_reducible assumption | omega | assumption) (by first | with_reducible assumption | omega | (rw [iI_t (by omega) (by omega)]; omega) | assumption) H.size) (cwV 0 hts gwsMX9_advance_3 rfl rfl rfl hd_yX9_takeName_RX9 (by decide +kernel)) (fz_pre (va_recv hK hP (ci := 9) (q0 := 0) rfl rfl) hP hK hD) rfl rfl hl.1 rfl (lv_room (Nat.le_of_ble_eq_true rfl)) dX9_advance_79 (by decide +kernel)) hS (fun q _ h => hFc q h) hFc (fun u t9_ H locs ht hvm hw9 hB9 hz1 hk1 hS => ?_)
                revert u hw9 hB9
                refine fz_p2 ?_
                intro jT_name_50 iT_next_50 hw9 hB9
                try dsimp only at hw9 hB9
                revert hw9
                refine fz_a3 ?_
                intro b_iT_next_50 f50_0 f50_1
                have hP : va_P (dC, dI) vwCl (WT hT aT kT fT_tape dT_tape nT_tape iT_length iT_fault iT_place iT_kind iT_next_1 iT_number jT_name_50 iT_next_50) H := fz_P ht hB9.1
                have hD : va_D A (WT hT aT kT fT_tape dT_tape nT_tape iT_length iT_fault iT_place iT_kind iT_next_1 iT_number jT_name_50 iT_next_50) := hB9.2.weaken (fun _ q _ h => hFc q.1 h)
                refine lv_aload_n hx hb dX9_advance_82 rfl (lv_at hl 1 rfl) ?_
                refine lv_aload_n hx hb dX9_advance_83 rfl (lv_at hl 1 rfl) ?_
                refine lv_aload_n hx hb dX9_advance_84 rfl (lv_at hl 1 rfl) ?_
                refine va_get (D := (dC, dI)) (ci := 9) (v := .int iT_next_50) (C := RX9) (T := TX9) (N := 9) hx hb hts iwsMX9_advance_in9 hown hK hP 0 rfl rfl 8 (by decide) (hts (.fieldLink RX9 40 "OptimaWorks$Words" "next" "I") (by decide +kernel)) (fun _ h9 => h9) rfl dX9_advance_85 ?_
                refine lv_aload_n hx hb dX9_advance_88 rfl (lv_at hl 1 rfl) ?_
                refine va_get (D := (dC, dI)) (ci := 9) (v := .int iT_next_1) (C := RX9) (T := TX9) (N := 9) hx hb hts iwsMX9_advance_in9 hown hK hP 0 rfl rfl 5 (by decide) (hts (.fieldLink RX9 34 "OptimaWorks$Words" "at" "I") (by decide +kernel)) (fun _ h9 => h9) rfl dX9_advance_89 ?_
                refine lv_isub hx hb dX9_advance_92 ?_
                refine lv_topi (fun y51 hy51 => ?_)
                obtain rfl : (iI (iT_next_50.toInt - iT_next_1.toInt)) = y51 := (hy51.trans (iI_sub2 (iI_of _) (iI_of _))).symm
                have hFc := allFree hD hS hA
                refine va_calli (va_runV (As := [.int (iI (iT_next_50.toInt - iT_next_1.toInt))]) (rest := [.ref (hT 0)]) ⟨hx, hb, hml, hown, hts⟩ (m_X9_keywordOf l hst dC dI hT aT kT fT_tape dT_tape nT_tape iT_length iT_fault iT_place iT_kind iT_next_1 iT_number jT_name_50 iT_next_50 (iI (iT_next_50.toInt - iT_next_1.toInt)) b_fT_tape (by first | exact b_nT_tape | with_reducible assumption | exact ⟨by omega, by omega⟩ | assumption) (b_iT_length) (b_iT_next_1) (b_iT_number) (b_iT_next_50) (by first | with_reducible assumption | omega | assumption) (iI_rng (by omega) (Int.le_trans (Int.sub_le_sub (b_iT_next_50.2) (b_iT_next_1.1)) (by decide)) (by decide) (by decide)) (by rw [iI_t (by omega) (by omega)]; omega) H.size) (cwV 1 hts gwsMX9_advance_4 rfl rfl rfl hd_yX9_keywordOf_RX9 (by decide +kernel)) (fz_preE (va_recv hK hP (ci := 9) (q0 := 0) rfl rfl) hP hK hD (fun a U g mk qE => qE.call) (fun U hU9 hW => by rw [hU9]; exact (((hE : CE A s s.heap).kept hS.2.1).narrow (fun q h => hFc q h)).warm hW)) rfl rfl hl.1 rfl (lv_room (Nat.le_of_ble_eq_true rfl)) dX9_advance_93 (by decide +kernel)) hS (fun q _ h => hFc q h) hFc (fun r52 u t9_ H locs ht hvm hw9 hB9 hz1 hk1 hS => ?_)
                revert hw9
                refine fz_a2 ?_
                intro b_r52 f52_0
                have hP : va_P (dC, dI) vwCl (WT hT aT kT fT_tape dT_tape nT_tape iT_length iT_fault iT_place iT_kind iT_next_1 iT_number jT_name_50 iT_next_50) H := fz_P ht hB9.1
                have hD : va_D A (WT hT aT kT fT_tape dT_tape nT_tape iT_length iT_fault iT_place iT_kind iT_next_1 iT_number jT_name_50 iT_next_50) := hB9.2.weaken (fun _ q _ h => hFc q.1 h)
                refine va_put (D := (dC, dI)) (ci := 9) (v := .int r52) (ty := .int) (C := RX9) (T := TX9) (N := 9) hx hb hts iwsMX9_advance_in9 tyX9 tyX9_ok nmX9 hown hK hP hD hS 0 rfl rfl 4 (by decide) (hts (.fieldLink RX9 37 "OptimaWorks$Words" "kind" "I") (by decide +kernel)) (fun _ h9 => h9) rfl (by decide +kernel) rfl rfl (Nat.le_of_ble_eq_true rfl) dX9_advance_96 (fun H locs hP hD hS => ?_)
                have hP : va_P (dC, dI) vwCl (WT hT aT kT fT_tape dT_tape nT_tape iT_length iT_fault iT_place r52 iT_next_1 iT_number jT_name_50 iT_next_50) H := hP
                have hD : va_D A (WT hT aT kT fT_tape dT_tape nT_tape iT_length iT_fault iT_place r52 iT_next_1 iT_number jT_name_50 iT_next_50) := hD
                refine lv_aload_n hx hb dX9_advance_99 rfl (lv_at hl 1 rfl) ?_
                refine va_get (D := (dC, dI)) (ci := 9) (v := .int r52) (C := RX9) (T := TX9) (N := 9) hx hb hts iwsMX9_advance_in9 hown hK hP 0 rfl rfl 4 (by decide) (hts (.fieldLink RX9 37 "OptimaWorks$Words" "kind" "I") (by decide +kernel)) (fun _ h9 => h9) rfl dX9_advance_100 ?_
                refine lv_iconst (v := (-1)) hx hb dX9_advance_103 (by decide) ?_
                refine lv_icmp_ne (tgt := 157) hx hb dX9_advance_104 (by decide) (fun c_104 => ?_) (fun c_104 => ?_)
                · have t_104 : r52.toInt ≠ (-1) := toI_ne c_104 rfl (by decide : ((-1) : Int32).toInt = (-1))
                  have hl : lv_has _ _ ([(1, .int k0_j9), (0, .ref (hT 0))]) := lv_sub hl [0, 1] rfl
                  exact join13 _ _ _ _ ⟨r52, iT_number, jT_name_50, iT_next_50, (b_iT_number), (b_iT_next_50), (show iT_next_1.toInt ≤ iT_next_50.toInt from by first | assumption | omega | (rw [iI_t (by omega) (by omega)]; omega)), (show iT_next_50.toInt ≤ iT_length.toInt from by first | assumption | omega | (rw [iI_t (by omega) (by omega)]; omega)), (show (r52.toInt = 44 ∨ r52.toInt = 61) → iT_next_1.toInt < iT_next_50.toInt from by first | (intro h9; omega) | (intro h9; rcases h9 with h9 | h9 <;> exact absurd h9 (by decide))), rfl, hP, hD, hS, hl⟩
                · have t_104 : r52.toInt = (-1) := toI_nne c_104 rfl (by decide : ((-1) : Int32).toInt = (-1))
                  refine lv_aload_n hx hb dX9_advance_107 rfl (lv_at hl 1 rfl) ?_
                  refine lv_aload_n hx hb dX9_advance_108 rfl (lv_at hl 1 rfl) ?_
                  refine va_get (D := (dC, dI)) (ci := 9) (v := .int iT_next_50) (C := RX9) (T := TX9) (N := 9) hx hb hts iwsMX9_advance_in9 hown hK hP 0 rfl rfl 8 (by decide) (hts (.fieldLink RX9 40 "OptimaWorks$Words" "next" "I") (by decide +kernel)) (fun _ h9 => h9) rfl dX9_advance_109 ?_
                  refine lv_aload_n hx hb dX9_advance_112 rfl (lv_at hl 1 rfl) ?_
                  refine va_get (D := (dC, dI)) (ci := 9) (v := .int iT_next_1) (C := RX9) (T := TX9) (N := 9) hx hb hts iwsMX9_advance_in9 hown hK hP 0 rfl rfl 5 (by decide) (hts (.fieldLink RX9 34 "OptimaWorks$Words" "at" "I") (by decide +kernel)) (fun _ h9 => h9) rfl dX9_advance_113 ?_
                  refine lv_isub hx hb dX9_advance_116 ?_
                  refine lv_topi (fun y53 hy53 => ?_)
                  obtain rfl : (iI (iT_next_50.toInt - iT_next_1.toInt)) = y53 := (hy53.trans (iI_sub2 (iI_of _) (iI_of _))).symm
                  refine lv_bipush (v := 8) hx hb dX9_advance_117 (by decide) ?_
                  refine W.cut (pc := 127) (fun H locs ls stk => ∃ (k0_j16 : Int32), (1 ≤ k0_j16.toInt ∧ k0_j16.toInt ≤ 3) ∧  stk = [.int k0_j16, .ref (hT 0)] ∧ va_P (dC, dI) vwCl (WT hT aT kT fT_tape dT_tape nT_tape iT_length iT_fault iT_place r52 iT_next_1 iT_number jT_name_50 iT_next_50) H ∧ va_D A (WT hT aT kT fT_tape dT_tape nT_tape iT_length iT_fault iT_place r52 iT_next_1 iT_number jT_name_50 iT_next_50) ∧ va_S A s.heap H locs ∧ lv_has ls 2 [(1, .int k0_j9), (0, .ref (hT 0))]) (fun join16 => ?_) ?_
                  · refine lv_icmp_le (tgt := 126) hx hb dX9_advance_119 (by decide) (fun c_119 => ?_) (fun c_119 => ?_)
                    · have t_119 : (iT_next_50.toInt - iT_next_1.toInt) ≤ 8 := toI_le c_119 (iI_t (Int.le_trans (by decide) (Int.sub_le_sub (b_iT_next_50.1) (b_iT_next_1.2))) (Int.le_trans (Int.sub_le_sub (b_iT_next_50.2) (b_iT_next_1.1)) (by decide))) (by decide : (8 : Int32).toInt = 8)
                      refine lv_iconst (v := 1) hx hb dX9_advance_126 (by decide) ?_
                      have hl : lv_has _ _ ([(1, .int k0_j9), (0, .ref (hT 0))]) := lv_sub hl [0, 1] rfl
                      exact join16 _ _ _ _ ⟨1, (show 1 ≤ (1 : Int32).toInt ∧ (1 : Int32).toInt ≤ 3 from by decide), rfl, hP, hD, hS, hl⟩
                    · have t_119 : ¬ (iT_next_50.toInt - iT_next_1.toInt) ≤ 8 := toI_nle c_119 (iI_t (Int.le_trans (by decide) (Int.sub_le_sub (b_iT_next_50.1) (b_iT_next_1.2))) (Int.le_trans (Int.sub_le_sub (b_iT_next_50.2) (b_iT_next_1.1)) (by decide))) (by decide : (8 : Int32).toInt = 8)
                      refine lv_iconst (v := 3) hx hb dX9_advance_122 (by decide) ?_
                      refine lv_goto (tgt := 127) hx hb dX9_advance_123 (by decide) ?_
                      have hl : lv_has _ _ ([(1, .int k0_j9), (0, .ref (hT 0))]) := lv_sub hl [0, 1] rfl
                      exact join16 _ _ _ _ ⟨3, (show 1 ≤ (3 : Int32).toInt ∧ (3 : Int32).toInt ≤ 3 from by decide), rfl, hP, hD, hS, hl⟩
                  · rintro H locs ls stk ⟨k0_j16, b_k0_j16, rfl, hP, hD, hS, hl⟩
                    refine va_put (D := (dC, dI)) (ci := 9) (v := .int k0_j16) (ty := .int) (C := RX9) (T := TX9) (N := 9) hx hb hts iwsMX9_advance_in9 tyX9 tyX9_ok nmX9 hown hK hP hD hS 0 rfl rfl 4 (by decide) (hts (.fieldLink RX9 37 "OptimaWorks$Words" "kind" "I") (by decide +kernel)) (fun _ h9 => h9) rfl (by decide +kernel) rfl rfl (Nat.le_of_ble_eq_true rfl) dX9_advance_127 (fun H locs hP hD hS => ?_)
                    have hP : va_P (dC, dI) vwCl (WT hT aT kT fT_tape dT_tape nT_tape iT_length iT_fault iT_place k0_j16 iT_next_1 iT_number jT_name_50 iT_next_50) H := hP
                    have hD : va_D A (WT hT aT kT fT_tape dT_tape nT_tape iT_length iT_fault iT_place k0_j16 iT_next_1 iT_number jT_name_50 iT_next_50) := hD
                    refine lv_goto (tgt := 157) hx hb dX9_advance_130 (by decide) ?_
                    have hl : lv_has _ _ ([(1, .int k0_j9), (0, .ref (hT 0))]) := lv_sub hl [0, 1] rfl
                    exact join13 _ _ _ _ ⟨k0_j16, iT_number, jT_name_50, iT_next_50, (b_iT_number), (b_iT_next_50), (show iT_next_1.toInt ≤ iT_next_50.toInt from by first | assumption | omega | (rw [iI_t (by omega) (by omega)]; omega)), (show iT_next_50.toInt ≤ iT_length.toInt from by first | assumption | omega | (rw [iI_t (by omega) (by omega)]; omega)), (show (k0_j16.toInt = 44 ∨ k0_j16.toInt = 61) → iT_next_1.toInt < iT_next_50.toInt from by first | (intro h9; omega) | (intro h9; rcases h9 with h9 | h9 <;> exact absurd h9 (by decide))), rfl, hP, hD, hS, hl⟩
      · have t_43 : k0_j9.toInt = (-1) := toI_nne c_43 rfl (by decide : ((-1) : Int32).toInt = (-1))
        refine lv_aload_n hx hb dX9_advance_46 rfl (lv_at hl 1 rfl) ?_
        refine lv_iconst (v := 0) hx hb dX9_advance_47 (by decide) ?_
        refine va_put (D := (dC, dI)) (ci := 9) (v := .int 0) (ty := .int) (C := RX9) (T := TX9) (N := 9) hx hb hts iwsMX9_advance_in9 tyX9 tyX9_ok nmX9 hown hK hP hD hS 0 rfl rfl 4 (by decide) (hts (.fieldLink RX9 37 "OptimaWorks$Words" "kind" "I") (by decide +kernel)) (fun _ h9 => h9) rfl (by decide +kernel) rfl rfl (Nat.le_of_ble_eq_true rfl) dX9_advance_48 (fun H locs hP hD hS => ?_)
        have hP : va_P (dC, dI) vwCl (WT hT aT kT fT_tape dT_tape nT_tape iT_length iT_fault iT_place 0 iT_next_1 iT_number jT_name iT_next_1) H := hP
        have hD : va_D A (WT hT aT kT fT_tape dT_tape nT_tape iT_length iT_fault iT_place 0 iT_next_1 iT_number jT_name iT_next_1) := hD
        refine lv_goto (tgt := 157) hx hb dX9_advance_51 (by decide) ?_
        have hl : lv_has _ _ ([(1, .int k0_j9), (0, .ref (hT 0))]) := lv_sub hl [0, 1] rfl
        exact join13 _ _ _ _ ⟨0, iT_number, jT_name, iT_next_1, (b_iT_number), (b_iT_next_1), (show iT_next_1.toInt ≤ iT_next_1.toInt from by first | assumption | omega | (rw [iI_t (by omega) (by omega)]; omega)), (show iT_next_1.toInt ≤ iT_length.toInt from by first | assumption | omega | (rw [iI_t (by omega) (by omega)]; omega)), (show ((0 : Int32).toInt = 44 ∨ (0 : Int32).toInt = 61) → iT_next_1.toInt < iT_next_1.toInt from by first | (intro h9; omega) | (intro h9; rcases h9 with h9 | h9 <;> exact absurd h9 (by decide))), rfl, hP, hD, hS, hl⟩
    · rintro H locs ls stk ⟨iT_kind_j13, iT_number_j13, jT_name_j13, iT_next_j13, b_iT_number_j13, b_iT_next_j13, hq1, hq2, hq3, rfl, hP, hD, hS, hl⟩
      refine W.widen (k := 0) (n := 0) (by decide +kernel) (by decide +kernel) ?_
      exact W.vret hx hb hr (fun t9_ ht hW => ⟨⟨(iT_kind_j13, iT_next_1, iT_number_j13, jT_name_j13, iT_next_j13), rfl, ⟨(by (try dsimp only); exact (b_iT_next_1)), (by (try dsimp only); exact (by first | exact b_iT_number_j13 | with_reducible assumption | exact ⟨by omega, by omega⟩ | assumption)), (by (try dsimp only); exact (by first | exact b_iT_next_j13 | with_reducible assumption | exact ⟨by omega, by omega⟩ | assumption)), (by (try dsimp only); omega), (by (try dsimp only); first | assumption | omega | (rw [iI_t (by omega) (by omega)]; omega)), (by (try dsimp only); first | assumption | omega | (rw [iI_t (by omega) (by omega)]; omega)), (by (try dsimp only); first | (intro h9; omega) | (intro h9; rcases h9 with h9 | h9 <;> exact absurd h9 (by decide)))⟩, by rw [ht]; exact hP, hD⟩, hS.F ht⟩) hS.2.2 dX9_advance_157
theorem dX9_begin_0 : decode cX9_begin 0 = .ok (.aload_n 0, 1) := dk_42 (by decide +kernel)
theorem dX9_begin_1 : decode cX9_begin 1 = .ok (.iconst 0, 1) := dk_3 (by decide +kernel)
theorem dX9_begin_2 : decode cX9_begin 2 = .ok (.putfield 28, 3) := dk_181 (by decide +kernel)
theorem dX9_begin_5 : decode cX9_begin 5 = .ok (.aload_n 0, 1) := dk_42 (by decide +kernel)
theorem dX9_begin_6 : decode cX9_begin 6 = .ok (.iconst (-1), 1) := dk_2 (by decide +kernel)
theorem dX9_begin_7 : decode cX9_begin 7 = .ok (.putfield 15, 3) := dk_181 (by decide +kernel)
theorem dX9_begin_10 : decode cX9_begin 10 = .ok (.aload_n 0, 1) := dk_42 (by decide +kernel)
theorem dX9_begin_11 : decode cX9_begin 11 = .ok (.iconst 0, 1) := dk_3 (by decide +kernel)
theorem dX9_begin_12 : decode cX9_begin 12 = .ok (.putfield 40, 3) := dk_181 (by decide +kernel)
theorem dX9_begin_15 : decode cX9_begin 15 = .ok (.aload_n 0, 1) := dk_42 (by decide +kernel)
theorem dX9_begin_16 : decode cX9_begin 16 = .ok (.invokevirtual 43, 3) := dk_182 (by decide +kernel)
theorem dX9_begin_19 : decode cX9_begin 19 = .ok (.return_, 1) := dk_177 (by decide +kernel)
def wsMX9_begin : List Cond := .code yX9_begin cX9_begin 1 none :: ([.fieldLink RX9 28 "OptimaWorks$Words" "fault" "I", .fieldLink RX9 15 "OptimaWorks$Words" "place" "I", .fieldLink RX9 40 "OptimaWorks$Words" "next" "I"] ++ wsX90 ++ (wsV RX9 43 RX9 yX9_advance wsMX9_advance))
theorem iwsMX9_begin_in9 : ∀ w ∈ wsX90, w ∈ wsMX9_begin := fun _ h => List.mem_cons_of_mem _ (List.mem_append_left _ (List.mem_append_right _ h))
theorem gwsMX9_begin_0 : GoodIn wsMX9_begin (wsV RX9 43 RX9 yX9_advance wsMX9_advance) := goodIn_sub (fun _ h => List.mem_cons_of_mem _ (List.mem_append_right _ h)) (gdV (by decide +kernel) gdwsMX9_advance)
theorem gdwsMX9_begin : wsMX9_begin.all goodWord = true := gdC rfl (gdA (gdA (by decide +kernel : ([.fieldLink RX9 28 "OptimaWorks$Words" "fault" "I", .fieldLink RX9 15 "OptimaWorks$Words" "place" "I", .fieldLink RX9 40 "OptimaWorks$Words" "next" "I"] : List Cond).all goodWord = true) gdwsX90) (gdV (by decide +kernel) gdwsMX9_advance))
set_option maxHeartbeats 4000000 in
set_option maxRecDepth 100000 in
/-- reading begins -/
theorem m_X9_begin (l : Launch) (hst : l.stackTraces = false) (dC : Nat → ClassId) (dI : Nat → Nat → Nat) (hT : Nat → Nat) (aT : Nat → Nat) (kT : Nat → ClassId) (fT_tape : Nat → Int32) (dT_tape : Nat) (nT_tape : Nat) (iT_length : Int32) (iT_fault : Int32) (iT_place : Int32) (iT_kind : Int32) (iT_at : Int32) (iT_number : Int32) (jT_name : Int64) (iT_next : Int32) (b_fT_tape : ∀ q : Nat, (-128) ≤ (fT_tape q).toInt ∧ (fT_tape q).toInt ≤ 127) (b_nT_tape : 64 ≤ nT_tape ∧ nT_tape ≤ 2560) (b_iT_length : 0 ≤ iT_length.toInt ∧ iT_length.toInt ≤ 1280) (b_iT_at : 0 ≤ iT_at.toInt ∧ iT_at.toInt ≤ 1282) (b_iT_number : 0 ≤ iT_number.toInt ∧ iT_number.toInt ≤ 999999) (b_iT_next : 0 ≤ iT_next.toInt ∧ iT_next.toInt ≤ 1282) (b_len : iT_length.toInt ≤ ((nT_tape : Nat) : Int)) (sz : Nat) : Met l yX9_begin wsMX9_begin ({ frames := 6, cells := 0, slots := 0, locals := 134 }) (va_Pc [.ref (hT 0)] (fun U => U.heap.size = sz ∧ va_P (dC, dI) vwCl (WT hT aT kT fT_tape dT_tape nT_tape iT_length iT_fault iT_place iT_kind iT_at iT_number jT_name iT_next) U.heap ∧ va_K (dC, dI) vwCl (tT kT) U ∧ va_D (fun _ => True) (WT hT aT kT fT_tape dT_tape nT_tape iT_length iT_fault iT_place iT_kind iT_at iT_number jT_name iT_next) ∧ CE (va_A (WT hT aT kT fT_tape dT_tape nT_tape iT_length iT_fault iT_place iT_kind iT_at iT_number jT_name iT_next) sz) U U.heap)) (va_Qv (fun (u : (Int32) × (Int32) × (Int32) × (Int32) × (Int32) × (Int64) × (Int32)) => (0 ≤ (u.2.2.2.1).toInt ∧ (u.2.2.2.1).toInt ≤ 1282) ∧ (0 ≤ (u.2.2.2.2.1).toInt ∧ (u.2.2.2.2.1).toInt ≤ 999999) ∧ (0 ≤ (u.2.2.2.2.2.2).toInt ∧ (u.2.2.2.2.2.2).toInt ≤ 1282) ∧ ((u.2.2.2.1).toInt ≤ (u.2.2.2.2.2.2).toInt) ∧ ((u.2.2.2.2.2.2).toInt ≤ iT_length.toInt) ∧ (((u.2.2.1).toInt = 44 ∨ (u.2.2.1).toInt = 61) → (u.2.2.2.1).toInt < (u.2.2.2.2.2.2).toInt)) (fun (u : (Int32) × (Int32) × (Int32) × (Int32) × (Int32) × (Int64) × (Int32)) t => va_P (dC, dI) vwCl (WT hT aT kT fT_tape dT_tape nT_tape iT_length (u.1) (u.2.1) (u.2.2.1) (u.2.2.2.1) (u.2.2.2.2.1) (u.2.2.2.2.2.1) (u.2.2.2.2.2.2)) t.heap ∧ va_D (va_A (WT hT aT kT fT_tape dT_tape nT_tape iT_length iT_fault iT_place iT_kind iT_at iT_number jT_name iT_next) sz) (WT hT aT kT fT_tape dT_tape nT_tape iT_length (u.1) (u.2.1) (u.2.2.1) (u.2.2.2.1) (u.2.2.2.2.1) (u.2.2.2.2.2.1) (u.2.2.2.2.2.2))) (va_A (WT hT aT kT fT_tape dT_tape nT_tape iT_length iT_fault iT_place iT_kind iT_at iT_number jT_name iT_next) sz)) 0 0 (va_A (WT hT aT kT fT_tape dT_tape nT_tape iT_length iT_fault iT_place iT_kind iT_at iT_number jT_name iT_next) sz) := by
  refine Met.ofW (cc := cX9_begin) (maxL := 1) (ret := none) (by decide) rfl ?_
  intro p e s m args below meth c s₁ B hml hv
  obtain ⟨rfl, hsz, hP, hK, hD0, hE⟩ := hv
  have hx := B.exec
  have hb := B.bytes
  have hr := B.returns
  have hts := atoms_spec (ws := wsMX9_begin) B.pre
  have hown : s.vm.findClass RX9 = some m.cls := findClass_of_methodNamed B.named
  have hlocks := B.notSynchronized
  subst hsz
  have hD := hD0.self (sz := s.heap.size)
  generalize hAe : va_A (WT hT aT kT fT_tape dT_tape nT_tape iT_length iT_fault iT_place iT_kind iT_at iT_number jT_name iT_next) s.heap.size = A at hD hE ⊢
  have hA : ∀ q : Nat, s.heap.size ≤ q → A q := fun q h => by rw [← hAe]; exact Or.inr h
  have hS : va_S A s.heap s.heap [] := va_S.rf
  have hl := lv_entry ([.ref (hT 0)]) (n := 1) (Nat.le_of_ble_eq_true rfl)
  rw [lg_entry_eq]
  generalize (lg_sl ([.ref (hT 0)]) ++ List.replicate (1 - (lg_sl ([.ref (hT 0)])).length) Slot.unset).toArray = ls at hl ⊢
  have hl : lv_has ls 1 [(0, .ref (hT 0))] := hl
  refine lv_aload_n hx hb dX9_begin_0 rfl (lv_at hl 0 rfl) ?_
  refine lv_iconst (v := 0) hx hb dX9_begin_1 (by decide) ?_
  refine va_put (D := (dC, dI)) (ci := 9) (v := .int 0) (ty := .int) (C := RX9) (T := TX9) (N := 9) hx hb hts iwsMX9_begin_in9 tyX9 tyX9_ok nmX9 hown hK hP hD hS 0 rfl rfl 2 (by decide) (hts (.fieldLink RX9 28 "OptimaWorks$Words" "fault" "I") (by decide +kernel)) (fun _ h9 => h9) rfl (by decide +kernel) rfl rfl (Nat.le_of_ble_eq_true rfl) dX9_begin_2 (fun H locs hP hD hS => ?_)
  have hP : va_P (dC, dI) vwCl (WT hT aT kT fT_tape dT_tape nT_tape iT_length 0 iT_place iT_kind iT_at iT_number jT_name iT_next) H := hP
  have hD : va_D A (WT hT aT kT fT_tape dT_tape nT_tape iT_length 0 iT_place iT_kind iT_at iT_number jT_name iT_next) := hD
  refine lv_aload_n hx hb dX9_begin_5 rfl (lv_at hl 0 rfl) ?_
  refine lv_iconst (v := (-1)) hx hb dX9_begin_6 (by decide) ?_
  refine va_put (D := (dC, dI)) (ci := 9) (v := .int (-1)) (ty := .int) (C := RX9) (T := TX9) (N := 9) hx hb hts iwsMX9_begin_in9 tyX9 tyX9_ok nmX9 hown hK hP hD hS 0 rfl rfl 3 (by decide) (hts (.fieldLink RX9 15 "OptimaWorks$Words" "place" "I") (by decide +kernel)) (fun _ h9 => h9) rfl (by decide +kernel) rfl rfl (Nat.le_of_ble_eq_true rfl) dX9_begin_7 (fun H locs hP hD hS => ?_)
  have hP : va_P (dC, dI) vwCl (WT hT aT kT fT_tape dT_tape nT_tape iT_length 0 (-1) iT_kind iT_at iT_number jT_name iT_next) H := hP
  have hD : va_D A (WT hT aT kT fT_tape dT_tape nT_tape iT_length 0 (-1) iT_kind iT_at iT_number jT_name iT_next) := hD
  refine lv_aload_n hx hb dX9_begin_10 rfl (lv_at hl 0 rfl) ?_
  refine lv_iconst (v := 0) hx hb dX9_begin_11 (by decide) ?_
  refine va_put (D := (dC, dI)) (ci := 9) (v := .int 0) (ty := .int) (C := RX9) (T := TX9) (N := 9) hx hb hts iwsMX9_begin_in9 tyX9 tyX9_ok nmX9 hown hK hP hD hS 0 rfl rfl 8 (by decide) (hts (.fieldLink RX9 40 "OptimaWorks$Words" "next" "I") (by decide +kernel)) (fun _ h9 => h9) rfl (by decide +kernel) rfl rfl (Nat.le_of_ble_eq_true rfl) dX9_begin_12 (fun H locs hP hD hS => ?_)
  have hP : va_P (dC, dI) vwCl (WT hT aT kT fT_tape dT_tape nT_tape iT_length 0 (-1) iT_kind iT_at iT_number jT_name 0) H := hP
  have hD : va_D A (WT hT aT kT fT_tape dT_tape nT_tape iT_length 0 (-1) iT_kind iT_at iT_number jT_name 0) := hD
  refine lv_aload_n hx hb dX9_begin_15 rfl (lv_at hl 0 rfl) ?_
  have hFc := allFree hD hS hA
  refine va_callv (va_runV (As := []) (rest := []) ⟨hx, hb, hml, hown, hts⟩ (m_X9_advance l hst dC dI hT aT kT fT_tape dT_tape nT_tape iT_length 0 (-1) iT_kind iT_at iT_number jT_name 0 b_fT_tape (by first | exact b_nT_tape | with_reducible assumption | exact ⟨by omega, by omega⟩ | assumption) (b_iT_length) (b_iT_at) (b_iT_number) (show 0 ≤ (0 : Int32).toInt ∧ (0 : Int32).toInt ≤ 1282 from by decide) (by first | with_reducible assumption | omega | assumption) (by first | omega | (have h8 : (0 : Int32).toInt = 0 := (by decide); omega)) H.size) (cwV 0 hts gwsMX9_begin_0 rfl rfl rfl hd_yX9_advance_RX9 (by decide +kernel)) (fz_preE (va_recv hK hP (ci := 9) (q0 := 0) rfl rfl) hP hK hD (fun a U g mk qE => qE.call) (fun U hU9 hW => by rw [hU9]; exact (((hE : CE A s s.heap).kept hS.2.1).narrow (fun q h => hFc q h)).warm hW)) rfl rfl hl.1 rfl (lv_room (Nat.le_of_ble_eq_true rfl)) dX9_begin_16 (by decide +kernel)) hS (fun q _ h => hFc q h) hFc (fun u t9_ H locs ht hvm hw9 hB9 hz1 hk1 hS => ?_)
  revert u hw9 hB9
  refine fz_p5 ?_
  intro iT_kind_1 iT_at_1 iT_number_1 jT_name_1 iT_next_1 hw9 hB9
  try dsimp only at hw9 hB9
  revert hw9
  refine fz_a7 ?_
  intro b_iT_at_1 b_iT_number_1 b_iT_next_1 f1_0 f1_1 f1_2 f1_3
  have hP : va_P (dC, dI) vwCl (WT hT aT kT fT_tape dT_tape nT_tape iT_length 0 (-1) iT_kind_1 iT_at_1 iT_number_1 jT_name_1 iT_next_1) H := fz_P ht hB9.1
  have hD : va_D A (WT hT aT kT fT_tape dT_tape nT_tape iT_length 0 (-1) iT_kind_1 iT_at_1 iT_number_1 jT_name_1 iT_next_1) := hB9.2.weaken (fun _ q _ h => hFc q.1 h)
  refine W.widen (k := 0) (n := 0) (by decide +kernel) (by decide +kernel) ?_
  exact W.vret hx hb hr (fun t9_ ht hW => ⟨⟨(0, (-1), iT_kind_1, iT_at_1, iT_number_1, jT_name_1, iT_next_1), rfl, ⟨(by (try dsimp only); exact (b_iT_at_1)), (by (try dsimp only); exact (b_iT_number_1)), (by (try dsimp only); exact (b_iT_next_1)), (by (try dsimp only); first | assumption | omega | (rw [iI_t (by omega) (by omega)]; omega)), (by (try dsimp only); first | assumption | omega | (rw [iI_t (by omega) (by omega)]; omega)), (by (try dsimp only); first | (intro h9; omega) | (intro h9; rcases h9 with h9 | h9 <;> exact absurd h9 (by decide)))⟩, by rw [ht]; exact hP, hD⟩, hS.F ht⟩) hS.2.2 dX9_begin_19
theorem dX9_take_0 : decode cX9_take 0 = .ok (.aload_n 0, 1) := dk_42 (by decide +kernel)
theorem dX9_take_1 : decode cX9_take 1 = .ok (.getfield 37, 3) := dk_180 (by decide +kernel)
theorem dX9_take_4 : decode cX9_take 4 = .ok (.iload_n 1, 1) := dk_27 (by decide +kernel)
theorem dX9_take_5 : decode cX9_take 5 = .ok (.if_icmp .eq 7, 3) := dk_159 (by decide +kernel)
theorem dX9_take_8 : decode cX9_take 8 = .ok (.aload_n 0, 1) := dk_42 (by decide +kernel)
theorem dX9_take_9 : decode cX9_take 9 = .ok (.invokevirtual 63, 3) := dk_182 (by decide +kernel)
theorem dX9_take_12 : decode cX9_take 12 = .ok (.aload_n 0, 1) := dk_42 (by decide +kernel)
theorem dX9_take_13 : decode cX9_take 13 = .ok (.invokevirtual 43, 3) := dk_182 (by decide +kernel)
theorem dX9_take_16 : decode cX9_take 16 = .ok (.return_, 1) := dk_177 (by decide +kernel)
def wsMX9_take : List Cond := .code yX9_take cX9_take 2 none :: ([.fieldLink RX9 37 "OptimaWorks$Words" "kind" "I"] ++ wsX90 ++ (wsV RX9 63 RX9 yX9_failWord wsMX9_failWord) ++ (wsV RX9 43 RX9 yX9_advance wsMX9_advance))
theorem iwsMX9_take_in9 : ∀ w ∈ wsX90, w ∈ wsMX9_take := fun _ h => List.mem_cons_of_mem _ (List.mem_append_left _ (List.mem_append_left _ (List.mem_append_right _ h)))
theorem gwsMX9_take_0 : GoodIn wsMX9_take (wsV RX9 63 RX9 yX9_failWord wsMX9_failWord) := goodIn_sub (fun _ h => List.mem_cons_of_mem _ (List.mem_append_left _ (List.mem_append_right _ h))) (gdV (by decide +kernel) gdwsMX9_failWord)
theorem gwsMX9_take_1 : GoodIn wsMX9_take (wsV RX9 43 RX9 yX9_advance wsMX9_advance) := goodIn_sub (fun _ h => List.mem_cons_of_mem _ (List.mem_append_right _ h)) (gdV (by decide +kernel) gdwsMX9_advance)
theorem gdwsMX9_take : wsMX9_take.all goodWord = true := gdC rfl (gdA (gdA (gdA (by decide +kernel : ([.fieldLink RX9 37 "OptimaWorks$Words" "kind" "I"] : List Cond).all goodWord = true) gdwsX90) (gdV (by decide +kernel) gdwsMX9_failWord)) (gdV (by decide +kernel) gdwsMX9_advance))
set_option maxHeartbeats 4000000 in
set_option maxRecDepth 100000 in
/-- a word is taken -/
theorem m_X9_take (l : Launch) (hst : l.stackTraces = false) (dC : Nat → ClassId) (dI : Nat → Nat → Nat) (hT : Nat → Nat) (aT : Nat → Nat) (kT : Nat → ClassId) (fT_tape : Nat → Int32) (dT_tape : Nat) (nT_tape : Nat) (iT_length : Int32) (iT_fault : Int32) (iT_place : Int32) (iT_kind : Int32) (iT_at : Int32) (iT_number : Int32) (jT_name : Int64) (iT_next : Int32) (p1 : Int32) (b_fT_tape : ∀ q : Nat, (-128) ≤ (fT_tape q).toInt ∧ (fT_tape q).toInt ≤ 127) (b_nT_tape : 64 ≤ nT_tape ∧ nT_tape ≤ 2560) (b_iT_length : 0 ≤ iT_length.toInt ∧ iT_length.toInt ≤ 1280) (b_iT_at : 0 ≤ iT_at.toInt ∧ iT_at.toInt ≤ 1282) (b_iT_number : 0 ≤ iT_number.toInt ∧ iT_number.toInt ≤ 999999) (b_iT_next : 0 ≤ iT_next.toInt ∧ iT_next.toInt ≤ 1282) (b_len : iT_length.toInt ≤ ((nT_tape : Nat) : Int)) (hp1 : iT_at.toInt ≤ iT_next.toInt) (hp2 : iT_next.toInt ≤ iT_length.toInt) (hp3 : (iT_kind.toInt = 44 ∨ iT_kind.toInt = 61) → iT_at.toInt < iT_next.toInt) (sz : Nat) : vx_Met l yX9_take wsMX9_take ({ frames := 7, cells := 1, slots := 6, locals := 134 }) (va_Pc [.ref (hT 0), .int p1] (fun U => U.heap.size = sz ∧ va_P (dC, dI) vwCl (WT hT aT kT fT_tape dT_tape nT_tape iT_length iT_fault iT_place iT_kind iT_at iT_number jT_name iT_next) U.heap ∧ va_K (dC, dI) vwCl (tT kT) U ∧ va_D (fun _ => True) (WT hT aT kT fT_tape dT_tape nT_tape iT_length iT_fault iT_place iT_kind iT_at iT_number jT_name iT_next) ∧ CE (va_A (WT hT aT kT fT_tape dT_tape nT_tape iT_length iT_fault iT_place iT_kind iT_at iT_number jT_name iT_next) sz) U U.heap)) (va_Qv (fun (u : (Int32) × (Int32) × (Int32) × (Int32) × (Int32) × (Int64) × (Int32)) => (0 ≤ (u.2.2.2.1).toInt ∧ (u.2.2.2.1).toInt ≤ 1282) ∧ (0 ≤ (u.2.2.2.2.1).toInt ∧ (u.2.2.2.2.1).toInt ≤ 999999) ∧ (0 ≤ (u.2.2.2.2.2.2).toInt ∧ (u.2.2.2.2.2.2).toInt ≤ 1282) ∧ (iT_at.toInt ≤ (u.2.2.2.1).toInt) ∧ ((p1.toInt = 44 ∨ p1.toInt = 61) → iT_at.toInt < (u.2.2.2.1).toInt) ∧ ((u.2.2.2.1).toInt ≤ (u.2.2.2.2.2.2).toInt) ∧ ((u.2.2.2.2.2.2).toInt ≤ iT_length.toInt) ∧ (((u.2.2.1).toInt = 44 ∨ (u.2.2.1).toInt = 61) → (u.2.2.2.1).toInt < (u.2.2.2.2.2.2).toInt)) (fun (u : (Int32) × (Int32) × (Int32) × (Int32) × (Int32) × (Int64) × (Int32)) t => va_P (dC, dI) vwCl (WT hT aT kT fT_tape dT_tape nT_tape iT_length (u.1) (u.2.1) (u.2.2.1) (u.2.2.2.1) (u.2.2.2.2.1) (u.2.2.2.2.2.1) (u.2.2.2.2.2.2)) t.heap ∧ va_D (va_A (WT hT aT kT fT_tape dT_tape nT_tape iT_length iT_fault iT_place iT_kind iT_at iT_number jT_name iT_next) sz) (WT hT aT kT fT_tape dT_tape nT_tape iT_length (u.1) (u.2.1) (u.2.2.1) (u.2.2.2.1) (u.2.2.2.2.1) (u.2.2.2.2.2.1) (u.2.2.2.2.2.2)) ∧ t.heap.size = sz) (va_A (WT hT aT kT fT_tape dT_tape nT_tape iT_length iT_fault iT_place iT_kind iT_at iT_number jT_name iT_next) sz)) (vx_X (fun (u : (Int32) × (Int32) × (Int32) × (Int32) × (Int32) × (Int64) × (Int32)) => (0 ≤ (u.2.2.2.1).toInt ∧ (u.2.2.2.1).toInt ≤ 1282) ∧ (0 ≤ (u.2.2.2.2.1).toInt ∧ (u.2.2.2.2.1).toInt ≤ 999999) ∧ (0 ≤ (u.2.2.2.2.2.2).toInt ∧ (u.2.2.2.2.2.2).toInt ≤ 1282)) (fun E (u : (Int32) × (Int32) × (Int32) × (Int32) × (Int32) × (Int64) × (Int32)) t => (E = "java/lang/IllegalArgumentException") ∧ va_P (dC, dI) vwCl (WT hT aT kT fT_tape dT_tape nT_tape iT_length (u.1) (u.2.1) (u.2.2.1) (u.2.2.2.1) (u.2.2.2.2.1) (u.2.2.2.2.2.1) (u.2.2.2.2.2.2)) t.heap ∧ va_D (va_A (WT hT aT kT fT_tape dT_tape nT_tape iT_length iT_fault iT_place iT_kind iT_at iT_number jT_name iT_next) sz) (WT hT aT kT fT_tape dT_tape nT_tape iT_length (u.1) (u.2.1) (u.2.2.1) (u.2.2.2.1) (u.2.2.2.2.1) (u.2.2.2.2.2.1) (u.2.2.2.2.2.2))) (va_A (WT hT aT kT fT_tape dT_tape nT_tape iT_length iT_fault iT_place iT_kind iT_at iT_number jT_name iT_next) sz)) 1 6 (va_A (WT hT aT kT fT_tape dT_tape nT_tape iT_length iT_fault iT_place iT_kind iT_at iT_number jT_name iT_next) sz) := by
  refine vx_ofW (cc := cX9_take) (maxL := 2) (ret := none) (by decide) rfl ?_
  intro p e s m args below meth c s₁ B hml htab hv
  obtain ⟨rfl, hsz, hP, hK, hD0, hE⟩ := hv
  have hx := B.exec
  have hb := B.bytes
  have hr := B.returns
  have hts := atoms_spec (ws := wsMX9_take) B.pre
  have hown : s.vm.findClass RX9 = some m.cls := findClass_of_methodNamed B.named
  have hlocks := B.notSynchronized
  subst hsz
  have hD := hD0.self (sz := s.heap.size)
  generalize hAe : va_A (WT hT aT kT fT_tape dT_tape nT_tape iT_length iT_fault iT_place iT_kind iT_at iT_number jT_name iT_next) s.heap.size = A at hD hE ⊢
  have hA : ∀ q : Nat, s.heap.size ≤ q → A q := fun q h => by rw [← hAe]; exact Or.inr h
  have hS : va_S A s.heap s.heap [] := va_S.rf
  have hl := lv_entry ([.ref (hT 0), .int p1]) (n := 2) (Nat.le_of_ble_eq_true rfl)
  rw [lg_entry_eq]
  generalize (lg_sl ([.ref (hT 0), .int p1]) ++ List.replicate (2 - (lg_sl ([.ref (hT 0), .int p1])).length) Slot.unset).toArray = ls at hl ⊢
  have hl : lv_has ls 2 [(0, .ref (hT 0)), (1, .int p1)] := hl
  refine lv_aload_n hx hb dX9_take_0 rfl (lv_at hl 0 rfl) ?_
  refine va_get (D := (dC, dI)) (ci := 9) (v := .int iT_kind) (C := RX9) (T := TX9) (N := 9) hx hb hts iwsMX9_take_in9 hown hK hP 0 rfl rfl 4 (by decide) (hts (.fieldLink RX9 37 "OptimaWorks$Words" "kind" "I") (by decide +kernel)) (fun _ h9 => h9) rfl dX9_take_1 ?_
  refine lv_iload_n hx hb dX9_take_4 rfl (lv_at hl 1 rfl) ?_
  refine lv_icmp_eq (tgt := 12) hx hb dX9_take_5 (by decide) (fun c_5 => ?_) (fun c_5 => ?_)
  · have t_5 : iT_kind.toInt = p1.toInt := toI_eq c_5 rfl rfl
    refine lv_aload_n hx hb dX9_take_12 rfl (lv_at hl 0 rfl) ?_
    have hFc := allFree hD hS hA
    refine va_callv (va_runV (As := []) (rest := []) ⟨hx, hb, hml, hown, hts⟩ (m_X9_advance l hst dC dI hT aT kT fT_tape dT_tape nT_tape iT_length iT_fault iT_place iT_kind iT_at iT_number jT_name iT_next b_fT_tape (by first | exact b_nT_tape | with_reducible assumption | exact ⟨by omega, by omega⟩ | assumption) (b_iT_length) (b_iT_at) (b_iT_number) (b_iT_next) (by first | with_reducible assumption | omega | assumption) (by omega) s.heap.size) (cwV 0 hts gwsMX9_take_1 rfl rfl rfl hd_yX9_advance_RX9 (by decide +kernel)) (fz_preE (va_recv hK hP (ci := 9) (q0 := 0) rfl rfl) hP hK hD (fun a U g mk qE => qE.call) (fun U hU9 hW => by rw [hU9]; exact (((hE : CE A s s.heap).kept hS.2.1).narrow (fun q h => hFc q h)).warm hW)) rfl rfl hl.1 rfl (lv_room (Nat.le_of_ble_eq_true rfl)) dX9_take_13 (by decide +kernel)) hS (fun q _ h => hFc q h) hFc (fun u t9_ H locs ht hvm hw9 hB9 hz1 hk1 hS => ?_)
    revert u hw9 hB9
    refine fz_p5 ?_
    intro iT_kind_2 iT_at_2 iT_number_2 jT_name_2 iT_next_2 hw9 hB9
    try dsimp only at hw9 hB9
    revert hw9
    refine fz_a7 ?_
    intro b_iT_at_2 b_iT_number_2 b_iT_next_2 f2_0 f2_1 f2_2 f2_3
    have hP : va_P (dC, dI) vwCl (WT hT aT kT fT_tape dT_tape nT_tape iT_length iT_fault iT_place iT_kind_2 iT_at_2 iT_number_2 jT_name_2 iT_next_2) H := fz_P ht hB9.1
    have hD : va_D A (WT hT aT kT fT_tape dT_tape nT_tape iT_length iT_fault iT_place iT_kind_2 iT_at_2 iT_number_2 jT_name_2 iT_next_2) := hB9.2.weaken (fun _ q _ h => hFc q.1 h)
    refine vx_ret ?_
    refine W.known (fun hz9 _ => ?_)
    refine W.widen (k := 1) (n := 6) (by decide +kernel) (by decide +kernel) ?_
    exact W.vret hx hb hr (fun t9_ ht hW => ⟨⟨(iT_fault, iT_place, iT_kind_2, iT_at_2, iT_number_2, jT_name_2, iT_next_2), rfl, ⟨(by (try dsimp only); exact (b_iT_at_2)), (by (try dsimp only); exact (b_iT_number_2)), (by (try dsimp only); exact (b_iT_next_2)), (by (try dsimp only); omega), (by (try dsimp only); intro h9; omega), (by (try dsimp only); first | assumption | omega | (rw [iI_t (by omega) (by omega)]; omega)), (by (try dsimp only); first | assumption | omega | (rw [iI_t (by omega) (by omega)]; omega)), (by (try dsimp only); first | (intro h9; omega) | (intro h9; rcases h9 with h9 | h9 <;> exact absurd h9 (by decide)))⟩, by rw [ht]; exact hP, hD, by rw [ht]; first | done | exact Nat.le_antisymm hz9 hS.1⟩, hS.F ht⟩) hS.2.2 dX9_take_16
  · have t_5 : ¬ iT_kind.toInt = p1.toInt := toI_neq c_5 rfl rfl
    refine lv_aload_n hx hb dX9_take_8 rfl (lv_at hl 0 rfl) ?_
    have hFc := allFree hD hS hA
    refine vx_callv (vx_runV (As := []) (rest := []) ⟨hx, hb, hml, hown, hts⟩ (m_X9_failWord l hst dC dI hT aT kT fT_tape dT_tape nT_tape iT_length iT_fault iT_place iT_kind iT_at iT_number jT_name iT_next b_fT_tape (by first | exact b_nT_tape | with_reducible assumption | exact ⟨by omega, by omega⟩ | assumption) (b_iT_length) (b_iT_at) (b_iT_number) (b_iT_next) (by first | with_reducible assumption | omega | assumption) s.heap.size) (cwV 0 hts gwsMX9_take_0 rfl rfl rfl hd_yX9_failWord_RX9 (by decide +kernel)) (fz_preE (va_recv hK hP (ci := 9) (q0 := 0) rfl rfl) hP hK hD (fun a U g mk qE => qE.call) (fun U hU9 hW => by rw [hU9]; exact (((hE : CE A s s.heap).kept hS.2.1).narrow (fun q h => hFc q h)).warm hW)) rfl rfl hl.1 rfl (lv_room (Nat.le_of_ble_eq_true rfl)) dX9_take_9 (by decide +kernel)) hS (fun q _ h => hFc q h) hFc (fun q _ h => hFc q h) (fun E ce q9 u t9_ H locs ht hvm hw9 hB9 hz1 hk1 hS hc1 hc2 hc3 => ?_) (fun u t9_ H1 locs ht hvm hw9 hB9 hz1 hk1 hS => ?_)
    · revert u hw9 hB9
      refine fz_p2 ?_
      intro iT_fault_3 iT_place_3 hw9 hB9
      try dsimp only at hw9 hB9
      revert hB9
      refine fz_a2 ?_
      intro hEx hB9
      clear hw9
      have hP : va_P (dC, dI) vwCl (WT hT aT kT fT_tape dT_tape nT_tape iT_length iT_fault_3 iT_place_3 iT_kind iT_at iT_number jT_name iT_next) H := fz_P ht hB9.1
      have hD : va_D A (WT hT aT kT fT_tape dT_tape nT_tape iT_length iT_fault_3 iT_place_3 iT_kind iT_at iT_number jT_name iT_next) := hB9.2.weaken (fun _ q _ h => hFc q.1 h)
      exact vx_out (fun x hx9 => (htab x hx9).elim) hlocks hc1 hc2 hc3 (fun t9_ ht hvm => ⟨(iT_fault_3, iT_place_3, iT_kind, iT_at, iT_number, jT_name, iT_next), ⟨(b_iT_at), (b_iT_number), (b_iT_next)⟩, ⟨(by have h9 := hEx; exact h9), by rw [ht]; exact hP, hD⟩, hS.F ht⟩) hS.2.2 (by decide +kernel) (by decide +kernel)
    exact False.elim hw9
end

section
theorem hd_yJ0_indexOf_0f7a4_RJ0 : yJ0_indexOf_0f7a4.cls = RJ0 ∧ yJ0_indexOf_0f7a4.cls ≠ "java/lang/invoke/MethodHandle" ∧ yJ0_indexOf_0f7a4.cls ≠ "java/lang/invoke/VarHandle" ∧ (parseMethodDescriptor yJ0_indexOf_0f7a4.desc).map (fun d => d.parameters.length) = some 1 := by decide +kernel
theorem hd_yX9_skipBlanks_RX9 : yX9_skipBlanks.cls = RX9 ∧ yX9_skipBlanks.cls ≠ "java/lang/invoke/MethodHandle" ∧ yX9_skipBlanks.cls ≠ "java/lang/invoke/VarHandle" ∧ (parseMethodDescriptor yX9_skipBlanks.desc).map (fun d => d.parameters.length) = some 0 := by decide +kernel
theorem hd_yX9_takeSign_RX9 : yX9_takeSign.cls = RX9 ∧ yX9_takeSign.cls ≠ "java/lang/invoke/MethodHandle" ∧ yX9_takeSign.cls ≠ "java/lang/invoke/VarHandle" ∧ (parseMethodDescriptor yX9_takeSign.desc).map (fun d => d.parameters.length) = some 1 := by decide +kernel
theorem hd_yX9_takeNumber_RX9 : yX9_takeNumber.cls = RX9 ∧ yX9_takeNumber.cls ≠ "java/lang/invoke/MethodHandle" ∧ yX9_takeNumber.cls ≠ "java/lang/invoke/VarHandle" ∧ (parseMethodDescriptor yX9_takeNumber.desc).map (fun d => d.parameters.length) = some 0 := by decide +kernel
theorem hd_yX9_takeName_RX9 : yX9_takeName.cls = RX9 ∧ yX9_takeName.cls ≠ "java/lang/invoke/MethodHandle" ∧ yX9_takeName.cls ≠ "java/lang/invoke/VarHandle" ∧ (parseMethodDescriptor yX9_takeName.desc).map (fun d => d.parameters.length) = some 0 := by decide +kernel
theorem hd_yX9_keywordOf_RX9 : yX9_keywordOf.cls = RX9 ∧ yX9_keywordOf.cls ≠ "java/lang/invoke/MethodHandle" ∧ yX9_keywordOf.cls ≠ "java/lang/invoke/VarHandle" ∧ (parseMethodDescriptor yX9_keywordOf.desc).map (fun d => d.parameters.length) = some 1 := by decide +kernel
theorem hd_yX9_advance_RX9 : yX9_advance.cls = RX9 ∧ yX9_advance.cls ≠ "java/lang/invoke/MethodHandle" ∧ yX9_advance.cls ≠ "java/lang/invoke/VarHandle" ∧ (parseMethodDescriptor yX9_advance.desc).map (fun d => d.parameters.length) = some 0 := by decide +kernel
theorem hd_yX9_failWord_RX9 : yX9_failWord.cls = RX9 ∧ yX9_failWord.cls ≠ "java/lang/invoke/MethodHandle" ∧ yX9_failWord.cls ≠ "java/lang/invoke/VarHandle" ∧ (parseMethodDescriptor yX9_failWord.desc).map (fun d => d.parameters.length) = some 0 := by decide +kernel
theorem dX9_keywordOf_0 : decode cX9_keywordOf 0 = .ok (.sipush 256, 3) := dk_17 (by decide +kernel)
theorem dX9_keywordOf_3 : decode cX9_keywordOf 3 = .ok (.istore_n 2, 1) := dk_61 (by decide +kernel)
theorem dX9_keywordOf_4 : decode cX9_keywordOf 4 = .ok (.iconst 0, 1) := dk_3 (by decide +kernel)
theorem dX9_keywordOf_5 : decode cX9_keywordOf 5 = .ok (.istore_n 3, 1) := dk_62 (by decide +kernel)
theorem dX9_keywordOf_6 : decode cX9_keywordOf 6 = .ok (.iconst 1, 1) := dk_4 (by decide +kernel)
theorem dX9_keywordOf_7 : decode cX9_keywordOf 7 = .ok (.istore 4, 2) := dk_54 (by decide +kernel)
theorem dX9_keywordOf_9 : decode cX9_keywordOf 9 = .ok (.iconst 0, 1) := dk_3 (by decide +kernel)
theorem dX9_keywordOf_10 : decode cX9_keywordOf 10 = .ok (.istore 5, 2) := dk_54 (by decide +kernel)
theorem dX9_keywordOf_12 : decode cX9_keywordOf 12 = .ok (.iload 5, 2) := dk_21 (by decide +kernel)
theorem dX9_keywordOf_14 : decode cX9_keywordOf 14 = .ok (.ldc 70, 2) := dk_18 (by decide +kernel)
theorem dX9_keywordOf_16 : decode cX9_keywordOf 16 = .ok (.invokevirtual 72, 3) := dk_182 (by decide +kernel)
theorem dX9_keywordOf_19 : decode cX9_keywordOf 19 = .ok (.if_icmp .ge 84, 3) := dk_162 (by decide +kernel)
theorem dX9_keywordOf_22 : decode cX9_keywordOf 22 = .ok (.ldc 70, 2) := dk_18 (by decide +kernel)
theorem dX9_keywordOf_24 : decode cX9_keywordOf 24 = .ok (.iload 5, 2) := dk_21 (by decide +kernel)
theorem dX9_keywordOf_26 : decode cX9_keywordOf 26 = .ok (.invokevirtual 77, 3) := dk_182 (by decide +kernel)
theorem dX9_keywordOf_29 : decode cX9_keywordOf 29 = .ok (.istore 6, 2) := dk_54 (by decide +kernel)
theorem dX9_keywordOf_31 : decode cX9_keywordOf 31 = .ok (.iload 6, 2) := dk_21 (by decide +kernel)
theorem dX9_keywordOf_33 : decode cX9_keywordOf 33 = .ok (.bipush 32, 2) := dk_16 (by decide +kernel)
theorem dX9_keywordOf_35 : decode cX9_keywordOf 35 = .ok (.if_icmp .eq 42, 3) := dk_159 (by decide +kernel)
theorem dX9_keywordOf_38 : decode cX9_keywordOf 38 = .ok (.iload 4, 2) := dk_21 (by decide +kernel)
theorem dX9_keywordOf_40 : decode cX9_keywordOf 40 = .ok (.ifCond .eq 28, 3) := dk_153 (by decide +kernel)
theorem dX9_keywordOf_43 : decode cX9_keywordOf 43 = .ok (.iload_n 3, 1) := dk_29 (by decide +kernel)
theorem dX9_keywordOf_44 : decode cX9_keywordOf 44 = .ok (.iload_n 1, 1) := dk_27 (by decide +kernel)
theorem dX9_keywordOf_45 : decode cX9_keywordOf 45 = .ok (.if_icmp .ge 23, 3) := dk_162 (by decide +kernel)
theorem dX9_keywordOf_48 : decode cX9_keywordOf 48 = .ok (.aload_n 0, 1) := dk_42 (by decide +kernel)
theorem dX9_keywordOf_49 : decode cX9_keywordOf 49 = .ok (.getfield 9, 3) := dk_180 (by decide +kernel)
theorem dX9_keywordOf_52 : decode cX9_keywordOf 52 = .ok (.aload_n 0, 1) := dk_42 (by decide +kernel)
theorem dX9_keywordOf_53 : decode cX9_keywordOf 53 = .ok (.getfield 34, 3) := dk_180 (by decide +kernel)
theorem dX9_keywordOf_56 : decode cX9_keywordOf 56 = .ok (.iload_n 3, 1) := dk_29 (by decide +kernel)
theorem dX9_keywordOf_57 : decode cX9_keywordOf 57 = .ok (.iadd, 1) := dk_96 (by decide +kernel)
theorem dX9_keywordOf_58 : decode cX9_keywordOf 58 = .ok (.baload, 1) := dk_51 (by decide +kernel)
theorem dX9_keywordOf_59 : decode cX9_keywordOf 59 = .ok (.iload 6, 2) := dk_21 (by decide +kernel)
theorem dX9_keywordOf_61 : decode cX9_keywordOf 61 = .ok (.if_icmp .ne 7, 3) := dk_160 (by decide +kernel)
theorem dX9_keywordOf_64 : decode cX9_keywordOf 64 = .ok (.iconst 1, 1) := dk_4 (by decide +kernel)
theorem dX9_keywordOf_65 : decode cX9_keywordOf 65 = .ok (.goto 4, 3) := dk_167 (by decide +kernel)
theorem dX9_keywordOf_68 : decode cX9_keywordOf 68 = .ok (.iconst 0, 1) := dk_3 (by decide +kernel)
theorem dX9_keywordOf_69 : decode cX9_keywordOf 69 = .ok (.istore 4, 2) := dk_54 (by decide +kernel)
theorem dX9_keywordOf_71 : decode cX9_keywordOf 71 = .ok (.iinc 3 1, 3) := dk_132 (by decide +kernel)
theorem dX9_keywordOf_74 : decode cX9_keywordOf 74 = .ok (.goto 23, 3) := dk_167 (by decide +kernel)
theorem dX9_keywordOf_77 : decode cX9_keywordOf 77 = .ok (.iload 4, 2) := dk_21 (by decide +kernel)
theorem dX9_keywordOf_79 : decode cX9_keywordOf 79 = .ok (.ifCond .eq 10, 3) := dk_153 (by decide +kernel)
theorem dX9_keywordOf_82 : decode cX9_keywordOf 82 = .ok (.iload_n 3, 1) := dk_29 (by decide +kernel)
theorem dX9_keywordOf_83 : decode cX9_keywordOf 83 = .ok (.iload_n 1, 1) := dk_27 (by decide +kernel)
theorem dX9_keywordOf_84 : decode cX9_keywordOf 84 = .ok (.if_icmp .ne 5, 3) := dk_160 (by decide +kernel)
theorem dX9_keywordOf_87 : decode cX9_keywordOf 87 = .ok (.iload_n 2, 1) := dk_28 (by decide +kernel)
theorem dX9_keywordOf_88 : decode cX9_keywordOf 88 = .ok (.ireturn, 1) := dk_172 (by decide +kernel)
theorem dX9_keywordOf_89 : decode cX9_keywordOf 89 = .ok (.iinc 2 1, 3) := dk_132 (by decide +kernel)
theorem dX9_keywordOf_92 : decode cX9_keywordOf 92 = .ok (.iconst 0, 1) := dk_3 (by decide +kernel)
theorem dX9_keywordOf_93 : decode cX9_keywordOf 93 = .ok (.istore_n 3, 1) := dk_62 (by decide +kernel)
theorem dX9_keywordOf_94 : decode cX9_keywordOf 94 = .ok (.iconst 1, 1) := dk_4 (by decide +kernel)
theorem dX9_keywordOf_95 : decode cX9_keywordOf 95 = .ok (.istore 4, 2) := dk_54 (by decide +kernel)
theorem dX9_keywordOf_97 : decode cX9_keywordOf 97 = .ok (.iinc 5 1, 3) := dk_132 (by decide +kernel)
theorem dX9_keywordOf_100 : decode cX9_keywordOf 100 = .ok (.goto (-88), 3) := dk_167 (by decide +kernel)
theorem dX9_keywordOf_103 : decode cX9_keywordOf 103 = .ok (.iconst (-1), 1) := dk_2 (by decide +kernel)
theorem dX9_keywordOf_104 : decode cX9_keywordOf 104 = .ok (.ireturn, 1) := dk_172 (by decide +kernel)
def wsMX9_keywordOf : List Cond := .code yX9_keywordOf cX9_keywordOf 7 (some .int) :: ([.fieldLink RX9 9 "OptimaWorks$Words" "tape" "[B", .fieldLink RX9 34 "OptimaWorks$Words" "at" "I"] ++ wsX90 ++ (wsV RX9 72 RJ0 yJ0_length_8abf5 wsMJ0_length_8abf5) ++ (wsV RX9 77 RJ0 yJ0_charAt_5068e wsRJ0ca))
theorem iwsMX9_keywordOf_in9 : ∀ w ∈ wsX90, w ∈ wsMX9_keywordOf := fun _ h => List.mem_cons_of_mem _ (List.mem_append_left _ (List.mem_append_left _ (List.mem_append_right _ h)))
theorem gwsMX9_keywordOf_0 : GoodIn wsMX9_keywordOf (wsV RX9 72 RJ0 yJ0_length_8abf5 wsMJ0_length_8abf5) := goodIn_sub (fun _ h => List.mem_cons_of_mem _ (List.mem_append_left _ (List.mem_append_right _ h))) (gdV (by decide +kernel) gdwsMJ0_length_8abf5)
theorem gwsMX9_keywordOf_1 : GoodIn wsMX9_keywordOf (wsV RX9 77 RJ0 yJ0_charAt_5068e wsRJ0ca) := goodIn_sub (fun _ h => List.mem_cons_of_mem _ (List.mem_append_right _ h)) (gdV (by decide +kernel) gdwsRJ0ca)
theorem gdwsMX9_keywordOf : wsMX9_keywordOf.all goodWord = true := gdC rfl (gdA (gdA (gdA (by decide +kernel : ([.fieldLink RX9 9 "OptimaWorks$Words" "tape" "[B", .fieldLink RX9 34 "OptimaWorks$Words" "at" "I"] : List Cond).all goodWord = true) gdwsX90) (gdV (by decide +kernel) gdwsMJ0_length_8abf5)) (gdV (by decide +kernel) gdwsRJ0ca))
set_option maxHeartbeats 4000000 in
set_option maxRecDepth 100000 in
/-- which keyword -/
theorem m_X9_keywordOf (l : Launch) (hst : l.stackTraces = false) (dC : Nat → ClassId) (dI : Nat → Nat → Nat) (hT : Nat → Nat) (aT : Nat → Nat) (kT : Nat → ClassId) (fT_tape : Nat → Int32) (dT_tape : Nat) (nT_tape : Nat) (iT_length : Int32) (iT_fault : Int32) (iT_place : Int32) (iT_kind : Int32) (iT_at : Int32) (iT_number : Int32) (jT_name : Int64) (iT_next : Int32) (p1 : Int32) (b_fT_tape : ∀ q : Nat, (-128) ≤ (fT_tape q).toInt ∧ (fT_tape q).toInt ≤ 127) (b_nT_tape : 64 ≤ nT_tape ∧ nT_tape ≤ 2560) (b_iT_length : 0 ≤ iT_length.toInt ∧ iT_length.toInt ≤ 1280) (b_iT_at : 0 ≤ iT_at.toInt ∧ iT_at.toInt ≤ 1282) (b_iT_number : 0 ≤ iT_number.toInt ∧ iT_number.toInt ≤ 999999) (b_iT_next : 0 ≤ iT_next.toInt ∧ iT_next.toInt ≤ 1282) (b_len : iT_length.toInt ≤ ((nT_tape : Nat) : Int)) (b_p1 : 0 ≤ p1.toInt ∧ p1.toInt ≤ 1282) (hat : iT_at.toInt + p1.toInt ≤ ((nT_tape : Nat) : Int)) (sz : Nat) : Met l yX9_keywordOf wsMX9_keywordOf ({ frames := 4, cells := 0, slots := 0, locals := 85 }) (va_Pc [.ref (hT 0), .int p1] (fun U => U.heap.size = sz ∧ va_P (dC, dI) vwCl (WT hT aT kT fT_tape dT_tape nT_tape iT_length iT_fault iT_place iT_kind iT_at iT_number jT_name iT_next) U.heap ∧ va_K (dC, dI) vwCl (tT kT) U ∧ va_D (fun _ => True) (WT hT aT kT fT_tape dT_tape nT_tape iT_length iT_fault iT_place iT_kind iT_at iT_number jT_name iT_next) ∧ CE (va_A (WT hT aT kT fT_tape dT_tape nT_tape iT_length iT_fault iT_place iT_kind iT_at iT_number jT_name iT_next) sz) U U.heap)) (va_Qi (fun (r : Int32) (u : Unit) => ((-1) ≤ r.toInt ∧ r.toInt ≤ 1000) ∧ (r.toInt = -1 ∨ 256 ≤ r.toInt)) (fun (u : Unit) t => va_P (dC, dI) vwCl (WT hT aT kT fT_tape dT_tape nT_tape iT_length iT_fault iT_place iT_kind iT_at iT_number jT_name iT_next) t.heap ∧ va_D (va_A (WT hT aT kT fT_tape dT_tape nT_tape iT_length iT_fault iT_place iT_kind iT_at iT_number jT_name iT_next) sz) (WT hT aT kT fT_tape dT_tape nT_tape iT_length iT_fault iT_place iT_kind iT_at iT_number jT_name iT_next)) (va_A (WT hT aT kT fT_tape dT_tape nT_tape iT_length iT_fault iT_place iT_kind iT_at iT_number jT_name iT_next) sz)) 0 0 (va_A (WT hT aT kT fT_tape dT_tape nT_tape iT_length iT_fault iT_place iT_kind iT_at iT_number jT_name iT_next) sz) := by
  refine Met.ofW (cc := cX9_keywordOf) (maxL := 7) (ret := (some .int)) (by decide) rfl ?_
  intro p e s m args below meth c s₁ B hml hv
  obtain ⟨rfl, hsz, hP, hK, hD0, hE⟩ := hv
  have hx := B.exec
  have hb := B.bytes
  have hr := B.returns
  have hts := atoms_spec (ws := wsMX9_keywordOf) B.pre
  have hown : s.vm.findClass RX9 = some m.cls := findClass_of_methodNamed B.named
  have hlocks := B.notSynchronized
  subst hsz
  have hD := hD0.self (sz := s.heap.size)
  generalize hAe : va_A (WT hT aT kT fT_tape dT_tape nT_tape iT_length iT_fault iT_place iT_kind iT_at iT_number jT_name iT_next) s.heap.size = A at hD hE ⊢
  have hA : ∀ q : Nat, s.heap.size ≤ q → A q := fun q h => by rw [← hAe]; exact Or.inr h
  have hS : va_S A s.heap s.heap [] := va_S.rf
  have hl := lv_entry ([.ref (hT 0), .int p1]) (n := 7) (Nat.le_of_ble_eq_true rfl)
  rw [lg_entry_eq]
  generalize (lg_sl ([.ref (hT 0), .int p1]) ++ List.replicate (7 - (lg_sl ([.ref (hT 0), .int p1])).length) Slot.unset).toArray = ls at hl ⊢
  have hl : lv_has ls 7 [(0, .ref (hT 0)), (1, .int p1)] := hl
  refine lv_sipush (v := 256) hx hb dX9_keywordOf_0 (by decide) ?_
  refine lv_istore_n hx hb dX9_keywordOf_3 rfl hl (by decide) rfl (fun ls (hl : lv_has ls _ ([(2, .int 256), (0, .ref (hT 0)), (1, .int p1)])) => ?_)
  refine lv_iconst (v := 0) hx hb dX9_keywordOf_4 (by decide) ?_
  refine lv_istore_n hx hb dX9_keywordOf_5 rfl hl (by decide) rfl (fun ls (hl : lv_has ls _ ([(3, .int 0), (2, .int 256), (0, .ref (hT 0)), (1, .int p1)])) => ?_)
  refine lv_iconst (v := 1) hx hb dX9_keywordOf_6 (by decide) ?_
  refine lv_istore hx hb dX9_keywordOf_7 hl (by decide) rfl (fun ls (hl : lv_has ls _ ([(4, .int 1), (3, .int 0), (2, .int 256), (0, .ref (hT 0)), (1, .int p1)])) => ?_)
  refine lv_iconst (v := 0) hx hb dX9_keywordOf_9 (by decide) ?_
  refine lv_istore hx hb dX9_keywordOf_10 hl (by decide) rfl (fun ls (hl : lv_has ls _ ([(5, .int 0), (4, .int 1), (3, .int 0), (2, .int 256), (0, .ref (hT 0)), (1, .int p1)])) => ?_)
  have hl : lv_has _ _ ([(5, .int 0), (4, .int 1), (3, .int 0), (2, .int 256), (0, .ref (hT 0)), (1, .int p1)]) := lv_sub hl [0, 1, 2, 3, 4, 5] rfl
  refine (fun (loop : ∀ (n9 : Nat) (l5_x12 : Int32) (l4_x12 : Int32) (l3_x12 : Int32) (l2_x12 : Int32) (H : Heap) (locs : List Loc) (ls : Array Slot), (0 ≤ l5_x12.toInt ∧ l5_x12.toInt ≤ 71) → (0 ≤ l4_x12.toInt ∧ l4_x12.toInt ≤ 1) → (0 ≤ l3_x12.toInt ∧ l3_x12.toInt ≤ 71) → (256 ≤ l2_x12.toInt ∧ l2_x12.toInt ≤ 327) → (l2_x12.toInt ≤ 256 + l5_x12.toInt) → (l3_x12.toInt ≤ l5_x12.toInt) → (71 - l5_x12.toInt < ((n9 : Nat) : Int)) → va_P (dC, dI) vwCl (WT hT aT kT fT_tape dT_tape nT_tape iT_length iT_fault iT_place iT_kind iT_at iT_number jT_name iT_next) H → va_D A (WT hT aT kT fT_tape dT_tape nT_tape iT_length iT_fault iT_place iT_kind iT_at iT_number jT_name iT_next) → va_S A s.heap H locs → lv_has ls 7 [(5, .int l5_x12), (4, .int l4_x12), (3, .int l3_x12), (2, .int l2_x12), (0, .ref (hT 0)), (1, .int p1)] → W p l e _ s m _ below meth c H locs 0 0 _ (F0 m 12 ls [])) => loop (72) 0 1 0 256 _ _ _ (show 0 ≤ (0 : Int32).toInt ∧ (0 : Int32).toInt ≤ 71 from by decide) (show 0 ≤ (1 : Int32).toInt ∧ (1 : Int32).toInt ≤ 1 from by decide) (show 0 ≤ (0 : Int32).toInt ∧ (0 : Int32).toInt ≤ 71 from by decide) (show 256 ≤ (256 : Int32).toInt ∧ (256 : Int32).toInt ≤ 327 from by decide) (show (256 : Int32).toInt ≤ 256 + (0 : Int32).toInt from by decide) (show (0 : Int32).toInt ≤ (0 : Int32).toInt from by decide) ((by have e9 : (0 : Int32).toInt = 0 := (by decide : (0 : Int32).toInt = 0); omega)) hP hD hS hl) ?_
  intro n9
  induction n9 with
  | zero => intro l5_x12 l4_x12 l3_x12 l2_x12 H locs ls b_l5_x12 b_l4_x12 b_l3_x12 b_l2_x12 hw2 hw3 hf9; exact False.elim (by omega)
  | succ n9 ihx12 =>
    intro l5_x12 l4_x12 l3_x12 l2_x12 H locs ls b_l5_x12 b_l4_x12 b_l3_x12 b_l2_x12 hw2 hw3 hfx12 hP hD hS hl
    refine lv_iload hx hb dX9_keywordOf_12 (lv_at hl 0 rfl) ?_
    obtain ⟨qS70, hR70, hSS70⟩ := hE.2.2.2 22 _ rfl
    refine va_ldcS hx hb hown hR70 dX9_keywordOf_14 ?_
    have hFc := noneFree hS hA
    refine va_calli (va_runV (As := []) (rest := [.int l5_x12]) ⟨hx, hb, hml, hown, hts⟩ (m_J0_length_8abf5 l dC dI qS70 71 (fun j => ([115, 101, 116, 32, 112, 97, 114, 97, 109, 32, 118, 97, 114, 32, 119, 104, 111, 108, 101, 32, 102, 114, 111, 109, 32, 116, 111, 32, 114, 111, 119, 32, 111, 114, 32, 105, 102, 32, 97, 110, 100, 32, 110, 111, 116, 32, 105, 110, 32, 115, 117, 109, 32, 100, 105, 102, 102, 101, 114, 101, 110, 116, 32, 109, 105, 110, 32, 109, 97, 120, 32] : List Int32).getD j 0) (by decide) H.size) (cwV 0 hts gwsMX9_keywordOf_0 rfl rfl rfl hd_yJ0_length_8abf5_RJ0 (by decide +kernel)) ⟨fun a U g mk q => by obtain ⟨q0, q1, qP, qK, qD, qE⟩ := q; exact ⟨q0, q1, qP, va_K.moved (u := U) (U := U.calling g mk a) (Vm.Alike.refl U.vm) qK, qD, qE.same rfl⟩, hSS70.recv hS, fun U hU9 hW => ⟨rfl, by rw [hU9], by rw [hU9]; exact nilP, va_K.moved hW.alike (hK.sub (tys' := []) [] rfl), nilD, by rw [hU9]; exact (((hSS70 : (StrE qS70 71 (fun j => ([115, 101, 116, 32, 112, 97, 114, 97, 109, 32, 118, 97, 114, 32, 119, 104, 111, 108, 101, 32, 102, 114, 111, 109, 32, 116, 111, 32, 114, 111, 119, 32, 111, 114, 32, 105, 102, 32, 97, 110, 100, 32, 110, 111, 116, 32, 105, 110, 32, 115, 117, 109, 32, 100, 105, 102, 102, 101, 114, 101, 110, 116, 32, 109, 105, 110, 32, 109, 97, 120, 32] : List Int32).getD j 0)) A s s.heap).kept hS.2.1).narrow (fun q h => hFc q h)).warm hW⟩⟩ rfl rfl hl.1 rfl (lv_room (Nat.le_of_ble_eq_true rfl)) dX9_keywordOf_16 (by decide +kernel)) hS (fun q _ h => hFc q h) hFc (fun r15 u t9_ H1 locs ht hvm hw9 hB9 hz1 hk1 hS => ?_)
    have f15_0 := hw9
    try dsimp only at f15_0
    clear hB9
    have hP := keepAll hP hk1
    generalize H1 = H at hP hS ⊢
    have hP : va_P (dC, dI) vwCl (WT hT aT kT fT_tape dT_tape nT_tape iT_length iT_fault iT_place iT_kind iT_at iT_number jT_name iT_next) H := hP
    have hD := fz_sd hP (hD) rfl
    have hlen : r15.toInt = 71 := f15_0
    refine lv_icmp_ge (tgt := 103) hx hb dX9_keywordOf_19 (by decide) (fun c_19 => ?_) (fun c_19 => ?_)
    · have t_19 : l5_x12.toInt ≥ r15.toInt := toI_ge c_19 rfl rfl
      refine lv_iconst (v := (-1)) hx hb dX9_keywordOf_103 (by decide) ?_
      refine W.widen (k := 0) (n := 0) (by decide +kernel) (by decide +kernel) ?_
      exact W.iret (v := (-1)) hx hb hr (fun t9_ ht hW => ⟨⟨((-1) : Int32), (), rfl, ⟨(show (-1) ≤ ((-1) : Int32).toInt ∧ ((-1) : Int32).toInt ≤ 1000 from by decide), (by (try dsimp only); first | (left; decide) | (right; omega))⟩, by rw [ht]; exact hP, hD⟩, hS.F ht⟩) hS.2.2 dX9_keywordOf_104
    · have t_19 : ¬ l5_x12.toInt ≥ r15.toInt := toI_nge c_19 rfl rfl
      refine va_ldcS hx hb hown hR70 dX9_keywordOf_22 ?_
      refine lv_iload hx hb dX9_keywordOf_24 (lv_at hl 0 rfl) ?_
      refine lv_topi (fun y16 hy16 => ?_)
      obtain rfl : (nI l5_x12.toInt.toNat) = y16 := (hy16.trans (toN rfl (by omega))).symm
      have hFc := noneFree hS hA
      refine va_calli (va_runV (As := [.int (nI l5_x12.toInt.toNat)]) (rest := []) ⟨hx, hb, hml, hown, hts⟩ (r_J0_charAt_5068e l dC dI qS70 (fun j => ([115, 101, 116, 32, 112, 97, 114, 97, 109, 32, 118, 97, 114, 32, 119, 104, 111, 108, 101, 32, 102, 114, 111, 109, 32, 116, 111, 32, 114, 111, 119, 32, 111, 114, 32, 105, 102, 32, 97, 110, 100, 32, 110, 111, 116, 32, 105, 110, 32, 115, 117, 109, 32, 100, 105, 102, 102, 101, 114, 101, 110, 116, 32, 109, 105, 110, 32, 109, 97, 120, 32] : List Int32).getD j 0) l5_x12.toInt.toNat 71 (by omega) (by decide) H.size) (cwV 1 hts gwsMX9_keywordOf_1 rfl rfl rfl hd_yJ0_charAt_5068e_RJ0 (by decide +kernel)) ⟨fun a U g mk q => by obtain ⟨q0, q1, qP, qK, qD, qE⟩ := q; exact ⟨q0, q1, qP, va_K.moved (u := U) (U := U.calling g mk a) (Vm.Alike.refl U.vm) qK, qD, qE.same rfl⟩, hSS70.recv hS, fun U hU9 hW => ⟨rfl, by rw [hU9], by rw [hU9]; exact nilP, va_K.moved hW.alike (hK.sub (tys' := []) [] rfl), nilD, by rw [hU9]; exact (((hSS70 : (StrE qS70 71 (fun j => ([115, 101, 116, 32, 112, 97, 114, 97, 109, 32, 118, 97, 114, 32, 119, 104, 111, 108, 101, 32, 102, 114, 111, 109, 32, 116, 111, 32, 114, 111, 119, 32, 111, 114, 32, 105, 102, 32, 97, 110, 100, 32, 110, 111, 116, 32, 105, 110, 32, 115, 117, 109, 32, 100, 105, 102, 102, 101, 114, 101, 110, 116, 32, 109, 105, 110, 32, 109, 97, 120, 32] : List Int32).getD j 0)) A s s.heap).kept hS.2.1).narrow (fun q h => hFc q h)).warm hW⟩⟩ rfl rfl hl.1 rfl (lv_room (Nat.le_of_ble_eq_true rfl)) dX9_keywordOf_26 (by decide +kernel)) hS (fun q _ h => hFc q h) hFc (fun r17 u t9_ H1 locs ht hvm hw9 hB9 hz1 hk1 hS => ?_)
      revert hw9
      refine fz_a2 ?_
      intro f17_0 f17_1
      clear hB9
      have hP := keepAll hP hk1
      generalize H1 = H at hP hS ⊢
      have hP : va_P (dC, dI) vwCl (WT hT aT kT fT_tape dT_tape nT_tape iT_length iT_fault iT_place iT_kind iT_at iT_number jT_name iT_next) H := hP
      have hD := fz_sd hP (hD) rfl
      refine lv_istore hx hb dX9_keywordOf_29 hl (by decide) rfl (fun ls (hl : lv_has ls _ ([(6, .int r17), (5, .int l5_x12), (4, .int l4_x12), (3, .int l3_x12), (2, .int l2_x12), (0, .ref (hT 0)), (1, .int p1)])) => ?_)
      refine lv_iload hx hb dX9_keywordOf_31 (lv_at hl 0 rfl) ?_
      refine lv_bipush (v := 32) hx hb dX9_keywordOf_33 (by decide) ?_
      refine lv_icmp_eq (tgt := 77) hx hb dX9_keywordOf_35 (by decide) (fun c_35 => ?_) (fun c_35 => ?_)
      · have t_35 : r17.toInt = 32 := toI_eq c_35 rfl (by decide : (32 : Int32).toInt = 32)
        refine lv_iload hx hb dX9_keywordOf_77 (lv_at hl 2 rfl) ?_
        refine lv_if_eq (tgt := 89) hx hb dX9_keywordOf_79 (by decide) (fun c_79 => ?_) (fun c_79 => ?_)
        · have t_79 : l4_x12.toInt = 0 := toI_eq c_79 rfl (by decide : (0 : Int32).toInt = 0)
          refine lv_iinc (v := (iI (l2_x12.toInt + 1))) hx hb dX9_keywordOf_89 hl (k := 4) rfl (iI_add2 (iI_of _) (by decide : (1 : Int32) = iI 1)) (by decide) rfl (fun ls (hl : lv_has ls _ ([(2, .int (iI (l2_x12.toInt + 1))), (6, .int r17), (5, .int l5_x12), (4, .int l4_x12), (3, .int l3_x12), (0, .ref (hT 0)), (1, .int p1)])) => ?_)
          refine lv_iconst (v := 0) hx hb dX9_keywordOf_92 (by decide) ?_
          refine lv_istore_n hx hb dX9_keywordOf_93 rfl hl (by decide) rfl (fun ls (hl : lv_has ls _ ([(3, .int 0), (2, .int (iI (l2_x12.toInt + 1))), (6, .int r17), (5, .int l5_x12), (4, .int l4_x12), (0, .ref (hT 0)), (1, .int p1)])) => ?_)
          refine lv_iconst (v := 1) hx hb dX9_keywordOf_94 (by decide) ?_
          refine lv_istore hx hb dX9_keywordOf_95 hl (by decide) rfl (fun ls (hl : lv_has ls _ ([(4, .int 1), (3, .int 0), (2, .int (iI (l2_x12.toInt + 1))), (6, .int r17), (5, .int l5_x12), (0, .ref (hT 0)), (1, .int p1)])) => ?_)
          refine lv_iinc (v := (iI (l5_x12.toInt + 1))) hx hb dX9_keywordOf_97 hl (k := 4) rfl (iI_add2 (iI_of _) (by decide : (1 : Int32) = iI 1)) (by decide) rfl (fun ls (hl : lv_has ls _ ([(5, .int (iI (l5_x12.toInt + 1))), (4, .int 1), (3, .int 0), (2, .int (iI (l2_x12.toInt + 1))), (6, .int r17), (0, .ref (hT 0)), (1, .int p1)])) => ?_)
          refine lv_goto (tgt := 12) hx hb dX9_keywordOf_100 (by decide) ?_
          have hl : lv_has _ _ ([(5, .int (iI (l5_x12.toInt + 1))), (4, .int 1), (3, .int 0), (2, .int (iI (l2_x12.toInt + 1))), (0, .ref (hT 0)), (1, .int p1)]) := lv_sub hl [0, 1, 2, 3, 5, 6] rfl
          exact ihx12 (iI (l5_x12.toInt + 1)) 1 0 (iI (l2_x12.toInt + 1)) _ _ _ (iI_rng (Int.le_trans (by decide) (Int.add_le_add (b_l5_x12.1) (Int.le_refl _))) (by omega) (by decide) (by decide)) (show 0 ≤ (1 : Int32).toInt ∧ (1 : Int32).toInt ≤ 1 from by decide) (show 0 ≤ (0 : Int32).toInt ∧ (0 : Int32).toInt ≤ 71 from by decide) (iI_rng (Int.le_trans (by decide) (Int.add_le_add (b_l2_x12.1) (Int.le_refl _))) (by omega) (by decide) (by decide)) (show (iI (l2_x12.toInt + 1)).toInt ≤ 256 + (iI (l5_x12.toInt + 1)).toInt from by (try rw [iI_t (E := l2_x12.toInt + 1) (by omega) (by omega)]); (try rw [iI_t (E := l3_x12.toInt + 1) (by omega) (by omega)]); rw [iI_t (E := l5_x12.toInt + 1) (by omega) (by omega)]; (try have h8 : (0 : Int32).toInt = 0 := (by decide)); omega) (show (0 : Int32).toInt ≤ (iI (l5_x12.toInt + 1)).toInt from by (try rw [iI_t (E := l2_x12.toInt + 1) (by omega) (by omega)]); (try rw [iI_t (E := l3_x12.toInt + 1) (by omega) (by omega)]); rw [iI_t (E := l5_x12.toInt + 1) (by omega) (by omega)]; (try have h8 : (0 : Int32).toInt = 0 := (by decide)); omega) (by have e9 : ((iI (l5_x12.toInt + 1))).toInt = (l5_x12.toInt + 1) := (iI_t (Int.le_trans (by decide) (Int.add_le_add (b_l5_x12.1) (Int.le_refl _))) (Int.le_trans (Int.add_le_add (b_l5_x12.2) (Int.le_refl _)) (by decide))); omega) hP hD hS hl
        · have t_79 : ¬ l4_x12.toInt = 0 := toI_neq c_79 rfl (by decide : (0 : Int32).toInt = 0)
          refine lv_iload_n hx hb dX9_keywordOf_82 rfl (lv_at hl 3 rfl) ?_
          refine lv_iload_n hx hb dX9_keywordOf_83 rfl (lv_at hl 6 rfl) ?_
          refine lv_icmp_ne (tgt := 89) hx hb dX9_keywordOf_84 (by decide) (fun c_84 => ?_) (fun c_84 => ?_)
          · have t_84 : l3_x12.toInt ≠ p1.toInt := toI_ne c_84 rfl rfl
            refine lv_iinc (v := (iI (l2_x12.toInt + 1))) hx hb dX9_keywordOf_89 hl (k := 4) rfl (iI_add2 (iI_of _) (by decide : (1 : Int32) = iI 1)) (by decide) rfl (fun ls (hl : lv_has ls _ ([(2, .int (iI (l2_x12.toInt + 1))), (6, .int r17), (5, .int l5_x12), (4, .int l4_x12), (3, .int l3_x12), (0, .ref (hT 0)), (1, .int p1)])) => ?_)
            refine lv_iconst (v := 0) hx hb dX9_keywordOf_92 (by decide) ?_
            refine lv_istore_n hx hb dX9_keywordOf_93 rfl hl (by decide) rfl (fun ls (hl : lv_has ls _ ([(3, .int 0), (2, .int (iI (l2_x12.toInt + 1))), (6, .int r17), (5, .int l5_x12), (4, .int l4_x12), (0, .ref (hT 0)), (1, .int p1)])) => ?_)
            refine lv_iconst (v := 1) hx hb dX9_keywordOf_94 (by decide) ?_
            refine lv_istore hx hb dX9_keywordOf_95 hl (by decide) rfl (fun ls (hl : lv_has ls _ ([(4, .int 1), (3, .int 0), (2, .int (iI (l2_x12.toInt + 1))), (6, .int r17), (5, .int l5_x12), (0, .ref (hT 0)), (1, .int p1)])) => ?_)
            refine lv_iinc (v := (iI (l5_x12.toInt + 1))) hx hb dX9_keywordOf_97 hl (k := 4) rfl (iI_add2 (iI_of _) (by decide : (1 : Int32) = iI 1)) (by decide) rfl (fun ls (hl : lv_has ls _ ([(5, .int (iI (l5_x12.toInt + 1))), (4, .int 1), (3, .int 0), (2, .int (iI (l2_x12.toInt + 1))), (6, .int r17), (0, .ref (hT 0)), (1, .int p1)])) => ?_)
            refine lv_goto (tgt := 12) hx hb dX9_keywordOf_100 (by decide) ?_
            have hl : lv_has _ _ ([(5, .int (iI (l5_x12.toInt + 1))), (4, .int 1), (3, .int 0), (2, .int (iI (l2_x12.toInt + 1))), (0, .ref (hT 0)), (1, .int p1)]) := lv_sub hl [0, 1, 2, 3, 5, 6] rfl
            exact ihx12 (iI (l5_x12.toInt + 1)) 1 0 (iI (l2_x12.toInt + 1)) _ _ _ (iI_rng (Int.le_trans (by decide) (Int.add_le_add (b_l5_x12.1) (Int.le_refl _))) (by omega) (by decide) (by decide)) (show 0 ≤ (1 : Int32).toInt ∧ (1 : Int32).toInt ≤ 1 from by decide) (show 0 ≤ (0 : Int32).toInt ∧ (0 : Int32).toInt ≤ 71 from by decide) (iI_rng (Int.le_trans (by decide) (Int.add_le_add (b_l2_x12.1) (Int.le_refl _))) (by omega) (by decide) (by decide)) (show (iI (l2_x12.toInt + 1)).toInt ≤ 256 + (iI (l5_x12.toInt + 1)).toInt from by (try rw [iI_t (E := l2_x12.toInt + 1) (by omega) (by omega)]); (try rw [iI_t (E := l3_x12.toInt + 1) (by omega) (by omega)]); rw [iI_t (E := l5_x12.toInt + 1) (by omega) (by omega)]; (try have h8 : (0 : Int32).toInt = 0 := (by decide)); omega) (show (0 : Int32).toInt ≤ (iI (l5_x12.toInt + 1)).toInt from by (try rw [iI_t (E := l2_x12.toInt + 1) (by omega) (by omega)]); (try rw [iI_t (E := l3_x12.toInt + 1) (by omega) (by omega)]); rw [iI_t (E := l5_x12.toInt + 1) (by omega) (by omega)]; (try have h8 : (0 : Int32).toInt = 0 := (by decide)); omega) (by have e9 : ((iI (l5_x12.toInt + 1))).toInt = (l5_x12.toInt + 1) := (iI_t (Int.le_trans (by decide) (Int.add_le_add (b_l5_x12.1) (Int.le_refl _))) (Int.le_trans (Int.add_le_add (b_l5_x12.2) (Int.le_refl _)) (by decide))); omega) hP hD hS hl
          · have t_84 : l3_x12.toInt = p1.toInt := toI_nne c_84 rfl rfl
            refine lv_iload_n hx hb dX9_keywordOf_87 rfl (lv_at hl 4 rfl) ?_
            refine W.widen (k := 0) (n := 0) (by decide +kernel) (by decide +kernel) ?_
            exact W.iret (v := l2_x12) hx hb hr (fun t9_ ht hW => ⟨⟨l2_x12, (), rfl, ⟨(⟨Int.le_trans (by decide) b_l2_x12.1, Int.le_trans b_l2_x12.2 (by decide)⟩), (by (try dsimp only); first | (left; decide) | (right; omega))⟩, by rw [ht]; exact hP, hD⟩, hS.F ht⟩) hS.2.2 dX9_keywordOf_88
      · have t_35 : ¬ r17.toInt = 32 := toI_neq c_35 rfl (by decide : (32 : Int32).toInt = 32)
        refine lv_iload hx hb dX9_keywordOf_38 (lv_at hl 2 rfl) ?_
        refine W.cut (pc := 69) (fun H locs ls stk => ∃ (k0_j6 : Int32), (0 ≤ k0_j6.toInt ∧ k0_j6.toInt ≤ 1) ∧  stk = [.int k0_j6] ∧ va_P (dC, dI) vwCl (WT hT aT kT fT_tape dT_tape nT_tape iT_length iT_fault iT_place iT_kind iT_at iT_number jT_name iT_next) H ∧ va_D A (WT hT aT kT fT_tape dT_tape nT_tape iT_length iT_fault iT_place iT_kind iT_at iT_number jT_name iT_next) ∧ va_S A s.heap H locs ∧ lv_has ls 7 [(6, .int r17), (5, .int l5_x12), (4, .int l4_x12), (3, .int l3_x12), (2, .int l2_x12), (0, .ref (hT 0)), (1, .int p1)]) (fun join6 => ?_) ?_
        · refine lv_if_eq (tgt := 68) hx hb dX9_keywordOf_40 (by decide) (fun c_40 => ?_) (fun c_40 => ?_)
          · have t_40 : l4_x12.toInt = 0 := toI_eq c_40 rfl (by decide : (0 : Int32).toInt = 0)
            refine lv_iconst (v := 0) hx hb dX9_keywordOf_68 (by decide) ?_
            have hl : lv_has _ _ ([(6, .int r17), (5, .int l5_x12), (4, .int l4_x12), (3, .int l3_x12), (2, .int l2_x12), (0, .ref (hT 0)), (1, .int p1)]) := lv_sub hl [0, 1, 2, 3, 4, 5, 6] rfl
            exact join6 _ _ _ _ ⟨0, (show 0 ≤ (0 : Int32).toInt ∧ (0 : Int32).toInt ≤ 1 from by decide), rfl, hP, hD, hS, hl⟩
          · have t_40 : ¬ l4_x12.toInt = 0 := toI_neq c_40 rfl (by decide : (0 : Int32).toInt = 0)
            refine lv_iload_n hx hb dX9_keywordOf_43 rfl (lv_at hl 3 rfl) ?_
            refine lv_iload_n hx hb dX9_keywordOf_44 rfl (lv_at hl 6 rfl) ?_
            refine lv_icmp_ge (tgt := 68) hx hb dX9_keywordOf_45 (by decide) (fun c_45 => ?_) (fun c_45 => ?_)
            · have t_45 : l3_x12.toInt ≥ p1.toInt := toI_ge c_45 rfl rfl
              refine lv_iconst (v := 0) hx hb dX9_keywordOf_68 (by decide) ?_
              have hl : lv_has _ _ ([(6, .int r17), (5, .int l5_x12), (4, .int l4_x12), (3, .int l3_x12), (2, .int l2_x12), (0, .ref (hT 0)), (1, .int p1)]) := lv_sub hl [0, 1, 2, 3, 4, 5, 6] rfl
              exact join6 _ _ _ _ ⟨0, (show 0 ≤ (0 : Int32).toInt ∧ (0 : Int32).toInt ≤ 1 from by decide), rfl, hP, hD, hS, hl⟩
            · have t_45 : ¬ l3_x12.toInt ≥ p1.toInt := toI_nge c_45 rfl rfl
              refine lv_aload_n hx hb dX9_keywordOf_48 rfl (lv_at hl 5 rfl) ?_
              refine va_get (D := (dC, dI)) (ci := 9) (v := .ref dT_tape) (C := RX9) (T := TX9) (N := 9) hx hb hts iwsMX9_keywordOf_in9 hown hK hP 0 rfl rfl 0 (by decide) (hts (.fieldLink RX9 9 "OptimaWorks$Words" "tape" "[B") (by decide +kernel)) (fun _ h9 => h9) rfl dX9_keywordOf_49 ?_
              refine lv_aload_n hx hb dX9_keywordOf_52 rfl (lv_at hl 5 rfl) ?_
              refine va_get (D := (dC, dI)) (ci := 9) (v := .int iT_at) (C := RX9) (T := TX9) (N := 9) hx hb hts iwsMX9_keywordOf_in9 hown hK hP 0 rfl rfl 5 (by decide) (hts (.fieldLink RX9 34 "OptimaWorks$Words" "at" "I") (by decide +kernel)) (fun _ h9 => h9) rfl dX9_keywordOf_53 ?_
              refine lv_iload_n hx hb dX9_keywordOf_56 rfl (lv_at hl 3 rfl) ?_
              refine lv_iadd hx hb dX9_keywordOf_57 ?_
              refine lv_topi (fun y20 hy20 => ?_)
              obtain rfl : (iI (iT_at.toInt + l3_x12.toInt)) = y20 := (hy20.trans (iI_add2 (iI_of _) (iI_of _))).symm
              refine va_bald (cA := kT 0) (n := nT_tape) (f := fT_tape) hx hb hK hP 1 0 rfl rfl (vp_iI (Int.le_trans (by decide) (Int.add_le_add (b_iT_at.1) (b_l3_x12.1))) (by omega) (by omega)) dX9_keywordOf_58 ?_
              refine lv_topi (fun v21 hv21 => ?_)
              have b_v21 : (-128) ≤ v21.toInt ∧ v21.toInt ≤ 127 := by rw [hv21]; exact b_fT_tape _
              clear hv21
              refine lv_iload hx hb dX9_keywordOf_59 (lv_at hl 0 rfl) ?_
              refine lv_icmp_ne (tgt := 68) hx hb dX9_keywordOf_61 (by decide) (fun c_61 => ?_) (fun c_61 => ?_)
              · have t_61 : v21.toInt ≠ r17.toInt := toI_ne c_61 rfl rfl
                refine lv_iconst (v := 0) hx hb dX9_keywordOf_68 (by decide) ?_
                have hl : lv_has _ _ ([(6, .int r17), (5, .int l5_x12), (4, .int l4_x12), (3, .int l3_x12), (2, .int l2_x12), (0, .ref (hT 0)), (1, .int p1)]) := lv_sub hl [0, 1, 2, 3, 4, 5, 6] rfl
                exact join6 _ _ _ _ ⟨0, (show 0 ≤ (0 : Int32).toInt ∧ (0 : Int32).toInt ≤ 1 from by decide), rfl, hP, hD, hS, hl⟩
              · have t_61 : v21.toInt = r17.toInt := toI_nne c_61 rfl rfl
                refine lv_iconst (v := 1) hx hb dX9_keywordOf_64 (by decide) ?_
                refine lv_goto (tgt := 69) hx hb dX9_keywordOf_65 (by decide) ?_
                have hl : lv_has _ _ ([(6, .int r17), (5, .int l5_x12), (4, .int l4_x12), (3, .int l3_x12), (2, .int l2_x12), (0, .ref (hT 0)), (1, .int p1)]) := lv_sub hl [0, 1, 2, 3, 4, 5, 6] rfl
                exact join6 _ _ _ _ ⟨1, (show 0 ≤ (1 : Int32).toInt ∧ (1 : Int32).toInt ≤ 1 from by decide), rfl, hP, hD, hS, hl⟩
        · rintro H locs ls stk ⟨k0_j6, b_k0_j6, rfl, hP, hD, hS, hl⟩
          refine lv_istore hx hb dX9_keywordOf_69 hl (by decide) rfl (fun ls (hl : lv_has ls _ ([(4, .int k0_j6), (6, .int r17), (5, .int l5_x12), (3, .int l3_x12), (2, .int l2_x12), (0, .ref (hT 0)), (1, .int p1)])) => ?_)
          refine lv_iinc (v := (iI (l3_x12.toInt + 1))) hx hb dX9_keywordOf_71 hl (k := 3) rfl (iI_add2 (iI_of _) (by decide : (1 : Int32) = iI 1)) (by decide) rfl (fun ls (hl : lv_has ls _ ([(3, .int (iI (l3_x12.toInt + 1))), (4, .int k0_j6), (6, .int r17), (5, .int l5_x12), (2, .int l2_x12), (0, .ref (hT 0)), (1, .int p1)])) => ?_)
          refine lv_goto (tgt := 97) hx hb dX9_keywordOf_74 (by decide) ?_
          refine lv_iinc (v := (iI (l5_x12.toInt + 1))) hx hb dX9_keywordOf_97 hl (k := 3) rfl (iI_add2 (iI_of _) (by decide : (1 : Int32) = iI 1)) (by decide) rfl (fun ls (hl : lv_has ls _ ([(5, .int (iI (l5_x12.toInt + 1))), (3, .int (iI (l3_x12.toInt + 1))), (4, .int k0_j6), (6, .int r17), (2, .int l2_x12), (0, .ref (hT 0)), (1, .int p1)])) => ?_)
          refine lv_goto (tgt := 12) hx hb dX9_keywordOf_100 (by decide) ?_
          have hl : lv_has _ _ ([(5, .int (iI (l5_x12.toInt + 1))), (4, .int k0_j6), (3, .int (iI (l3_x12.toInt + 1))), (2, .int l2_x12), (0, .ref (hT 0)), (1, .int p1)]) := lv_sub hl [0, 2, 1, 4, 5, 6] rfl
          exact ihx12 (iI (l5_x12.toInt + 1)) k0_j6 (iI (l3_x12.toInt + 1)) l2_x12 _ _ _ (iI_rng (Int.le_trans (by decide) (Int.add_le_add (b_l5_x12.1) (Int.le_refl _))) (by omega) (by decide) (by decide)) (b_k0_j6) (iI_rng (Int.le_trans (by decide) (Int.add_le_add (b_l3_x12.1) (Int.le_refl _))) (by omega) (by decide) (by decide)) (b_l2_x12) (show l2_x12.toInt ≤ 256 + (iI (l5_x12.toInt + 1)).toInt from by (try rw [iI_t (E := l2_x12.toInt + 1) (by omega) (by omega)]); (try rw [iI_t (E := l3_x12.toInt + 1) (by omega) (by omega)]); rw [iI_t (E := l5_x12.toInt + 1) (by omega) (by omega)]; (try have h8 : (0 : Int32).toInt = 0 := (by decide)); omega) (show (iI (l3_x12.toInt + 1)).toInt ≤ (iI (l5_x12.toInt + 1)).toInt from by (try rw [iI_t (E := l2_x12.toInt + 1) (by omega) (by omega)]); (try rw [iI_t (E := l3_x12.toInt + 1) (by omega) (by omega)]); rw [iI_t (E := l5_x12.toInt + 1) (by omega) (by omega)]; (try have h8 : (0 : Int32).toInt = 0 := (by decide)); omega) (by have e9 : ((iI (l5_x12.toInt + 1))).toInt = (l5_x12.toInt + 1) := (iI_t (Int.le_trans (by decide) (Int.add_le_add (b_l5_x12.1) (Int.le_refl _))) (Int.le_trans (Int.add_le_add (b_l5_x12.2) (Int.le_refl _)) (by decide))); omega) hP hD hS hl
theorem dX9_takeSign_0 : decode cX9_takeSign 0 = .ok (.aload_n 0, 1) := dk_42 (by decide +kernel)
theorem dX9_takeSign_1 : decode cX9_takeSign 1 = .ok (.getfield 40, 3) := dk_180 (by decide +kernel)
theorem dX9_takeSign_4 : decode cX9_takeSign 4 = .ok (.iconst 1, 1) := dk_4 (by decide +kernel)
theorem dX9_takeSign_5 : decode cX9_takeSign 5 = .ok (.iadd, 1) := dk_96 (by decide +kernel)
theorem dX9_takeSign_6 : decode cX9_takeSign 6 = .ok (.aload_n 0, 1) := dk_42 (by decide +kernel)
theorem dX9_takeSign_7 : decode cX9_takeSign 7 = .ok (.getfield 19, 3) := dk_180 (by decide +kernel)
theorem dX9_takeSign_10 : decode cX9_takeSign 10 = .ok (.if_icmp .ge 17, 3) := dk_162 (by decide +kernel)
theorem dX9_takeSign_13 : decode cX9_takeSign 13 = .ok (.aload_n 0, 1) := dk_42 (by decide +kernel)
theorem dX9_takeSign_14 : decode cX9_takeSign 14 = .ok (.getfield 9, 3) := dk_180 (by decide +kernel)
theorem dX9_takeSign_17 : decode cX9_takeSign 17 = .ok (.aload_n 0, 1) := dk_42 (by decide +kernel)
theorem dX9_takeSign_18 : decode cX9_takeSign 18 = .ok (.getfield 40, 3) := dk_180 (by decide +kernel)
theorem dX9_takeSign_21 : decode cX9_takeSign 21 = .ok (.iconst 1, 1) := dk_4 (by decide +kernel)
theorem dX9_takeSign_22 : decode cX9_takeSign 22 = .ok (.iadd, 1) := dk_96 (by decide +kernel)
theorem dX9_takeSign_23 : decode cX9_takeSign 23 = .ok (.baload, 1) := dk_51 (by decide +kernel)
theorem dX9_takeSign_24 : decode cX9_takeSign 24 = .ok (.goto 4, 3) := dk_167 (by decide +kernel)
theorem dX9_takeSign_27 : decode cX9_takeSign 27 = .ok (.iconst (-1), 1) := dk_2 (by decide +kernel)
theorem dX9_takeSign_28 : decode cX9_takeSign 28 = .ok (.istore_n 2, 1) := dk_61 (by decide +kernel)
theorem dX9_takeSign_29 : decode cX9_takeSign 29 = .ok (.aload_n 0, 1) := dk_42 (by decide +kernel)
theorem dX9_takeSign_30 : decode cX9_takeSign 30 = .ok (.iload_n 1, 1) := dk_27 (by decide +kernel)
theorem dX9_takeSign_31 : decode cX9_takeSign 31 = .ok (.bipush 46, 2) := dk_16 (by decide +kernel)
theorem dX9_takeSign_33 : decode cX9_takeSign 33 = .ok (.if_icmp .ne 15, 3) := dk_160 (by decide +kernel)
theorem dX9_takeSign_36 : decode cX9_takeSign 36 = .ok (.iload_n 2, 1) := dk_28 (by decide +kernel)
theorem dX9_takeSign_37 : decode cX9_takeSign 37 = .ok (.bipush 46, 2) := dk_16 (by decide +kernel)
theorem dX9_takeSign_39 : decode cX9_takeSign 39 = .ok (.if_icmp .ne 9, 3) := dk_160 (by decide +kernel)
theorem dX9_takeSign_42 : decode cX9_takeSign 42 = .ok (.sipush 300, 3) := dk_17 (by decide +kernel)
theorem dX9_takeSign_45 : decode cX9_takeSign 45 = .ok (.goto 58, 3) := dk_167 (by decide +kernel)
theorem dX9_takeSign_48 : decode cX9_takeSign 48 = .ok (.iload_n 1, 1) := dk_27 (by decide +kernel)
theorem dX9_takeSign_49 : decode cX9_takeSign 49 = .ok (.bipush 60, 2) := dk_16 (by decide +kernel)
theorem dX9_takeSign_51 : decode cX9_takeSign 51 = .ok (.if_icmp .ne 15, 3) := dk_160 (by decide +kernel)
theorem dX9_takeSign_54 : decode cX9_takeSign 54 = .ok (.iload_n 2, 1) := dk_28 (by decide +kernel)
theorem dX9_takeSign_55 : decode cX9_takeSign 55 = .ok (.bipush 61, 2) := dk_16 (by decide +kernel)
theorem dX9_takeSign_57 : decode cX9_takeSign 57 = .ok (.if_icmp .ne 9, 3) := dk_160 (by decide +kernel)
theorem dX9_takeSign_60 : decode cX9_takeSign 60 = .ok (.sipush 301, 3) := dk_17 (by decide +kernel)
theorem dX9_takeSign_63 : decode cX9_takeSign 63 = .ok (.goto 40, 3) := dk_167 (by decide +kernel)
theorem dX9_takeSign_66 : decode cX9_takeSign 66 = .ok (.iload_n 1, 1) := dk_27 (by decide +kernel)
theorem dX9_takeSign_67 : decode cX9_takeSign 67 = .ok (.bipush 62, 2) := dk_16 (by decide +kernel)
theorem dX9_takeSign_69 : decode cX9_takeSign 69 = .ok (.if_icmp .ne 15, 3) := dk_160 (by decide +kernel)
theorem dX9_takeSign_72 : decode cX9_takeSign 72 = .ok (.iload_n 2, 1) := dk_28 (by decide +kernel)
theorem dX9_takeSign_73 : decode cX9_takeSign 73 = .ok (.bipush 61, 2) := dk_16 (by decide +kernel)
theorem dX9_takeSign_75 : decode cX9_takeSign 75 = .ok (.if_icmp .ne 9, 3) := dk_160 (by decide +kernel)
theorem dX9_takeSign_78 : decode cX9_takeSign 78 = .ok (.sipush 302, 3) := dk_17 (by decide +kernel)
theorem dX9_takeSign_81 : decode cX9_takeSign 81 = .ok (.goto 22, 3) := dk_167 (by decide +kernel)
theorem dX9_takeSign_84 : decode cX9_takeSign 84 = .ok (.iload_n 1, 1) := dk_27 (by decide +kernel)
theorem dX9_takeSign_85 : decode cX9_takeSign 85 = .ok (.bipush 60, 2) := dk_16 (by decide +kernel)
theorem dX9_takeSign_87 : decode cX9_takeSign 87 = .ok (.if_icmp .ne 15, 3) := dk_160 (by decide +kernel)
theorem dX9_takeSign_90 : decode cX9_takeSign 90 = .ok (.iload_n 2, 1) := dk_28 (by decide +kernel)
theorem dX9_takeSign_91 : decode cX9_takeSign 91 = .ok (.bipush 62, 2) := dk_16 (by decide +kernel)
theorem dX9_takeSign_93 : decode cX9_takeSign 93 = .ok (.if_icmp .ne 9, 3) := dk_160 (by decide +kernel)
theorem dX9_takeSign_96 : decode cX9_takeSign 96 = .ok (.sipush 303, 3) := dk_17 (by decide +kernel)
theorem dX9_takeSign_99 : decode cX9_takeSign 99 = .ok (.goto 4, 3) := dk_167 (by decide +kernel)
theorem dX9_takeSign_102 : decode cX9_takeSign 102 = .ok (.iconst (-1), 1) := dk_2 (by decide +kernel)
theorem dX9_takeSign_103 : decode cX9_takeSign 103 = .ok (.putfield 37, 3) := dk_181 (by decide +kernel)
theorem dX9_takeSign_106 : decode cX9_takeSign 106 = .ok (.aload_n 0, 1) := dk_42 (by decide +kernel)
theorem dX9_takeSign_107 : decode cX9_takeSign 107 = .ok (.getfield 37, 3) := dk_180 (by decide +kernel)
theorem dX9_takeSign_110 : decode cX9_takeSign 110 = .ok (.iconst (-1), 1) := dk_2 (by decide +kernel)
theorem dX9_takeSign_111 : decode cX9_takeSign 111 = .ok (.if_icmp .eq 14, 3) := dk_159 (by decide +kernel)
theorem dX9_takeSign_114 : decode cX9_takeSign 114 = .ok (.aload_n 0, 1) := dk_42 (by decide +kernel)
theorem dX9_takeSign_115 : decode cX9_takeSign 115 = .ok (.dup, 1) := dk_89 (by decide +kernel)
theorem dX9_takeSign_116 : decode cX9_takeSign 116 = .ok (.getfield 40, 3) := dk_180 (by decide +kernel)
theorem dX9_takeSign_119 : decode cX9_takeSign 119 = .ok (.iconst 2, 1) := dk_5 (by decide +kernel)
theorem dX9_takeSign_120 : decode cX9_takeSign 120 = .ok (.iadd, 1) := dk_96 (by decide +kernel)
theorem dX9_takeSign_121 : decode cX9_takeSign 121 = .ok (.putfield 40, 3) := dk_181 (by decide +kernel)
theorem dX9_takeSign_124 : decode cX9_takeSign 124 = .ok (.return_, 1) := dk_177 (by decide +kernel)
theorem dX9_takeSign_125 : decode cX9_takeSign 125 = .ok (.aload_n 0, 1) := dk_42 (by decide +kernel)
theorem dX9_takeSign_126 : decode cX9_takeSign 126 = .ok (.ldc 84, 2) := dk_18 (by decide +kernel)
theorem dX9_takeSign_128 : decode cX9_takeSign 128 = .ok (.iload_n 1, 1) := dk_27 (by decide +kernel)
theorem dX9_takeSign_129 : decode cX9_takeSign 129 = .ok (.i2c, 1) := dk_146 (by decide +kernel)
theorem dX9_takeSign_130 : decode cX9_takeSign 130 = .ok (.invokevirtual 86, 3) := dk_182 (by decide +kernel)
theorem dX9_takeSign_133 : decode cX9_takeSign 133 = .ok (.ifCond .lt 7, 3) := dk_155 (by decide +kernel)
theorem dX9_takeSign_136 : decode cX9_takeSign 136 = .ok (.iload_n 1, 1) := dk_27 (by decide +kernel)
theorem dX9_takeSign_137 : decode cX9_takeSign 137 = .ok (.goto 4, 3) := dk_167 (by decide +kernel)
theorem dX9_takeSign_140 : decode cX9_takeSign 140 = .ok (.iconst 3, 1) := dk_6 (by decide +kernel)
theorem dX9_takeSign_141 : decode cX9_takeSign 141 = .ok (.putfield 37, 3) := dk_181 (by decide +kernel)
theorem dX9_takeSign_144 : decode cX9_takeSign 144 = .ok (.aload_n 0, 1) := dk_42 (by decide +kernel)
theorem dX9_takeSign_145 : decode cX9_takeSign 145 = .ok (.dup, 1) := dk_89 (by decide +kernel)
theorem dX9_takeSign_146 : decode cX9_takeSign 146 = .ok (.getfield 40, 3) := dk_180 (by decide +kernel)
theorem dX9_takeSign_149 : decode cX9_takeSign 149 = .ok (.iconst 1, 1) := dk_4 (by decide +kernel)
theorem dX9_takeSign_150 : decode cX9_takeSign 150 = .ok (.iadd, 1) := dk_96 (by decide +kernel)
theorem dX9_takeSign_151 : decode cX9_takeSign 151 = .ok (.putfield 40, 3) := dk_181 (by decide +kernel)
theorem dX9_takeSign_154 : decode cX9_takeSign 154 = .ok (.return_, 1) := dk_177 (by decide +kernel)
def wsMX9_takeSign : List Cond := .code yX9_takeSign cX9_takeSign 3 none :: ([.fieldLink RX9 40 "OptimaWorks$Words" "next" "I", .fieldLink RX9 19 "OptimaWorks$Words" "length" "I", .fieldLink RX9 9 "OptimaWorks$Words" "tape" "[B", .fieldLink RX9 37 "OptimaWorks$Words" "kind" "I"] ++ wsX90 ++ (wsV RX9 86 RJ0 yJ0_indexOf_0f7a4 wsMJ0_indexOf_0f7a4))
theorem iwsMX9_takeSign_in9 : ∀ w ∈ wsX90, w ∈ wsMX9_takeSign := fun _ h => List.mem_cons_of_mem _ (List.mem_append_left _ (List.mem_append_right _ h))
theorem gwsMX9_takeSign_0 : GoodIn wsMX9_takeSign (wsV RX9 86 RJ0 yJ0_indexOf_0f7a4 wsMJ0_indexOf_0f7a4) := goodIn_sub (fun _ h => List.mem_cons_of_mem _ (List.mem_append_right _ h)) (gdV (by decide +kernel) gdwsMJ0_indexOf_0f7a4)
theorem gdwsMX9_takeSign : wsMX9_takeSign.all goodWord = true := gdC rfl (gdA (gdA (by decide +kernel : ([.fieldLink RX9 40 "OptimaWorks$Words" "next" "I", .fieldLink RX9 19 "OptimaWorks$Words" "length" "I", .fieldLink RX9 9 "OptimaWorks$Words" "tape" "[B", .fieldLink RX9 37 "OptimaWorks$Words" "kind" "I"] : List Cond).all goodWord = true) gdwsX90) (gdV (by decide +kernel) gdwsMJ0_indexOf_0f7a4))
theorem hm_m_X9_takeSign_0 : (.fieldLink RX9 40 "OptimaWorks$Words" "next" "I" : Cond) ∈ wsMX9_takeSign := by decide +kernel
theorem hm_m_X9_takeSign_1 : (.fieldLink RX9 37 "OptimaWorks$Words" "kind" "I" : Cond) ∈ wsMX9_takeSign := by decide +kernel
set_option maxHeartbeats 4000000 in
set_option maxRecDepth 100000 in
/-- a sign -/
theorem m_X9_takeSign (l : Launch) (hst : l.stackTraces = false) (dC : Nat → ClassId) (dI : Nat → Nat → Nat) (hT : Nat → Nat) (aT : Nat → Nat) (kT : Nat → ClassId) (fT_tape : Nat → Int32) (dT_tape : Nat) (nT_tape : Nat) (iT_length : Int32) (iT_fault : Int32) (iT_place : Int32) (iT_kind : Int32) (iT_at : Int32) (iT_number : Int32) (jT_name : Int64) (iT_next : Int32) (p1 : Int32) (b_fT_tape : ∀ q : Nat, (-128) ≤ (fT_tape q).toInt ∧ (fT_tape q).toInt ≤ 127) (b_nT_tape : 64 ≤ nT_tape ∧ nT_tape ≤ 2560) (b_iT_length : 0 ≤ iT_length.toInt ∧ iT_length.toInt ≤ 1280) (b_iT_at : 0 ≤ iT_at.toInt ∧ iT_at.toInt ≤ 1282) (b_iT_number : 0 ≤ iT_number.toInt ∧ iT_number.toInt ≤ 999999) (b_iT_next : 0 ≤ iT_next.toInt ∧ iT_next.toInt ≤ 1282) (b_len : iT_length.toInt ≤ ((nT_tape : Nat) : Int)) (hlt : iT_next.toInt < iT_length.toInt) (sz : Nat) : Met l yX9_takeSign wsMX9_takeSign ({ frames := 4, cells := 0, slots := 0, locals := 91 }) (va_Pc [.ref (hT 0), .int p1] (fun U => U.heap.size = sz ∧ va_P (dC, dI) vwCl (WT hT aT kT fT_tape dT_tape nT_tape iT_length iT_fault iT_place iT_kind iT_at iT_number jT_name iT_next) U.heap ∧ va_K (dC, dI) vwCl (tT kT) U ∧ va_D (fun _ => True) (WT hT aT kT fT_tape dT_tape nT_tape iT_length iT_fault iT_place iT_kind iT_at iT_number jT_name iT_next) ∧ CE (va_A (WT hT aT kT fT_tape dT_tape nT_tape iT_length iT_fault iT_place iT_kind iT_at iT_number jT_name iT_next) sz) U U.heap)) (va_Qv (fun (u : (Int32) × (Int32)) => (0 ≤ (u.2).toInt ∧ (u.2).toInt ≤ 1282) ∧ ((u.2).toInt ≤ iT_length.toInt) ∧ (iT_next.toInt + 1 ≤ (u.2).toInt)) (fun (u : (Int32) × (Int32)) t => va_P (dC, dI) vwCl (WT hT aT kT fT_tape dT_tape nT_tape iT_length iT_fault iT_place (u.1) iT_at iT_number jT_name (u.2)) t.heap ∧ va_D (va_A (WT hT aT kT fT_tape dT_tape nT_tape iT_length iT_fault iT_place iT_kind iT_at iT_number jT_name iT_next) sz) (WT hT aT kT fT_tape dT_tape nT_tape iT_length iT_fault iT_place (u.1) iT_at iT_number jT_name (u.2))) (va_A (WT hT aT kT fT_tape dT_tape nT_tape iT_length iT_fault iT_place iT_kind iT_at iT_number jT_name iT_next) sz)) 0 0 (va_A (WT hT aT kT fT_tape dT_tape nT_tape iT_length iT_fault iT_place iT_kind iT_at iT_number jT_name iT_next) sz) := by
  refine Met.ofW (cc := cX9_takeSign) (maxL := 3) (ret := none) (by decide) rfl ?_
  intro p e s m args below meth c s₁ B hml hv
  obtain ⟨rfl, hsz, hP, hK, hD0, hE⟩ := hv
  have hx := B.exec
  have hb := B.bytes
  have hr := B.returns
  have hts := atoms_spec (ws := wsMX9_takeSign) B.pre
  have hown : s.vm.findClass RX9 = some m.cls := findClass_of_methodNamed B.named
  have hlocks := B.notSynchronized
  subst hsz
  have hD := hD0.self (sz := s.heap.size)
  generalize hAe : va_A (WT hT aT kT fT_tape dT_tape nT_tape iT_length iT_fault iT_place iT_kind iT_at iT_number jT_name iT_next) s.heap.size = A at hD hE ⊢
  have hA : ∀ q : Nat, s.heap.size ≤ q → A q := fun q h => by rw [← hAe]; exact Or.inr h
  have hS : va_S A s.heap s.heap [] := va_S.rf
  have hl := lv_entry ([.ref (hT 0), .int p1]) (n := 3) (Nat.le_of_ble_eq_true rfl)
  rw [lg_entry_eq]
  generalize (lg_sl ([.ref (hT 0), .int p1]) ++ List.replicate (3 - (lg_sl ([.ref (hT 0), .int p1])).length) Slot.unset).toArray = ls at hl ⊢
  have hl : lv_has ls 3 [(0, .ref (hT 0)), (1, .int p1)] := hl
  refine lv_aload_n hx hb dX9_takeSign_0 rfl (lv_at hl 0 rfl) ?_
  refine va_get (D := (dC, dI)) (ci := 9) (v := .int iT_next) (C := RX9) (T := TX9) (N := 9) hx hb hts iwsMX9_takeSign_in9 hown hK hP 0 rfl rfl 8 (by decide) (hts _ hm_m_X9_takeSign_0) (fun _ h9 => h9) rfl dX9_takeSign_1 ?_
  refine lv_iconst (v := 1) hx hb dX9_takeSign_4 (by decide) ?_
  refine lv_iadd hx hb dX9_takeSign_5 ?_
  refine lv_topi (fun y1 hy1 => ?_)
  obtain rfl : (iI (iT_next.toInt + 1)) = y1 := (hy1.trans (iI_add2 (iI_of _) (by decide : (1 : Int32) = iI 1))).symm
  refine lv_aload_n hx hb dX9_takeSign_6 rfl (lv_at hl 0 rfl) ?_
  refine va_get (D := (dC, dI)) (ci := 9) (v := .int iT_length) (C := RX9) (T := TX9) (N := 9) hx hb hts iwsMX9_takeSign_in9 hown hK hP 0 rfl rfl 1 (by decide) (hts (.fieldLink RX9 19 "OptimaWorks$Words" "length" "I") (by decide +kernel)) (fun _ h9 => h9) rfl dX9_takeSign_7 ?_
  refine W.cut (pc := 28) (fun H locs ls stk => ∃ (k0_j4 : Int32), ((-128) ≤ k0_j4.toInt ∧ k0_j4.toInt ≤ 127) ∧ (k0_j4.toInt ≠ -1 → iT_next.toInt + 1 < iT_length.toInt) ∧  stk = [.int k0_j4] ∧ va_P (dC, dI) vwCl (WT hT aT kT fT_tape dT_tape nT_tape iT_length iT_fault iT_place iT_kind iT_at iT_number jT_name iT_next) H ∧ va_D A (WT hT aT kT fT_tape dT_tape nT_tape iT_length iT_fault iT_place iT_kind iT_at iT_number jT_name iT_next) ∧ va_S A s.heap H locs ∧ lv_has ls 3 [(0, .ref (hT 0)), (1, .int p1)]) (fun join4 => ?_) ?_
  · refine lv_icmp_ge (tgt := 27) hx hb dX9_takeSign_10 (by decide) (fun c_10 => ?_) (fun c_10 => ?_)
    · have t_10 : (iT_next.toInt + 1) ≥ iT_length.toInt := toI_ge c_10 (iI_t (Int.le_trans (by decide) (Int.add_le_add (b_iT_next.1) (Int.le_refl _))) (Int.le_trans (Int.add_le_add (b_iT_next.2) (Int.le_refl _)) (by decide))) rfl
      refine lv_iconst (v := (-1)) hx hb dX9_takeSign_27 (by decide) ?_
      have hl : lv_has _ _ ([(0, .ref (hT 0)), (1, .int p1)]) := lv_sub hl [0, 1] rfl
      exact join4 _ _ _ _ ⟨(-1), (show (-128) ≤ ((-1) : Int32).toInt ∧ ((-1) : Int32).toInt ≤ 127 from by decide), (show ((-1) : Int32).toInt ≠ -1 → iT_next.toInt + 1 < iT_length.toInt from by first | (intro h9; exact absurd (by decide) h9) | (intro h9; omega)), rfl, hP, hD, hS, hl⟩
    · have t_10 : ¬ (iT_next.toInt + 1) ≥ iT_length.toInt := toI_nge c_10 (iI_t (Int.le_trans (by decide) (Int.add_le_add (b_iT_next.1) (Int.le_refl _))) (Int.le_trans (Int.add_le_add (b_iT_next.2) (Int.le_refl _)) (by decide))) rfl
      refine lv_aload_n hx hb dX9_takeSign_13 rfl (lv_at hl 0 rfl) ?_
      refine va_get (D := (dC, dI)) (ci := 9) (v := .ref dT_tape) (C := RX9) (T := TX9) (N := 9) hx hb hts iwsMX9_takeSign_in9 hown hK hP 0 rfl rfl 0 (by decide) (hts (.fieldLink RX9 9 "OptimaWorks$Words" "tape" "[B") (by decide +kernel)) (fun _ h9 => h9) rfl dX9_takeSign_14 ?_
      refine lv_aload_n hx hb dX9_takeSign_17 rfl (lv_at hl 0 rfl) ?_
      refine va_get (D := (dC, dI)) (ci := 9) (v := .int iT_next) (C := RX9) (T := TX9) (N := 9) hx hb hts iwsMX9_takeSign_in9 hown hK hP 0 rfl rfl 8 (by decide) (hts _ hm_m_X9_takeSign_0) (fun _ h9 => h9) rfl dX9_takeSign_18 ?_
      refine lv_iconst (v := 1) hx hb dX9_takeSign_21 (by decide) ?_
      refine lv_iadd hx hb dX9_takeSign_22 ?_
      refine lv_topi (fun y4 hy4 => ?_)
      obtain rfl : (iI (iT_next.toInt + 1)) = y4 := (hy4.trans (iI_add2 (iI_of _) (by decide : (1 : Int32) = iI 1))).symm
      refine va_bald (cA := kT 0) (n := nT_tape) (f := fT_tape) hx hb hK hP 1 0 rfl rfl (vp_iI (Int.le_trans (by decide) (Int.add_le_add (b_iT_next.1) (Int.le_refl _))) (by omega) (by omega)) dX9_takeSign_23 ?_
      refine lv_topi (fun v5 hv5 => ?_)
      have b_v5 : (-128) ≤ v5.toInt ∧ v5.toInt ≤ 127 := by rw [hv5]; exact b_fT_tape _
      clear hv5
      refine lv_goto (tgt := 28) hx hb dX9_takeSign_24 (by decide) ?_
      have hl : lv_has _ _ ([(0, .ref (hT 0)), (1, .int p1)]) := lv_sub hl [0, 1] rfl
      exact join4 _ _ _ _ ⟨v5, (b_v5), (show v5.toInt ≠ -1 → iT_next.toInt + 1 < iT_length.toInt from by first | (intro h9; exact absurd (by decide) h9) | (intro h9; omega)), rfl, hP, hD, hS, hl⟩
  · rintro H locs ls stk ⟨k0_j4, b_k0_j4, hjs, rfl, hP, hD, hS, hl⟩
    refine lv_istore_n hx hb dX9_takeSign_28 rfl hl (by decide) rfl (fun ls (hl : lv_has ls _ ([(2, .int k0_j4), (0, .ref (hT 0)), (1, .int p1)])) => ?_)
    refine lv_aload_n hx hb dX9_takeSign_29 rfl (lv_at hl 1 rfl) ?_
    refine lv_iload_n hx hb dX9_takeSign_30 rfl (lv_at hl 2 rfl) ?_
    refine lv_bipush (v := 46) hx hb dX9_takeSign_31 (by decide) ?_
    refine W.cut (pc := 103) (fun H locs ls stk => ∃ (k0_j5 : Int32), ((-1) ≤ k0_j5.toInt ∧ k0_j5.toInt ≤ 303) ∧ (k0_j5.toInt ≠ -1 → iT_next.toInt + 2 ≤ iT_length.toInt) ∧  stk = [.int k0_j5, .ref (hT 0)] ∧ va_P (dC, dI) vwCl (WT hT aT kT fT_tape dT_tape nT_tape iT_length iT_fault iT_place iT_kind iT_at iT_number jT_name iT_next) H ∧ va_D A (WT hT aT kT fT_tape dT_tape nT_tape iT_length iT_fault iT_place iT_kind iT_at iT_number jT_name iT_next) ∧ va_S A s.heap H locs ∧ lv_has ls 3 [(2, .int k0_j4), (0, .ref (hT 0)), (1, .int p1)]) (fun join5 => ?_) ?_
    · refine lv_icmp_ne (tgt := 48) hx hb dX9_takeSign_33 (by decide) (fun c_33 => ?_) (fun c_33 => ?_)
      · have t_33 : p1.toInt ≠ 46 := toI_ne c_33 rfl (by decide : (46 : Int32).toInt = 46)
        refine lv_iload_n hx hb dX9_takeSign_48 rfl (lv_at hl 2 rfl) ?_
        refine lv_bipush (v := 60) hx hb dX9_takeSign_49 (by decide) ?_
        refine lv_icmp_ne (tgt := 66) hx hb dX9_takeSign_51 (by decide) (fun c_51 => ?_) (fun c_51 => ?_)
        · have t_51 : p1.toInt ≠ 60 := toI_ne c_51 rfl (by decide : (60 : Int32).toInt = 60)
          refine lv_iload_n hx hb dX9_takeSign_66 rfl (lv_at hl 2 rfl) ?_
          refine lv_bipush (v := 62) hx hb dX9_takeSign_67 (by decide) ?_
          refine lv_icmp_ne (tgt := 84) hx hb dX9_takeSign_69 (by decide) (fun c_69 => ?_) (fun c_69 => ?_)
          · have t_69 : p1.toInt ≠ 62 := toI_ne c_69 rfl (by decide : (62 : Int32).toInt = 62)
            refine lv_iload_n hx hb dX9_takeSign_84 rfl (lv_at hl 2 rfl) ?_
            refine lv_bipush (v := 60) hx hb dX9_takeSign_85 (by decide) ?_
            refine lv_icmp_ne (tgt := 102) hx hb dX9_takeSign_87 (by decide) (fun c_87 => ?_) (fun c_87 => ?_)
            · have t_87 : p1.toInt ≠ 60 := toI_ne c_87 rfl (by decide : (60 : Int32).toInt = 60)
              refine lv_iconst (v := (-1)) hx hb dX9_takeSign_102 (by decide) ?_
              have hl : lv_has _ _ ([(2, .int k0_j4), (0, .ref (hT 0)), (1, .int p1)]) := lv_sub hl [0, 1, 2] rfl
              exact join5 _ _ _ _ ⟨(-1), (show (-1) ≤ ((-1) : Int32).toInt ∧ ((-1) : Int32).toInt ≤ 303 from by decide), (show ((-1) : Int32).toInt ≠ -1 → iT_next.toInt + 2 ≤ iT_length.toInt from by first | (intro h9; exact absurd (by decide) h9) | (intro h9; omega)), rfl, hP, hD, hS, hl⟩
            · have t_87 : p1.toInt = 60 := toI_nne c_87 rfl (by decide : (60 : Int32).toInt = 60)
              refine lv_iload_n hx hb dX9_takeSign_90 rfl (lv_at hl 0 rfl) ?_
              refine lv_bipush (v := 62) hx hb dX9_takeSign_91 (by decide) ?_
              refine lv_icmp_ne (tgt := 102) hx hb dX9_takeSign_93 (by decide) (fun c_93 => ?_) (fun c_93 => ?_)
              · have t_93 : k0_j4.toInt ≠ 62 := toI_ne c_93 rfl (by decide : (62 : Int32).toInt = 62)
                refine lv_iconst (v := (-1)) hx hb dX9_takeSign_102 (by decide) ?_
                have hl : lv_has _ _ ([(2, .int k0_j4), (0, .ref (hT 0)), (1, .int p1)]) := lv_sub hl [0, 1, 2] rfl
                exact join5 _ _ _ _ ⟨(-1), (show (-1) ≤ ((-1) : Int32).toInt ∧ ((-1) : Int32).toInt ≤ 303 from by decide), (show ((-1) : Int32).toInt ≠ -1 → iT_next.toInt + 2 ≤ iT_length.toInt from by first | (intro h9; exact absurd (by decide) h9) | (intro h9; omega)), rfl, hP, hD, hS, hl⟩
              · have t_93 : k0_j4.toInt = 62 := toI_nne c_93 rfl (by decide : (62 : Int32).toInt = 62)
                refine lv_sipush (v := 303) hx hb dX9_takeSign_96 (by decide) ?_
                refine lv_goto (tgt := 103) hx hb dX9_takeSign_99 (by decide) ?_
                have hl : lv_has _ _ ([(2, .int k0_j4), (0, .ref (hT 0)), (1, .int p1)]) := lv_sub hl [0, 1, 2] rfl
                exact join5 _ _ _ _ ⟨303, (show (-1) ≤ (303 : Int32).toInt ∧ (303 : Int32).toInt ≤ 303 from by decide), (show (303 : Int32).toInt ≠ -1 → iT_next.toInt + 2 ≤ iT_length.toInt from by first | (intro h9; exact absurd (by decide) h9) | (intro h9; omega)), rfl, hP, hD, hS, hl⟩
          · have t_69 : p1.toInt = 62 := toI_nne c_69 rfl (by decide : (62 : Int32).toInt = 62)
            refine lv_iload_n hx hb dX9_takeSign_72 rfl (lv_at hl 0 rfl) ?_
            refine lv_bipush (v := 61) hx hb dX9_takeSign_73 (by decide) ?_
            refine lv_icmp_ne (tgt := 84) hx hb dX9_takeSign_75 (by decide) (fun c_75 => ?_) (fun c_75 => ?_)
            · have t_75 : k0_j4.toInt ≠ 61 := toI_ne c_75 rfl (by decide : (61 : Int32).toInt = 61)
              refine lv_iload_n hx hb dX9_takeSign_84 rfl (lv_at hl 2 rfl) ?_
              refine lv_bipush (v := 60) hx hb dX9_takeSign_85 (by decide) ?_
              refine lv_icmp_ne (tgt := 102) hx hb dX9_takeSign_87 (by decide) (fun c_87 => ?_) (fun c_87 => ?_)
              · have t_87 : p1.toInt ≠ 60 := toI_ne c_87 rfl (by decide : (60 : Int32).toInt = 60)
                refine lv_iconst (v := (-1)) hx hb dX9_takeSign_102 (by decide) ?_
                have hl : lv_has _ _ ([(2, .int k0_j4), (0, .ref (hT 0)), (1, .int p1)]) := lv_sub hl [0, 1, 2] rfl
                exact join5 _ _ _ _ ⟨(-1), (show (-1) ≤ ((-1) : Int32).toInt ∧ ((-1) : Int32).toInt ≤ 303 from by decide), (show ((-1) : Int32).toInt ≠ -1 → iT_next.toInt + 2 ≤ iT_length.toInt from by first | (intro h9; exact absurd (by decide) h9) | (intro h9; omega)), rfl, hP, hD, hS, hl⟩
              · have t_87 : p1.toInt = 60 := toI_nne c_87 rfl (by decide : (60 : Int32).toInt = 60)
                refine lv_iload_n hx hb dX9_takeSign_90 rfl (lv_at hl 0 rfl) ?_
                refine lv_bipush (v := 62) hx hb dX9_takeSign_91 (by decide) ?_
                refine lv_icmp_ne (tgt := 102) hx hb dX9_takeSign_93 (by decide) (fun c_93 => ?_) (fun c_93 => ?_)
                · have t_93 : k0_j4.toInt ≠ 62 := toI_ne c_93 rfl (by decide : (62 : Int32).toInt = 62)
                  refine lv_iconst (v := (-1)) hx hb dX9_takeSign_102 (by decide) ?_
                  have hl : lv_has _ _ ([(2, .int k0_j4), (0, .ref (hT 0)), (1, .int p1)]) := lv_sub hl [0, 1, 2] rfl
                  exact join5 _ _ _ _ ⟨(-1), (show (-1) ≤ ((-1) : Int32).toInt ∧ ((-1) : Int32).toInt ≤ 303 from by decide), (show ((-1) : Int32).toInt ≠ -1 → iT_next.toInt + 2 ≤ iT_length.toInt from by first | (intro h9; exact absurd (by decide) h9) | (intro h9; omega)), rfl, hP, hD, hS, hl⟩
                · have t_93 : k0_j4.toInt = 62 := toI_nne c_93 rfl (by decide : (62 : Int32).toInt = 62)
                  refine lv_sipush (v := 303) hx hb dX9_takeSign_96 (by decide) ?_
                  refine lv_goto (tgt := 103) hx hb dX9_takeSign_99 (by decide) ?_
                  have hl : lv_has _ _ ([(2, .int k0_j4), (0, .ref (hT 0)), (1, .int p1)]) := lv_sub hl [0, 1, 2] rfl
                  exact join5 _ _ _ _ ⟨303, (show (-1) ≤ (303 : Int32).toInt ∧ (303 : Int32).toInt ≤ 303 from by decide), (show (303 : Int32).toInt ≠ -1 → iT_next.toInt + 2 ≤ iT_length.toInt from by first | (intro h9; exact absurd (by decide) h9) | (intro h9; omega)), rfl, hP, hD, hS, hl⟩
            · have t_75 : k0_j4.toInt = 61 := toI_nne c_75 rfl (by decide : (61 : Int32).toInt = 61)
              refine lv_sipush (v := 302) hx hb dX9_takeSign_78 (by decide) ?_
              refine lv_goto (tgt := 103) hx hb dX9_takeSign_81 (by decide) ?_
              have hl : lv_has _ _ ([(2, .int k0_j4), (0, .ref (hT 0)), (1, .int p1)]) := lv_sub hl [0, 1, 2] rfl
              exact join5 _ _ _ _ ⟨302, (show (-1) ≤ (302 : Int32).toInt ∧ (302 : Int32).toInt ≤ 303 from by decide), (show (302 : Int32).toInt ≠ -1 → iT_next.toInt + 2 ≤ iT_length.toInt from by first | (intro h9; exact absurd (by decide) h9) | (intro h9; omega)), rfl, hP, hD, hS, hl⟩
        · have t_51 : p1.toInt = 60 := toI_nne c_51 rfl (by decide : (60 : Int32).toInt = 60)
          refine lv_iload_n hx hb dX9_takeSign_54 rfl (lv_at hl 0 rfl) ?_
          refine lv_bipush (v := 61) hx hb dX9_takeSign_55 (by decide) ?_
          refine lv_icmp_ne (tgt := 66) hx hb dX9_takeSign_57 (by decide) (fun c_57 => ?_) (fun c_57 => ?_)
          · have t_57 : k0_j4.toInt ≠ 61 := toI_ne c_57 rfl (by decide : (61 : Int32).toInt = 61)
            refine lv_iload_n hx hb dX9_takeSign_66 rfl (lv_at hl 2 rfl) ?_
            refine lv_bipush (v := 62) hx hb dX9_takeSign_67 (by decide) ?_
            refine lv_icmp_ne (tgt := 84) hx hb dX9_takeSign_69 (by decide) (fun c_69 => ?_) (fun c_69 => ?_)
            · have t_69 : p1.toInt ≠ 62 := toI_ne c_69 rfl (by decide : (62 : Int32).toInt = 62)
              refine lv_iload_n hx hb dX9_takeSign_84 rfl (lv_at hl 2 rfl) ?_
              refine lv_bipush (v := 60) hx hb dX9_takeSign_85 (by decide) ?_
              refine lv_icmp_ne (tgt := 102) hx hb dX9_takeSign_87 (by decide) (fun c_87 => ?_) (fun c_87 => ?_)
              · have t_87 : p1.toInt ≠ 60 := toI_ne c_87 rfl (by decide : (60 : Int32).toInt = 60)
                refine lv_iconst (v := (-1)) hx hb dX9_takeSign_102 (by decide) ?_
                have hl : lv_has _ _ ([(2, .int k0_j4), (0, .ref (hT 0)), (1, .int p1)]) := lv_sub hl [0, 1, 2] rfl
                exact join5 _ _ _ _ ⟨(-1), (show (-1) ≤ ((-1) : Int32).toInt ∧ ((-1) : Int32).toInt ≤ 303 from by decide), (show ((-1) : Int32).toInt ≠ -1 → iT_next.toInt + 2 ≤ iT_length.toInt from by first | (intro h9; exact absurd (by decide) h9) | (intro h9; omega)), rfl, hP, hD, hS, hl⟩
              · have t_87 : p1.toInt = 60 := toI_nne c_87 rfl (by decide : (60 : Int32).toInt = 60)
                refine lv_iload_n hx hb dX9_takeSign_90 rfl (lv_at hl 0 rfl) ?_
                refine lv_bipush (v := 62) hx hb dX9_takeSign_91 (by decide) ?_
                refine lv_icmp_ne (tgt := 102) hx hb dX9_takeSign_93 (by decide) (fun c_93 => ?_) (fun c_93 => ?_)
                · have t_93 : k0_j4.toInt ≠ 62 := toI_ne c_93 rfl (by decide : (62 : Int32).toInt = 62)
                  refine lv_iconst (v := (-1)) hx hb dX9_takeSign_102 (by decide) ?_
                  have hl : lv_has _ _ ([(2, .int k0_j4), (0, .ref (hT 0)), (1, .int p1)]) := lv_sub hl [0, 1, 2] rfl
                  exact join5 _ _ _ _ ⟨(-1), (show (-1) ≤ ((-1) : Int32).toInt ∧ ((-1) : Int32).toInt ≤ 303 from by decide), (show ((-1) : Int32).toInt ≠ -1 → iT_next.toInt + 2 ≤ iT_length.toInt from by first | (intro h9; exact absurd (by decide) h9) | (intro h9; omega)), rfl, hP, hD, hS, hl⟩
                · have t_93 : k0_j4.toInt = 62 := toI_nne c_93 rfl (by decide : (62 : Int32).toInt = 62)
                  refine lv_sipush (v := 303) hx hb dX9_takeSign_96 (by decide) ?_
                  refine lv_goto (tgt := 103) hx hb dX9_takeSign_99 (by decide) ?_
                  have hl : lv_has _ _ ([(2, .int k0_j4), (0, .ref (hT 0)), (1, .int p1)]) := lv_sub hl [0, 1, 2] rfl
                  exact join5 _ _ _ _ ⟨303, (show (-1) ≤ (303 : Int32).toInt ∧ (303 : Int32).toInt ≤ 303 from by decide), (show (303 : Int32).toInt ≠ -1 → iT_next.toInt + 2 ≤ iT_length.toInt from by first | (intro h9; exact absurd (by decide) h9) | (intro h9; omega)), rfl, hP, hD, hS, hl⟩
            · have t_69 : p1.toInt = 62 := toI_nne c_69 rfl (by decide : (62 : Int32).toInt = 62)
              refine lv_iload_n hx hb dX9_takeSign_72 rfl (lv_at hl 0 rfl) ?_
              refine lv_bipush (v := 61) hx hb dX9_takeSign_73 (by decide) ?_
              refine lv_icmp_ne (tgt := 84) hx hb dX9_takeSign_75 (by decide) (fun c_75 => ?_) (fun c_75 => ?_)
              · have t_75 : k0_j4.toInt ≠ 61 := toI_ne c_75 rfl (by decide : (61 : Int32).toInt = 61)
                refine lv_iload_n hx hb dX9_takeSign_84 rfl (lv_at hl 2 rfl) ?_
                refine lv_bipush (v := 60) hx hb dX9_takeSign_85 (by decide) ?_
                refine lv_icmp_ne (tgt := 102) hx hb dX9_takeSign_87 (by decide) (fun c_87 => ?_) (fun c_87 => ?_)
                · have t_87 : p1.toInt ≠ 60 := toI_ne c_87 rfl (by decide : (60 : Int32).toInt = 60)
                  refine lv_iconst (v := (-1)) hx hb dX9_takeSign_102 (by decide) ?_
                  have hl : lv_has _ _ ([(2, .int k0_j4), (0, .ref (hT 0)), (1, .int p1)]) := lv_sub hl [0, 1, 2] rfl
                  exact join5 _ _ _ _ ⟨(-1), (show (-1) ≤ ((-1) : Int32).toInt ∧ ((-1) : Int32).toInt ≤ 303 from by decide), (show ((-1) : Int32).toInt ≠ -1 → iT_next.toInt + 2 ≤ iT_length.toInt from by first | (intro h9; exact absurd (by decide) h9) | (intro h9; omega)), rfl, hP, hD, hS, hl⟩
                · have t_87 : p1.toInt = 60 := toI_nne c_87 rfl (by decide : (60 : Int32).toInt = 60)
                  refine lv_iload_n hx hb dX9_takeSign_90 rfl (lv_at hl 0 rfl) ?_
                  refine lv_bipush (v := 62) hx hb dX9_takeSign_91 (by decide) ?_
                  refine lv_icmp_ne (tgt := 102) hx hb dX9_takeSign_93 (by decide) (fun c_93 => ?_) (fun c_93 => ?_)
                  · have t_93 : k0_j4.toInt ≠ 62 := toI_ne c_93 rfl (by decide : (62 : Int32).toInt = 62)
                    refine lv_iconst (v := (-1)) hx hb dX9_takeSign_102 (by decide) ?_
                    have hl : lv_has _ _ ([(2, .int k0_j4), (0, .ref (hT 0)), (1, .int p1)]) := lv_sub hl [0, 1, 2] rfl
                    exact join5 _ _ _ _ ⟨(-1), (show (-1) ≤ ((-1) : Int32).toInt ∧ ((-1) : Int32).toInt ≤ 303 from by decide), (show ((-1) : Int32).toInt ≠ -1 → iT_next.toInt + 2 ≤ iT_length.toInt from by first | (intro h9; exact absurd (by decide) h9) | (intro h9; omega)), rfl, hP, hD, hS, hl⟩
                  · have t_93 : k0_j4.toInt = 62 := toI_nne c_93 rfl (by decide : (62 : Int32).toInt = 62)
                    refine lv_sipush (v := 303) hx hb dX9_takeSign_96 (by decide) ?_
                    refine lv_goto (tgt := 103) hx hb dX9_takeSign_99 (by decide) ?_
                    have hl : lv_has _ _ ([(2, .int k0_j4), (0, .ref (hT 0)), (1, .int p1)]) := lv_sub hl [0, 1, 2] rfl
                    exact join5 _ _ _ _ ⟨303, (show (-1) ≤ (303 : Int32).toInt ∧ (303 : Int32).toInt ≤ 303 from by decide), (show (303 : Int32).toInt ≠ -1 → iT_next.toInt + 2 ≤ iT_length.toInt from by first | (intro h9; exact absurd (by decide) h9) | (intro h9; omega)), rfl, hP, hD, hS, hl⟩
              · have t_75 : k0_j4.toInt = 61 := toI_nne c_75 rfl (by decide : (61 : Int32).toInt = 61)
                refine lv_sipush (v := 302) hx hb dX9_takeSign_78 (by decide) ?_
                refine lv_goto (tgt := 103) hx hb dX9_takeSign_81 (by decide) ?_
                have hl : lv_has _ _ ([(2, .int k0_j4), (0, .ref (hT 0)), (1, .int p1)]) := lv_sub hl [0, 1, 2] rfl
                exact join5 _ _ _ _ ⟨302, (show (-1) ≤ (302 : Int32).toInt ∧ (302 : Int32).toInt ≤ 303 from by decide), (show (302 : Int32).toInt ≠ -1 → iT_next.toInt + 2 ≤ iT_length.toInt from by first | (intro h9; exact absurd (by decide) h9) | (intro h9; omega)), rfl, hP, hD, hS, hl⟩
          · have t_57 : k0_j4.toInt = 61 := toI_nne c_57 rfl (by decide : (61 : Int32).toInt = 61)
            refine lv_sipush (v := 301) hx hb dX9_takeSign_60 (by decide) ?_
            refine lv_goto (tgt := 103) hx hb dX9_takeSign_63 (by decide) ?_
            have hl : lv_has _ _ ([(2, .int k0_j4), (0, .ref (hT 0)), (1, .int p1)]) := lv_sub hl [0, 1, 2] rfl
            exact join5 _ _ _ _ ⟨301, (show (-1) ≤ (301 : Int32).toInt ∧ (301 : Int32).toInt ≤ 303 from by decide), (show (301 : Int32).toInt ≠ -1 → iT_next.toInt + 2 ≤ iT_length.toInt from by first | (intro h9; exact absurd (by decide) h9) | (intro h9; omega)), rfl, hP, hD, hS, hl⟩
      · have t_33 : p1.toInt = 46 := toI_nne c_33 rfl (by decide : (46 : Int32).toInt = 46)
        refine lv_iload_n hx hb dX9_takeSign_36 rfl (lv_at hl 0 rfl) ?_
        refine lv_bipush (v := 46) hx hb dX9_takeSign_37 (by decide) ?_
        refine lv_icmp_ne (tgt := 48) hx hb dX9_takeSign_39 (by decide) (fun c_39 => ?_) (fun c_39 => ?_)
        · have t_39 : k0_j4.toInt ≠ 46 := toI_ne c_39 rfl (by decide : (46 : Int32).toInt = 46)
          refine lv_iload_n hx hb dX9_takeSign_48 rfl (lv_at hl 2 rfl) ?_
          refine lv_bipush (v := 60) hx hb dX9_takeSign_49 (by decide) ?_
          refine lv_icmp_ne (tgt := 66) hx hb dX9_takeSign_51 (by decide) (fun c_51 => ?_) (fun c_51 => ?_)
          · have t_51 : p1.toInt ≠ 60 := toI_ne c_51 rfl (by decide : (60 : Int32).toInt = 60)
            refine lv_iload_n hx hb dX9_takeSign_66 rfl (lv_at hl 2 rfl) ?_
            refine lv_bipush (v := 62) hx hb dX9_takeSign_67 (by decide) ?_
            refine lv_icmp_ne (tgt := 84) hx hb dX9_takeSign_69 (by decide) (fun c_69 => ?_) (fun c_69 => ?_)
            · have t_69 : p1.toInt ≠ 62 := toI_ne c_69 rfl (by decide : (62 : Int32).toInt = 62)
              refine lv_iload_n hx hb dX9_takeSign_84 rfl (lv_at hl 2 rfl) ?_
              refine lv_bipush (v := 60) hx hb dX9_takeSign_85 (by decide) ?_
              refine lv_icmp_ne (tgt := 102) hx hb dX9_takeSign_87 (by decide) (fun c_87 => ?_) (fun c_87 => ?_)
              · have t_87 : p1.toInt ≠ 60 := toI_ne c_87 rfl (by decide : (60 : Int32).toInt = 60)
                refine lv_iconst (v := (-1)) hx hb dX9_takeSign_102 (by decide) ?_
                have hl : lv_has _ _ ([(2, .int k0_j4), (0, .ref (hT 0)), (1, .int p1)]) := lv_sub hl [0, 1, 2] rfl
                exact join5 _ _ _ _ ⟨(-1), (show (-1) ≤ ((-1) : Int32).toInt ∧ ((-1) : Int32).toInt ≤ 303 from by decide), (show ((-1) : Int32).toInt ≠ -1 → iT_next.toInt + 2 ≤ iT_length.toInt from by first | (intro h9; exact absurd (by decide) h9) | (intro h9; omega)), rfl, hP, hD, hS, hl⟩
              · have t_87 : p1.toInt = 60 := toI_nne c_87 rfl (by decide : (60 : Int32).toInt = 60)
                refine lv_iload_n hx hb dX9_takeSign_90 rfl (lv_at hl 0 rfl) ?_
                refine lv_bipush (v := 62) hx hb dX9_takeSign_91 (by decide) ?_
                refine lv_icmp_ne (tgt := 102) hx hb dX9_takeSign_93 (by decide) (fun c_93 => ?_) (fun c_93 => ?_)
                · have t_93 : k0_j4.toInt ≠ 62 := toI_ne c_93 rfl (by decide : (62 : Int32).toInt = 62)
                  refine lv_iconst (v := (-1)) hx hb dX9_takeSign_102 (by decide) ?_
                  have hl : lv_has _ _ ([(2, .int k0_j4), (0, .ref (hT 0)), (1, .int p1)]) := lv_sub hl [0, 1, 2] rfl
                  exact join5 _ _ _ _ ⟨(-1), (show (-1) ≤ ((-1) : Int32).toInt ∧ ((-1) : Int32).toInt ≤ 303 from by decide), (show ((-1) : Int32).toInt ≠ -1 → iT_next.toInt + 2 ≤ iT_length.toInt from by first | (intro h9; exact absurd (by decide) h9) | (intro h9; omega)), rfl, hP, hD, hS, hl⟩
                · have t_93 : k0_j4.toInt = 62 := toI_nne c_93 rfl (by decide : (62 : Int32).toInt = 62)
                  refine lv_sipush (v := 303) hx hb dX9_takeSign_96 (by decide) ?_
                  refine lv_goto (tgt := 103) hx hb dX9_takeSign_99 (by decide) ?_
                  have hl : lv_has _ _ ([(2, .int k0_j4), (0, .ref (hT 0)), (1, .int p1)]) := lv_sub hl [0, 1, 2] rfl
                  exact join5 _ _ _ _ ⟨303, (show (-1) ≤ (303 : Int32).toInt ∧ (303 : Int32).toInt ≤ 303 from by decide), (show (303 : Int32).toInt ≠ -1 → iT_next.toInt + 2 ≤ iT_length.toInt from by first | (intro h9; exact absurd (by decide) h9) | (intro h9; omega)), rfl, hP, hD, hS, hl⟩
            · have t_69 : p1.toInt = 62 := toI_nne c_69 rfl (by decide : (62 : Int32).toInt = 62)
              refine lv_iload_n hx hb dX9_takeSign_72 rfl (lv_at hl 0 rfl) ?_
              refine lv_bipush (v := 61) hx hb dX9_takeSign_73 (by decide) ?_
              refine lv_icmp_ne (tgt := 84) hx hb dX9_takeSign_75 (by decide) (fun c_75 => ?_) (fun c_75 => ?_)
              · have t_75 : k0_j4.toInt ≠ 61 := toI_ne c_75 rfl (by decide : (61 : Int32).toInt = 61)
                refine lv_iload_n hx hb dX9_takeSign_84 rfl (lv_at hl 2 rfl) ?_
                refine lv_bipush (v := 60) hx hb dX9_takeSign_85 (by decide) ?_
                refine lv_icmp_ne (tgt := 102) hx hb dX9_takeSign_87 (by decide) (fun c_87 => ?_) (fun c_87 => ?_)
                · have t_87 : p1.toInt ≠ 60 := toI_ne c_87 rfl (by decide : (60 : Int32).toInt = 60)
                  refine lv_iconst (v := (-1)) hx hb dX9_takeSign_102 (by decide) ?_
                  have hl : lv_has _ _ ([(2, .int k0_j4), (0, .ref (hT 0)), (1, .int p1)]) := lv_sub hl [0, 1, 2] rfl
                  exact join5 _ _ _ _ ⟨(-1), (show (-1) ≤ ((-1) : Int32).toInt ∧ ((-1) : Int32).toInt ≤ 303 from by decide), (show ((-1) : Int32).toInt ≠ -1 → iT_next.toInt + 2 ≤ iT_length.toInt from by first | (intro h9; exact absurd (by decide) h9) | (intro h9; omega)), rfl, hP, hD, hS, hl⟩
                · have t_87 : p1.toInt = 60 := toI_nne c_87 rfl (by decide : (60 : Int32).toInt = 60)
                  refine lv_iload_n hx hb dX9_takeSign_90 rfl (lv_at hl 0 rfl) ?_
                  refine lv_bipush (v := 62) hx hb dX9_takeSign_91 (by decide) ?_
                  refine lv_icmp_ne (tgt := 102) hx hb dX9_takeSign_93 (by decide) (fun c_93 => ?_) (fun c_93 => ?_)
                  · have t_93 : k0_j4.toInt ≠ 62 := toI_ne c_93 rfl (by decide : (62 : Int32).toInt = 62)
                    refine lv_iconst (v := (-1)) hx hb dX9_takeSign_102 (by decide) ?_
                    have hl : lv_has _ _ ([(2, .int k0_j4), (0, .ref (hT 0)), (1, .int p1)]) := lv_sub hl [0, 1, 2] rfl
                    exact join5 _ _ _ _ ⟨(-1), (show (-1) ≤ ((-1) : Int32).toInt ∧ ((-1) : Int32).toInt ≤ 303 from by decide), (show ((-1) : Int32).toInt ≠ -1 → iT_next.toInt + 2 ≤ iT_length.toInt from by first | (intro h9; exact absurd (by decide) h9) | (intro h9; omega)), rfl, hP, hD, hS, hl⟩
                  · have t_93 : k0_j4.toInt = 62 := toI_nne c_93 rfl (by decide : (62 : Int32).toInt = 62)
                    refine lv_sipush (v := 303) hx hb dX9_takeSign_96 (by decide) ?_
                    refine lv_goto (tgt := 103) hx hb dX9_takeSign_99 (by decide) ?_
                    have hl : lv_has _ _ ([(2, .int k0_j4), (0, .ref (hT 0)), (1, .int p1)]) := lv_sub hl [0, 1, 2] rfl
                    exact join5 _ _ _ _ ⟨303, (show (-1) ≤ (303 : Int32).toInt ∧ (303 : Int32).toInt ≤ 303 from by decide), (show (303 : Int32).toInt ≠ -1 → iT_next.toInt + 2 ≤ iT_length.toInt from by first | (intro h9; exact absurd (by decide) h9) | (intro h9; omega)), rfl, hP, hD, hS, hl⟩
              · have t_75 : k0_j4.toInt = 61 := toI_nne c_75 rfl (by decide : (61 : Int32).toInt = 61)
                refine lv_sipush (v := 302) hx hb dX9_takeSign_78 (by decide) ?_
                refine lv_goto (tgt := 103) hx hb dX9_takeSign_81 (by decide) ?_
                have hl : lv_has _ _ ([(2, .int k0_j4), (0, .ref (hT 0)), (1, .int p1)]) := lv_sub hl [0, 1, 2] rfl
                exact join5 _ _ _ _ ⟨302, (show (-1) ≤ (302 : Int32).toInt ∧ (302 : Int32).toInt ≤ 303 from by decide), (show (302 : Int32).toInt ≠ -1 → iT_next.toInt + 2 ≤ iT_length.toInt from by first | (intro h9; exact absurd (by decide) h9) | (intro h9; omega)), rfl, hP, hD, hS, hl⟩
          · have t_51 : p1.toInt = 60 := toI_nne c_51 rfl (by decide : (60 : Int32).toInt = 60)
            refine lv_iload_n hx hb dX9_takeSign_54 rfl (lv_at hl 0 rfl) ?_
            refine lv_bipush (v := 61) hx hb dX9_takeSign_55 (by decide) ?_
            refine lv_icmp_ne (tgt := 66) hx hb dX9_takeSign_57 (by decide) (fun c_57 => ?_) (fun c_57 => ?_)
            · have t_57 : k0_j4.toInt ≠ 61 := toI_ne c_57 rfl (by decide : (61 : Int32).toInt = 61)
              refine lv_iload_n hx hb dX9_takeSign_66 rfl (lv_at hl 2 rfl) ?_
              refine lv_bipush (v := 62) hx hb dX9_takeSign_67 (by decide) ?_
              refine lv_icmp_ne (tgt := 84) hx hb dX9_takeSign_69 (by decide) (fun c_69 => ?_) (fun c_69 => ?_)
              · have t_69 : p1.toInt ≠ 62 := toI_ne c_69 rfl (by decide : (62 : Int32).toInt = 62)
                refine lv_iload_n hx hb dX9_takeSign_84 rfl (lv_at hl 2 rfl) ?_
                refine lv_bipush (v := 60) hx hb dX9_takeSign_85 (by decide) ?_
                refine lv_icmp_ne (tgt := 102) hx hb dX9_takeSign_87 (by decide) (fun c_87 => ?_) (fun c_87 => ?_)
                · have t_87 : p1.toInt ≠ 60 := toI_ne c_87 rfl (by decide : (60 : Int32).toInt = 60)
                  refine lv_iconst (v := (-1)) hx hb dX9_takeSign_102 (by decide) ?_
                  have hl : lv_has _ _ ([(2, .int k0_j4), (0, .ref (hT 0)), (1, .int p1)]) := lv_sub hl [0, 1, 2] rfl
                  exact join5 _ _ _ _ ⟨(-1), (show (-1) ≤ ((-1) : Int32).toInt ∧ ((-1) : Int32).toInt ≤ 303 from by decide), (show ((-1) : Int32).toInt ≠ -1 → iT_next.toInt + 2 ≤ iT_length.toInt from by first | (intro h9; exact absurd (by decide) h9) | (intro h9; omega)), rfl, hP, hD, hS, hl⟩
                · have t_87 : p1.toInt = 60 := toI_nne c_87 rfl (by decide : (60 : Int32).toInt = 60)
                  refine lv_iload_n hx hb dX9_takeSign_90 rfl (lv_at hl 0 rfl) ?_
                  refine lv_bipush (v := 62) hx hb dX9_takeSign_91 (by decide) ?_
                  refine lv_icmp_ne (tgt := 102) hx hb dX9_takeSign_93 (by decide) (fun c_93 => ?_) (fun c_93 => ?_)
                  · have t_93 : k0_j4.toInt ≠ 62 := toI_ne c_93 rfl (by decide : (62 : Int32).toInt = 62)
                    refine lv_iconst (v := (-1)) hx hb dX9_takeSign_102 (by decide) ?_
                    have hl : lv_has _ _ ([(2, .int k0_j4), (0, .ref (hT 0)), (1, .int p1)]) := lv_sub hl [0, 1, 2] rfl
                    exact join5 _ _ _ _ ⟨(-1), (show (-1) ≤ ((-1) : Int32).toInt ∧ ((-1) : Int32).toInt ≤ 303 from by decide), (show ((-1) : Int32).toInt ≠ -1 → iT_next.toInt + 2 ≤ iT_length.toInt from by first | (intro h9; exact absurd (by decide) h9) | (intro h9; omega)), rfl, hP, hD, hS, hl⟩
                  · have t_93 : k0_j4.toInt = 62 := toI_nne c_93 rfl (by decide : (62 : Int32).toInt = 62)
                    refine lv_sipush (v := 303) hx hb dX9_takeSign_96 (by decide) ?_
                    refine lv_goto (tgt := 103) hx hb dX9_takeSign_99 (by decide) ?_
                    have hl : lv_has _ _ ([(2, .int k0_j4), (0, .ref (hT 0)), (1, .int p1)]) := lv_sub hl [0, 1, 2] rfl
                    exact join5 _ _ _ _ ⟨303, (show (-1) ≤ (303 : Int32).toInt ∧ (303 : Int32).toInt ≤ 303 from by decide), (show (303 : Int32).toInt ≠ -1 → iT_next.toInt + 2 ≤ iT_length.toInt from by first | (intro h9; exact absurd (by decide) h9) | (intro h9; omega)), rfl, hP, hD, hS, hl⟩
              · have t_69 : p1.toInt = 62 := toI_nne c_69 rfl (by decide : (62 : Int32).toInt = 62)
                refine lv_iload_n hx hb dX9_takeSign_72 rfl (lv_at hl 0 rfl) ?_
                refine lv_bipush (v := 61) hx hb dX9_takeSign_73 (by decide) ?_
                refine lv_icmp_ne (tgt := 84) hx hb dX9_takeSign_75 (by decide) (fun c_75 => ?_) (fun c_75 => ?_)
                · have t_75 : k0_j4.toInt ≠ 61 := toI_ne c_75 rfl (by decide : (61 : Int32).toInt = 61)
                  refine lv_iload_n hx hb dX9_takeSign_84 rfl (lv_at hl 2 rfl) ?_
                  refine lv_bipush (v := 60) hx hb dX9_takeSign_85 (by decide) ?_
                  refine lv_icmp_ne (tgt := 102) hx hb dX9_takeSign_87 (by decide) (fun c_87 => ?_) (fun c_87 => ?_)
                  · have t_87 : p1.toInt ≠ 60 := toI_ne c_87 rfl (by decide : (60 : Int32).toInt = 60)
                    refine lv_iconst (v := (-1)) hx hb dX9_takeSign_102 (by decide) ?_
                    have hl : lv_has _ _ ([(2, .int k0_j4), (0, .ref (hT 0)), (1, .int p1)]) := lv_sub hl [0, 1, 2] rfl
                    exact join5 _ _ _ _ ⟨(-1), (show (-1) ≤ ((-1) : Int32).toInt ∧ ((-1) : Int32).toInt ≤ 303 from by decide), (show ((-1) : Int32).toInt ≠ -1 → iT_next.toInt + 2 ≤ iT_length.toInt from by first | (intro h9; exact absurd (by decide) h9) | (intro h9; omega)), rfl, hP, hD, hS, hl⟩
                  · have t_87 : p1.toInt = 60 := toI_nne c_87 rfl (by decide : (60 : Int32).toInt = 60)
                    refine lv_iload_n hx hb dX9_takeSign_90 rfl (lv_at hl 0 rfl) ?_
                    refine lv_bipush (v := 62) hx hb dX9_takeSign_91 (by decide) ?_
                    refine lv_icmp_ne (tgt := 102) hx hb dX9_takeSign_93 (by decide) (fun c_93 => ?_) (fun c_93 => ?_)
                    · have t_93 : k0_j4.toInt ≠ 62 := toI_ne c_93 rfl (by decide : (62 : Int32).toInt = 62)
                      refine lv_iconst (v := (-1)) hx hb dX9_takeSign_102 (by decide) ?_
                      have hl : lv_has _ _ ([(2, .int k0_j4), (0, .ref (hT 0)), (1, .int p1)]) := lv_sub hl [0, 1, 2] rfl
                      exact join5 _ _ _ _ ⟨(-1), (show (-1) ≤ ((-1) : Int32).toInt ∧ ((-1) : Int32).toInt ≤ 303 from by decide), (show ((-1) : Int32).toInt ≠ -1 → iT_next.toInt + 2 ≤ iT_length.toInt from by first | (intro h9; exact absurd (by decide) h9) | (intro h9; omega)), rfl, hP, hD, hS, hl⟩
                    · have t_93 : k0_j4.toInt = 62 := toI_nne c_93 rfl (by decide : (62 : Int32).toInt = 62)
                      refine lv_sipush (v := 303) hx hb dX9_takeSign_96 (by decide) ?_
                      refine lv_goto (tgt := 103) hx hb dX9_takeSign_99 (by decide) ?_
                      have hl : lv_has _ _ ([(2, .int k0_j4), (0, .ref (hT 0)), (1, .int p1)]) := lv_sub hl [0, 1, 2] rfl
                      exact join5 _ _ _ _ ⟨303, (show (-1) ≤ (303 : Int32).toInt ∧ (303 : Int32).toInt ≤ 303 from by decide), (show (303 : Int32).toInt ≠ -1 → iT_next.toInt + 2 ≤ iT_length.toInt from by first | (intro h9; exact absurd (by decide) h9) | (intro h9; omega)), rfl, hP, hD, hS, hl⟩
                · have t_75 : k0_j4.toInt = 61 := toI_nne c_75 rfl (by decide : (61 : Int32).toInt = 61)
                  refine lv_sipush (v := 302) hx hb dX9_takeSign_78 (by decide) ?_
                  refine lv_goto (tgt := 103) hx hb dX9_takeSign_81 (by decide) ?_
                  have hl : lv_has _ _ ([(2, .int k0_j4), (0, .ref (hT 0)), (1, .int p1)]) := lv_sub hl [0, 1, 2] rfl
                  exact join5 _ _ _ _ ⟨302, (show (-1) ≤ (302 : Int32).toInt ∧ (302 : Int32).toInt ≤ 303 from by decide), (show (302 : Int32).toInt ≠ -1 → iT_next.toInt + 2 ≤ iT_length.toInt from by first | (intro h9; exact absurd (by decide) h9) | (intro h9; omega)), rfl, hP, hD, hS, hl⟩
            · have t_57 : k0_j4.toInt = 61 := toI_nne c_57 rfl (by decide : (61 : Int32).toInt = 61)
              refine lv_sipush (v := 301) hx hb dX9_takeSign_60 (by decide) ?_
              refine lv_goto (tgt := 103) hx hb dX9_takeSign_63 (by decide) ?_
              have hl : lv_has _ _ ([(2, .int k0_j4), (0, .ref (hT 0)), (1, .int p1)]) := lv_sub hl [0, 1, 2] rfl
              exact join5 _ _ _ _ ⟨301, (show (-1) ≤ (301 : Int32).toInt ∧ (301 : Int32).toInt ≤ 303 from by decide), (show (301 : Int32).toInt ≠ -1 → iT_next.toInt + 2 ≤ iT_length.toInt from by first | (intro h9; exact absurd (by decide) h9) | (intro h9; omega)), rfl, hP, hD, hS, hl⟩
        · have t_39 : k0_j4.toInt = 46 := toI_nne c_39 rfl (by decide : (46 : Int32).toInt = 46)
          refine lv_sipush (v := 300) hx hb dX9_takeSign_42 (by decide) ?_
          refine lv_goto (tgt := 103) hx hb dX9_takeSign_45 (by decide) ?_
          have hl : lv_has _ _ ([(2, .int k0_j4), (0, .ref (hT 0)), (1, .int p1)]) := lv_sub hl [0, 1, 2] rfl
          exact join5 _ _ _ _ ⟨300, (show (-1) ≤ (300 : Int32).toInt ∧ (300 : Int32).toInt ≤ 303 from by decide), (show (300 : Int32).toInt ≠ -1 → iT_next.toInt + 2 ≤ iT_length.toInt from by first | (intro h9; exact absurd (by decide) h9) | (intro h9; omega)), rfl, hP, hD, hS, hl⟩
    · rintro H locs ls stk ⟨k0_j5, b_k0_j5, hjk, rfl, hP, hD, hS, hl⟩
      refine va_put (D := (dC, dI)) (ci := 9) (v := .int k0_j5) (ty := .int) (C := RX9) (T := TX9) (N := 9) hx hb hts iwsMX9_takeSign_in9 tyX9 tyX9_ok nmX9 hown hK hP hD hS 0 rfl rfl 4 (by decide) (hts _ hm_m_X9_takeSign_1) (fun _ h9 => h9) rfl (by decide +kernel) rfl rfl (Nat.le_of_ble_eq_true rfl) dX9_takeSign_103 (fun H locs hP hD hS => ?_)
      have hP : va_P (dC, dI) vwCl (WT hT aT kT fT_tape dT_tape nT_tape iT_length iT_fault iT_place k0_j5 iT_at iT_number jT_name iT_next) H := hP
      have hD := fz_sd hP (hD) rfl
      refine lv_aload_n hx hb dX9_takeSign_106 rfl (lv_at hl 1 rfl) ?_
      refine va_get (D := (dC, dI)) (ci := 9) (v := .int k0_j5) (C := RX9) (T := TX9) (N := 9) hx hb hts iwsMX9_takeSign_in9 hown hK hP 0 rfl rfl 4 (by decide) (hts _ hm_m_X9_takeSign_1) (fun _ h9 => h9) rfl dX9_takeSign_107 ?_
      refine lv_iconst (v := (-1)) hx hb dX9_takeSign_110 (by decide) ?_
      refine lv_icmp_eq (tgt := 125) hx hb dX9_takeSign_111 (by decide) (fun c_111 => ?_) (fun c_111 => ?_)
      · have t_111 : k0_j5.toInt = (-1) := toI_eq c_111 rfl (by decide : ((-1) : Int32).toInt = (-1))
        refine lv_aload_n hx hb dX9_takeSign_125 rfl (lv_at hl 1 rfl) ?_
        obtain ⟨qS84, hR84, hSS84⟩ := hE.2.2.2 23 _ rfl
        refine va_ldcS hx hb hown hR84 dX9_takeSign_126 ?_
        refine lv_iload_n hx hb dX9_takeSign_128 rfl (lv_at hl 2 rfl) ?_
        refine lv_i2c hx hb dX9_takeSign_129 rfl ?_
        refine lv_topi (fun v6 hv6 => ?_)
        clear hv6
        have hFc := noneFree hS hA
        refine va_calli (va_runV (As := [.int v6]) (rest := [.ref (hT 0)]) ⟨hx, hb, hml, hown, hts⟩ (m_J0_indexOf_0f7a4 l dC dI qS84 16 (fun j => ([61, 60, 62, 58, 59, 44, 91, 93, 123, 125, 40, 41, 43, 45, 42, 47] : List Int32).getD j 0) v6 (by decide) H.size) (cwV 1 hts gwsMX9_takeSign_0 rfl rfl rfl hd_yJ0_indexOf_0f7a4_RJ0 (by decide +kernel)) ⟨fun a U g mk q => by obtain ⟨q0, q1, qP, qK, qD, qE⟩ := q; exact ⟨q0, q1, qP, va_K.moved (u := U) (U := U.calling g mk a) (Vm.Alike.refl U.vm) qK, qD, qE.same rfl⟩, hSS84.recv hS, fun U hU9 hW => ⟨rfl, by rw [hU9], by rw [hU9]; exact nilP, va_K.moved hW.alike (hK.sub (tys' := []) [] rfl), nilD, by rw [hU9]; exact (((hSS84 : (StrE qS84 16 (fun j => ([61, 60, 62, 58, 59, 44, 91, 93, 123, 125, 40, 41, 43, 45, 42, 47] : List Int32).getD j 0)) A s s.heap).kept hS.2.1).narrow (fun q h => hFc q h)).warm hW⟩⟩ rfl rfl hl.1 rfl (lv_room (Nat.le_of_ble_eq_true rfl)) dX9_takeSign_130 (by decide +kernel)) hS (fun q _ h => hFc q h) hFc (fun r7 u t9_ H1 locs ht hvm hw9 hB9 hz1 hk1 hS => ?_)
        clear hw9
        clear hB9
        have hP := keepAll hP hk1
        generalize H1 = H at hP hS ⊢
        have hP : va_P (dC, dI) vwCl (WT hT aT kT fT_tape dT_tape nT_tape iT_length iT_fault iT_place k0_j5 iT_at iT_number jT_name iT_next) H := hP
        have hD := fz_sd hP (hD) rfl
        refine W.cut (pc := 141) (fun H locs ls stk => ∃ (k0_j6 : Int32),  stk = [.int k0_j6, .ref (hT 0)] ∧ va_P (dC, dI) vwCl (WT hT aT kT fT_tape dT_tape nT_tape iT_length iT_fault iT_place k0_j5 iT_at iT_number jT_name iT_next) H ∧ va_D A (WT hT aT kT fT_tape dT_tape nT_tape iT_length iT_fault iT_place k0_j5 iT_at iT_number jT_name iT_next) ∧ va_S A s.heap H locs ∧ lv_has ls 3 [(2, .int k0_j4), (0, .ref (hT 0)), (1, .int p1)]) (fun join6 => ?_) ?_
        · refine lv_if_lt (tgt := 140) hx hb dX9_takeSign_133 (by decide) (fun c_133 => ?_) (fun c_133 => ?_)
          · have t_133 : r7.toInt < 0 := toI_lt c_133 rfl (by decide : (0 : Int32).toInt = 0)
            refine lv_iconst (v := 3) hx hb dX9_takeSign_140 (by decide) ?_
            have hl : lv_has _ _ ([(2, .int k0_j4), (0, .ref (hT 0)), (1, .int p1)]) := lv_sub hl [0, 1, 2] rfl
            exact join6 _ _ _ _ ⟨3, rfl, hP, hD, hS, hl⟩
          · have t_133 : ¬ r7.toInt < 0 := toI_nlt c_133 rfl (by decide : (0 : Int32).toInt = 0)
            refine lv_iload_n hx hb dX9_takeSign_136 rfl (lv_at hl 2 rfl) ?_
            refine lv_goto (tgt := 141) hx hb dX9_takeSign_137 (by decide) ?_
            have hl : lv_has _ _ ([(2, .int k0_j4), (0, .ref (hT 0)), (1, .int p1)]) := lv_sub hl [0, 1, 2] rfl
            exact join6 _ _ _ _ ⟨p1, rfl, hP, hD, hS, hl⟩
        · rintro H locs ls stk ⟨k0_j6, rfl, hP, hD, hS, hl⟩
          refine va_put (D := (dC, dI)) (ci := 9) (v := .int k0_j6) (ty := .int) (C := RX9) (T := TX9) (N := 9) hx hb hts iwsMX9_takeSign_in9 tyX9 tyX9_ok nmX9 hown hK hP hD hS 0 rfl rfl 4 (by decide) (hts _ hm_m_X9_takeSign_1) (fun _ h9 => h9) rfl (by decide +kernel) rfl rfl (Nat.le_of_ble_eq_true rfl) dX9_takeSign_141 (fun H locs hP hD hS => ?_)
          have hP : va_P (dC, dI) vwCl (WT hT aT kT fT_tape dT_tape nT_tape iT_length iT_fault iT_place k0_j6 iT_at iT_number jT_name iT_next) H := hP
          have hD := fz_sd hP (hD) rfl
          refine lv_aload_n hx hb dX9_takeSign_144 rfl (lv_at hl 1 rfl) ?_
          refine lv_dup hx hb dX9_takeSign_145 rfl ?_
          refine va_get (D := (dC, dI)) (ci := 9) (v := .int iT_next) (C := RX9) (T := TX9) (N := 9) hx hb hts iwsMX9_takeSign_in9 hown hK hP 0 rfl rfl 8 (by decide) (hts _ hm_m_X9_takeSign_0) (fun _ h9 => h9) rfl dX9_takeSign_146 ?_
          refine lv_iconst (v := 1) hx hb dX9_takeSign_149 (by decide) ?_
          refine lv_iadd hx hb dX9_takeSign_150 ?_
          refine lv_topi (fun y8 hy8 => ?_)
          obtain rfl : (iI (iT_next.toInt + 1)) = y8 := (hy8.trans (iI_add2 (iI_of _) (by decide : (1 : Int32) = iI 1))).symm
          refine va_put (D := (dC, dI)) (ci := 9) (v := .int (iI (iT_next.toInt + 1))) (ty := .int) (C := RX9) (T := TX9) (N := 9) hx hb hts iwsMX9_takeSign_in9 tyX9 tyX9_ok nmX9 hown hK hP hD hS 0 rfl rfl 8 (by decide) (hts _ hm_m_X9_takeSign_0) (fun _ h9 => h9) rfl (by decide +kernel) rfl rfl (Nat.le_of_ble_eq_true rfl) dX9_takeSign_151 (fun H locs hP hD hS => ?_)
          have hP : va_P (dC, dI) vwCl (WT hT aT kT fT_tape dT_tape nT_tape iT_length iT_fault iT_place k0_j6 iT_at iT_number jT_name (iI (iT_next.toInt + 1))) H := hP
          have hD := fz_sd hP (hD) rfl
          refine W.widen (k := 0) (n := 0) (by decide +kernel) (by decide +kernel) ?_
          exact W.vret hx hb hr (fun t9_ ht hW => ⟨⟨(k0_j6, (iI (iT_next.toInt + 1))), rfl, ⟨(by (try dsimp only); exact (iI_rng (Int.le_trans (by decide) (Int.add_le_add (b_iT_next.1) (Int.le_refl _))) (by omega) (by decide) (by decide))), (by (try dsimp only); first | assumption | omega | (rw [iI_t (by omega) (by omega)]; omega)), (by (try dsimp only); first | assumption | omega | (rw [iI_t (by omega) (by omega)]; omega))⟩, by rw [ht]; exact hP, hD⟩, hS.F ht⟩) hS.2.2 dX9_takeSign_154
      · have t_111 : ¬ k0_j5.toInt = (-1) := toI_neq c_111 rfl (by decide : ((-1) : Int32).toInt = (-1))
        refine lv_aload_n hx hb dX9_takeSign_114 rfl (lv_at hl 1 rfl) ?_
        refine lv_dup hx hb dX9_takeSign_115 rfl ?_
        refine va_get (D := (dC, dI)) (ci := 9) (v := .int iT_next) (C := RX9) (T := TX9) (N := 9) hx hb hts iwsMX9_takeSign_in9 hown hK hP 0 rfl rfl 8 (by decide) (hts _ hm_m_X9_takeSign_0) (fun _ h9 => h9) rfl dX9_takeSign_116 ?_
        refine lv_iconst (v := 2) hx hb dX9_takeSign_119 (by decide) ?_
        refine lv_iadd hx hb dX9_takeSign_120 ?_
        refine lv_topi (fun y9 hy9 => ?_)
        obtain rfl : (iI (iT_next.toInt + 2)) = y9 := (hy9.trans (iI_add2 (iI_of _) (by decide : (2 : Int32) = iI 2))).symm
        refine va_put (D := (dC, dI)) (ci := 9) (v := .int (iI (iT_next.toInt + 2))) (ty := .int) (C := RX9) (T := TX9) (N := 9) hx hb hts iwsMX9_takeSign_in9 tyX9 tyX9_ok nmX9 hown hK hP hD hS 0 rfl rfl 8 (by decide) (hts _ hm_m_X9_takeSign_0) (fun _ h9 => h9) rfl (by decide +kernel) rfl rfl (Nat.le_of_ble_eq_true rfl) dX9_takeSign_121 (fun H locs hP hD hS => ?_)
        have hP : va_P (dC, dI) vwCl (WT hT aT kT fT_tape dT_tape nT_tape iT_length iT_fault iT_place k0_j5 iT_at iT_number jT_name (iI (iT_next.toInt + 2))) H := hP
        have hD := fz_sd hP (hD) rfl
        refine W.widen (k := 0) (n := 0) (by decide +kernel) (by decide +kernel) ?_
        exact W.vret hx hb hr (fun t9_ ht hW => ⟨⟨(k0_j5, (iI (iT_next.toInt + 2))), rfl, ⟨(by (try dsimp only); exact (iI_rng (Int.le_trans (by decide) (Int.add_le_add (b_iT_next.1) (Int.le_refl _))) (by omega) (by decide) (by decide))), (by (try dsimp only); first | assumption | omega | (rw [iI_t (by omega) (by omega)]; omega)), (by (try dsimp only); first | assumption | omega | (rw [iI_t (by omega) (by omega)]; omega))⟩, by rw [ht]; exact hP, hD⟩, hS.F ht⟩) hS.2.2 dX9_takeSign_124
theorem dX9_advance_0 : decode cX9_advance 0 = .ok (.aload_n 0, 1) := dk_42 (by decide +kernel)
theorem dX9_advance_1 : decode cX9_advance 1 = .ok (.invokevirtual 46, 3) := dk_182 (by decide +kernel)
theorem dX9_advance_4 : decode cX9_advance 4 = .ok (.aload_n 0, 1) := dk_42 (by decide +kernel)
theorem dX9_advance_5 : decode cX9_advance 5 = .ok (.aload_n 0, 1) := dk_42 (by decide +kernel)
theorem dX9_advance_6 : decode cX9_advance 6 = .ok (.getfield 40, 3) := dk_180 (by decide +kernel)
theorem dX9_advance_9 : decode cX9_advance 9 = .ok (.putfield 34, 3) := dk_181 (by decide +kernel)
theorem dX9_advance_12 : decode cX9_advance 12 = .ok (.aload_n 0, 1) := dk_42 (by decide +kernel)
theorem dX9_advance_13 : decode cX9_advance 13 = .ok (.getfield 40, 3) := dk_180 (by decide +kernel)
theorem dX9_advance_16 : decode cX9_advance 16 = .ok (.aload_n 0, 1) := dk_42 (by decide +kernel)
theorem dX9_advance_17 : decode cX9_advance 17 = .ok (.getfield 19, 3) := dk_180 (by decide +kernel)
theorem dX9_advance_20 : decode cX9_advance 20 = .ok (.if_icmp .ge 19, 3) := dk_162 (by decide +kernel)
theorem dX9_advance_23 : decode cX9_advance 23 = .ok (.aload_n 0, 1) := dk_42 (by decide +kernel)
theorem dX9_advance_24 : decode cX9_advance 24 = .ok (.getfield 9, 3) := dk_180 (by decide +kernel)
theorem dX9_advance_27 : decode cX9_advance 27 = .ok (.aload_n 0, 1) := dk_42 (by decide +kernel)
theorem dX9_advance_28 : decode cX9_advance 28 = .ok (.getfield 40, 3) := dk_180 (by decide +kernel)
theorem dX9_advance_31 : decode cX9_advance 31 = .ok (.baload, 1) := dk_51 (by decide +kernel)
theorem dX9_advance_32 : decode cX9_advance 32 = .ok (.sipush 255, 3) := dk_17 (by decide +kernel)
theorem dX9_advance_35 : decode cX9_advance 35 = .ok (.iand, 1) := dk_126 (by decide +kernel)
theorem dX9_advance_36 : decode cX9_advance 36 = .ok (.goto 4, 3) := dk_167 (by decide +kernel)
theorem dX9_advance_39 : decode cX9_advance 39 = .ok (.iconst (-1), 1) := dk_2 (by decide +kernel)
theorem dX9_advance_40 : decode cX9_advance 40 = .ok (.istore_n 1, 1) := dk_60 (by decide +kernel)
theorem dX9_advance_41 : decode cX9_advance 41 = .ok (.iload_n 1, 1) := dk_27 (by decide +kernel)
theorem dX9_advance_42 : decode cX9_advance 42 = .ok (.iconst (-1), 1) := dk_2 (by decide +kernel)
theorem dX9_advance_43 : decode cX9_advance 43 = .ok (.if_icmp .ne 11, 3) := dk_160 (by decide +kernel)
theorem dX9_advance_46 : decode cX9_advance 46 = .ok (.aload_n 0, 1) := dk_42 (by decide +kernel)
theorem dX9_advance_47 : decode cX9_advance 47 = .ok (.iconst 0, 1) := dk_3 (by decide +kernel)
theorem dX9_advance_48 : decode cX9_advance 48 = .ok (.putfield 37, 3) := dk_181 (by decide +kernel)
theorem dX9_advance_51 : decode cX9_advance 51 = .ok (.goto 106, 3) := dk_167 (by decide +kernel)
theorem dX9_advance_54 : decode cX9_advance 54 = .ok (.iload_n 1, 1) := dk_27 (by decide +kernel)
theorem dX9_advance_55 : decode cX9_advance 55 = .ok (.bipush 97, 2) := dk_16 (by decide +kernel)
theorem dX9_advance_57 : decode cX9_advance 57 = .ok (.if_icmp .lt 9, 3) := dk_161 (by decide +kernel)
theorem dX9_advance_60 : decode cX9_advance 60 = .ok (.iload_n 1, 1) := dk_27 (by decide +kernel)
theorem dX9_advance_61 : decode cX9_advance 61 = .ok (.bipush 122, 2) := dk_16 (by decide +kernel)
theorem dX9_advance_63 : decode cX9_advance 63 = .ok (.if_icmp .le 15, 3) := dk_164 (by decide +kernel)
theorem dX9_advance_66 : decode cX9_advance 66 = .ok (.iload_n 1, 1) := dk_27 (by decide +kernel)
theorem dX9_advance_67 : decode cX9_advance 67 = .ok (.bipush 65, 2) := dk_16 (by decide +kernel)
theorem dX9_advance_69 : decode cX9_advance 69 = .ok (.if_icmp .lt 64, 3) := dk_161 (by decide +kernel)
theorem dX9_advance_72 : decode cX9_advance 72 = .ok (.iload_n 1, 1) := dk_27 (by decide +kernel)
theorem dX9_advance_73 : decode cX9_advance 73 = .ok (.bipush 90, 2) := dk_16 (by decide +kernel)
theorem dX9_advance_75 : decode cX9_advance 75 = .ok (.if_icmp .gt 58, 3) := dk_163 (by decide +kernel)
theorem dX9_advance_78 : decode cX9_advance 78 = .ok (.aload_n 0, 1) := dk_42 (by decide +kernel)
theorem dX9_advance_79 : decode cX9_advance 79 = .ok (.invokevirtual 49, 3) := dk_182 (by decide +kernel)
theorem dX9_advance_82 : decode cX9_advance 82 = .ok (.aload_n 0, 1) := dk_42 (by decide +kernel)
theorem dX9_advance_83 : decode cX9_advance 83 = .ok (.aload_n 0, 1) := dk_42 (by decide +kernel)
theorem dX9_advance_84 : decode cX9_advance 84 = .ok (.aload_n 0, 1) := dk_42 (by decide +kernel)
theorem dX9_advance_85 : decode cX9_advance 85 = .ok (.getfield 40, 3) := dk_180 (by decide +kernel)
theorem dX9_advance_88 : decode cX9_advance 88 = .ok (.aload_n 0, 1) := dk_42 (by decide +kernel)
theorem dX9_advance_89 : decode cX9_advance 89 = .ok (.getfield 34, 3) := dk_180 (by decide +kernel)
theorem dX9_advance_92 : decode cX9_advance 92 = .ok (.isub, 1) := dk_100 (by decide +kernel)
theorem dX9_advance_93 : decode cX9_advance 93 = .ok (.invokevirtual 52, 3) := dk_182 (by decide +kernel)
theorem dX9_advance_96 : decode cX9_advance 96 = .ok (.putfield 37, 3) := dk_181 (by decide +kernel)
theorem dX9_advance_99 : decode cX9_advance 99 = .ok (.aload_n 0, 1) := dk_42 (by decide +kernel)
theorem dX9_advance_100 : decode cX9_advance 100 = .ok (.getfield 37, 3) := dk_180 (by decide +kernel)
theorem dX9_advance_103 : decode cX9_advance 103 = .ok (.iconst (-1), 1) := dk_2 (by decide +kernel)
theorem dX9_advance_104 : decode cX9_advance 104 = .ok (.if_icmp .ne 53, 3) := dk_160 (by decide +kernel)
theorem dX9_advance_107 : decode cX9_advance 107 = .ok (.aload_n 0, 1) := dk_42 (by decide +kernel)
theorem dX9_advance_108 : decode cX9_advance 108 = .ok (.aload_n 0, 1) := dk_42 (by decide +kernel)
theorem dX9_advance_109 : decode cX9_advance 109 = .ok (.getfield 40, 3) := dk_180 (by decide +kernel)
theorem dX9_advance_112 : decode cX9_advance 112 = .ok (.aload_n 0, 1) := dk_42 (by decide +kernel)
theorem dX9_advance_113 : decode cX9_advance 113 = .ok (.getfield 34, 3) := dk_180 (by decide +kernel)
theorem dX9_advance_116 : decode cX9_advance 116 = .ok (.isub, 1) := dk_100 (by decide +kernel)
theorem dX9_advance_117 : decode cX9_advance 117 = .ok (.bipush 8, 2) := dk_16 (by decide +kernel)
theorem dX9_advance_119 : decode cX9_advance 119 = .ok (.if_icmp .le 7, 3) := dk_164 (by decide +kernel)
theorem dX9_advance_122 : decode cX9_advance 122 = .ok (.iconst 3, 1) := dk_6 (by decide +kernel)
theorem dX9_advance_123 : decode cX9_advance 123 = .ok (.goto 4, 3) := dk_167 (by decide +kernel)
theorem dX9_advance_126 : decode cX9_advance 126 = .ok (.iconst 1, 1) := dk_4 (by decide +kernel)
theorem dX9_advance_127 : decode cX9_advance 127 = .ok (.putfield 37, 3) := dk_181 (by decide +kernel)
theorem dX9_advance_130 : decode cX9_advance 130 = .ok (.goto 27, 3) := dk_167 (by decide +kernel)
theorem dX9_advance_133 : decode cX9_advance 133 = .ok (.iload_n 1, 1) := dk_27 (by decide +kernel)
theorem dX9_advance_134 : decode cX9_advance 134 = .ok (.bipush 48, 2) := dk_16 (by decide +kernel)
theorem dX9_advance_136 : decode cX9_advance 136 = .ok (.if_icmp .lt 16, 3) := dk_161 (by decide +kernel)
theorem dX9_advance_139 : decode cX9_advance 139 = .ok (.iload_n 1, 1) := dk_27 (by decide +kernel)
theorem dX9_advance_140 : decode cX9_advance 140 = .ok (.bipush 57, 2) := dk_16 (by decide +kernel)
theorem dX9_advance_142 : decode cX9_advance 142 = .ok (.if_icmp .gt 10, 3) := dk_163 (by decide +kernel)
theorem dX9_advance_145 : decode cX9_advance 145 = .ok (.aload_n 0, 1) := dk_42 (by decide +kernel)
theorem dX9_advance_146 : decode cX9_advance 146 = .ok (.invokevirtual 56, 3) := dk_182 (by decide +kernel)
theorem dX9_advance_149 : decode cX9_advance 149 = .ok (.goto 8, 3) := dk_167 (by decide +kernel)
theorem dX9_advance_152 : decode cX9_advance 152 = .ok (.aload_n 0, 1) := dk_42 (by decide +kernel)
theorem dX9_advance_153 : decode cX9_advance 153 = .ok (.iload_n 1, 1) := dk_27 (by decide +kernel)
theorem dX9_advance_154 : decode cX9_advance 154 = .ok (.invokevirtual 59, 3) := dk_182 (by decide +kernel)
theorem dX9_advance_157 : decode cX9_advance 157 = .ok (.return_, 1) := dk_177 (by decide +kernel)
def wsMX9_advance : List Cond := .code yX9_advance cX9_advance 2 none :: ([.fieldLink RX9 40 "OptimaWorks$Words" "next" "I", .fieldLink RX9 34 "OptimaWorks$Words" "at" "I", .fieldLink RX9 19 "OptimaWorks$Words" "length" "I", .fieldLink RX9 9 "OptimaWorks$Words" "tape" "[B", .fieldLink RX9 37 "OptimaWorks$Words" "kind" "I"] ++ wsX90 ++ (wsV RX9 46 RX9 yX9_skipBlanks wsMX9_skipBlanks) ++ (wsV RX9 59 RX9 yX9_takeSign wsMX9_takeSign) ++ (wsV RX9 56 RX9 yX9_takeNumber wsMX9_takeNumber) ++ (wsV RX9 49 RX9 yX9_takeName wsMX9_takeName) ++ (wsV RX9 52 RX9 yX9_keywordOf wsMX9_keywordOf))
theorem iwsMX9_advance_in9 : ∀ w ∈ wsX90, w ∈ wsMX9_advance := fun _ h => List.mem_cons_of_mem _ (List.mem_append_left _ (List.mem_append_left _ (List.mem_append_left _ (List.mem_append_left _ (List.mem_append_left _ (List.mem_append_right _ h))))))
theorem gwsMX9_advance_0 : GoodIn wsMX9_advance (wsV RX9 46 RX9 yX9_skipBlanks wsMX9_skipBlanks) := goodIn_sub (fun _ h => List.mem_cons_of_mem _ (List.mem_append_left _ (List.mem_append_left _ (List.mem_append_left _ (List.mem_append_left _ (List.mem_append_right _ h)))))) (gdV (by decide +kernel) gdwsMX9_skipBlanks)
theorem gwsMX9_advance_1 : GoodIn wsMX9_advance (wsV RX9 59 RX9 yX9_takeSign wsMX9_takeSign) := goodIn_sub (fun _ h => List.mem_cons_of_mem _ (List.mem_append_left _ (List.mem_append_left _ (List.mem_append_left _ (List.mem_append_right _ h))))) (gdV (by decide +kernel) gdwsMX9_takeSign)
theorem gwsMX9_advance_2 : GoodIn wsMX9_advance (wsV RX9 56 RX9 yX9_takeNumber wsMX9_takeNumber) := goodIn_sub (fun _ h => List.mem_cons_of_mem _ (List.mem_append_left _ (List.mem_append_left _ (List.mem_append_right _ h)))) (gdV (by decide +kernel) gdwsMX9_takeNumber)
theorem gwsMX9_advance_3 : GoodIn wsMX9_advance (wsV RX9 49 RX9 yX9_takeName wsMX9_takeName) := goodIn_sub (fun _ h => List.mem_cons_of_mem _ (List.mem_append_left _ (List.mem_append_right _ h))) (gdV (by decide +kernel) gdwsMX9_takeName)
theorem gwsMX9_advance_4 : GoodIn wsMX9_advance (wsV RX9 52 RX9 yX9_keywordOf wsMX9_keywordOf) := goodIn_sub (fun _ h => List.mem_cons_of_mem _ (List.mem_append_right _ h)) (gdV (by decide +kernel) gdwsMX9_keywordOf)
theorem gdwsMX9_advance : wsMX9_advance.all goodWord = true := gdC rfl (gdA (gdA (gdA (gdA (gdA (gdA (by decide +kernel : ([.fieldLink RX9 40 "OptimaWorks$Words" "next" "I", .fieldLink RX9 34 "OptimaWorks$Words" "at" "I", .fieldLink RX9 19 "OptimaWorks$Words" "length" "I", .fieldLink RX9 9 "OptimaWorks$Words" "tape" "[B", .fieldLink RX9 37 "OptimaWorks$Words" "kind" "I"] : List Cond).all goodWord = true) gdwsX90) (gdV (by decide +kernel) gdwsMX9_skipBlanks)) (gdV (by decide +kernel) gdwsMX9_takeSign)) (gdV (by decide +kernel) gdwsMX9_takeNumber)) (gdV (by decide +kernel) gdwsMX9_takeName)) (gdV (by decide +kernel) gdwsMX9_keywordOf))
theorem hm_m_X9_advance_0 : (.fieldLink RX9 40 "OptimaWorks$Words" "next" "I" : Cond) ∈ wsMX9_advance := by decide +kernel
theorem hm_m_X9_advance_1 : (.fieldLink RX9 34 "OptimaWorks$Words" "at" "I" : Cond) ∈ wsMX9_advance := by decide +kernel
theorem hm_m_X9_advance_2 : (.fieldLink RX9 37 "OptimaWorks$Words" "kind" "I" : Cond) ∈ wsMX9_advance := by decide +kernel
set_option maxHeartbeats 4000000 in
set_option maxRecDepth 100000 in
/-- the next word -/
theorem m_X9_advance (l : Launch) (hst : l.stackTraces = false) (dC : Nat → ClassId) (dI : Nat → Nat → Nat) (hT : Nat → Nat) (aT : Nat → Nat) (kT : Nat → ClassId) (fT_tape : Nat → Int32) (dT_tape : Nat) (nT_tape : Nat) (iT_length : Int32) (iT_fault : Int32) (iT_place : Int32) (iT_kind : Int32) (iT_at : Int32) (iT_number : Int32) (jT_name : Int64) (iT_next : Int32) (b_fT_tape : ∀ q : Nat, (-128) ≤ (fT_tape q).toInt ∧ (fT_tape q).toInt ≤ 127) (b_nT_tape : 64 ≤ nT_tape ∧ nT_tape ≤ 2560) (b_iT_length : 0 ≤ iT_length.toInt ∧ iT_length.toInt ≤ 1280) (b_iT_at : 0 ≤ iT_at.toInt ∧ iT_at.toInt ≤ 1282) (b_iT_number : 0 ≤ iT_number.toInt ∧ iT_number.toInt ≤ 999999) (b_iT_next : 0 ≤ iT_next.toInt ∧ iT_next.toInt ≤ 1282) (b_len : iT_length.toInt ≤ ((nT_tape : Nat) : Int)) (hnl : iT_next.toInt ≤ iT_length.toInt) (sz : Nat) : Met l yX9_advance wsMX9_advance ({ frames := 5, cells := 0, slots := 0, locals := 113 }) (va_Pc [.ref (hT 0)] (fun U => U.heap.size = sz ∧ va_P (dC, dI) vwCl (WT hT aT kT fT_tape dT_tape nT_tape iT_length iT_fault iT_place iT_kind iT_at iT_number jT_name iT_next) U.heap ∧ va_K (dC, dI) vwCl (tT kT) U ∧ va_D (fun _ => True) (WT hT aT kT fT_tape dT_tape nT_tape iT_length iT_fault iT_place iT_kind iT_at iT_number jT_name iT_next) ∧ CE (va_A (WT hT aT kT fT_tape dT_tape nT_tape iT_length iT_fault iT_place iT_kind iT_at iT_number jT_name iT_next) sz) U U.heap)) (va_Qv (fun (u : (Int32) × (Int32) × (Int32) × (Int64) × (Int32)) => (0 ≤ (u.2.1).toInt ∧ (u.2.1).toInt ≤ 1282) ∧ (0 ≤ (u.2.2.1).toInt ∧ (u.2.2.1).toInt ≤ 999999) ∧ (0 ≤ (u.2.2.2.2).toInt ∧ (u.2.2.2.2).toInt ≤ 1282) ∧ (iT_next.toInt ≤ (u.2.1).toInt) ∧ ((u.2.1).toInt ≤ (u.2.2.2.2).toInt) ∧ ((u.2.2.2.2).toInt ≤ iT_length.toInt) ∧ (((u.1).toInt = 44 ∨ (u.1).toInt = 61) → (u.2.1).toInt < (u.2.2.2.2).toInt)) (fun (u : (Int32) × (Int32) × (Int32) × (Int64) × (Int32)) t => va_P (dC, dI) vwCl (WT hT aT kT fT_tape dT_tape nT_tape iT_length iT_fault iT_place (u.1) (u.2.1) (u.2.2.1) (u.2.2.2.1) (u.2.2.2.2)) t.heap ∧ va_D (va_A (WT hT aT kT fT_tape dT_tape nT_tape iT_length iT_fault iT_place iT_kind iT_at iT_number jT_name iT_next) sz) (WT hT aT kT fT_tape dT_tape nT_tape iT_length iT_fault iT_place (u.1) (u.2.1) (u.2.2.1) (u.2.2.2.1) (u.2.2.2.2))) (va_A (WT hT aT kT fT_tape dT_tape nT_tape iT_length iT_fault iT_place iT_kind iT_at iT_number jT_name iT_next) sz)) 0 0 (va_A (WT hT aT kT fT_tape dT_tape nT_tape iT_length iT_fault iT_place iT_kind iT_at iT_number jT_name iT_next) sz) := by
  refine Met.ofW (cc := cX9_advance) (maxL := 2) (ret := none) (by decide) rfl ?_
  intro p e s m args below meth c s₁ B hml hv
  obtain ⟨rfl, hsz, hP, hK, hD0, hE⟩ := hv
  have hx := B.exec
  have hb := B.bytes
  have hr := B.returns
  have hts := atoms_spec (ws := wsMX9_advance) B.pre
  have hown : s.vm.findClass RX9 = some m.cls := findClass_of_methodNamed B.named
  have hlocks := B.notSynchronized
  subst hsz
  have hD := hD0.self (sz := s.heap.size)
  generalize hAe : va_A (WT hT aT kT fT_tape dT_tape nT_tape iT_length iT_fault iT_place iT_kind iT_at iT_number jT_name iT_next) s.heap.size = A at hD hE ⊢
  have hA : ∀ q : Nat, s.heap.size ≤ q → A q := fun q h => by rw [← hAe]; exact Or.inr h
  have hS : va_S A s.heap s.heap [] := va_S.rf
  have hl := lv_entry ([.ref (hT 0)]) (n := 2) (Nat.le_of_ble_eq_true rfl)
  rw [lg_entry_eq]
  generalize (lg_sl ([.ref (hT 0)]) ++ List.replicate (2 - (lg_sl ([.ref (hT 0)])).length) Slot.unset).toArray = ls at hl ⊢
  have hl : lv_has ls 2 [(0, .ref (hT 0))] := hl
  refine lv_aload_n hx hb dX9_advance_0 rfl (lv_at hl 0 rfl) ?_
  have hFc := allFree hD hS hA
  refine va_callv (va_runV (As := []) (rest := []) ⟨hx, hb, hml, hown, hts⟩ (m_X9_skipBlanks l dC dI hT aT kT fT_tape dT_tape nT_tape iT_length iT_fault iT_place iT_kind iT_at iT_number jT_name iT_next b_fT_tape (by first | exact b_nT_tape | with_reducible assumption | exact ⟨by omega, by omega⟩ | assumption) (b_iT_length) (b_iT_at) (b_iT_number) (b_iT_next) (by first | with_reducible assumption | omega | assumption) (by first | with_reducible assumption | omega | (rw [iI_t (by omega) (by omega)]; omega) | assumption) s.heap.size) (cwV 0 hts gwsMX9_advance_0 rfl rfl rfl hd_yX9_skipBlanks_RX9 (by decide +kernel)) (fz_pre (va_recv hK hP (ci := 9) (q0 := 0) rfl rfl) hP hK hD) rfl rfl hl.1 rfl (lv_room (Nat.le_of_ble_eq_true rfl)) dX9_advance_1 (by decide +kernel)) hS (fun q _ h => hFc q h) hFc (fun iT_next_1 t9_ H locs ht hvm hw9 hB9 hz1 hk1 hS => ?_)
  revert hw9
  refine fz_a3 ?_
  intro b_iT_next_1 f1_0 f1_1
  have hP : va_P (dC, dI) vwCl (WT hT aT kT fT_tape dT_tape nT_tape iT_length iT_fault iT_place iT_kind iT_at iT_number jT_name iT_next_1) H := fz_P ht hB9.1
  have hD := fz_sd hP (hB9.2.weaken (fun _ q _ h => hFc q.1 h)) rfl
  refine lv_aload_n hx hb dX9_advance_4 rfl (lv_at hl 0 rfl) ?_
  refine lv_aload_n hx hb dX9_advance_5 rfl (lv_at hl 0 rfl) ?_
  refine va_get (D := (dC, dI)) (ci := 9) (v := .int iT_next_1) (C := RX9) (T := TX9) (N := 9) hx hb hts iwsMX9_advance_in9 hown hK hP 0 rfl rfl 8 (by decide) (hts _ hm_m_X9_advance_0) (fun _ h9 => h9) rfl dX9_advance_6 ?_
  refine va_put (D := (dC, dI)) (ci := 9) (v := .int iT_next_1) (ty := .int) (C := RX9) (T := TX9) (N := 9) hx hb hts iwsMX9_advance_in9 tyX9 tyX9_ok nmX9 hown hK hP hD hS 0 rfl rfl 5 (by decide) (hts _ hm_m_X9_advance_1) (fun _ h9 => h9) rfl (by decide +kernel) rfl rfl (Nat.le_of_ble_eq_true rfl) dX9_advance_9 (fun H locs hP hD hS => ?_)
  have hP : va_P (dC, dI) vwCl (WT hT aT kT fT_tape dT_tape nT_tape iT_length iT_fault iT_place iT_kind iT_next_1 iT_number jT_name iT_next_1) H := hP
  have hD := fz_sd hP (hD) rfl
  refine lv_aload_n hx hb dX9_advance_12 rfl (lv_at hl 0 rfl) ?_
  refine va_get (D := (dC, dI)) (ci := 9) (v := .int iT_next_1) (C := RX9) (T := TX9) (N := 9) hx hb hts iwsMX9_advance_in9 hown hK hP 0 rfl rfl 8 (by decide) (hts _ hm_m_X9_advance_0) (fun _ h9 => h9) rfl dX9_advance_13 ?_
  refine lv_aload_n hx hb dX9_advance_16 rfl (lv_at hl 0 rfl) ?_
  refine va_get (D := (dC, dI)) (ci := 9) (v := .int iT_length) (C := RX9) (T := TX9) (N := 9) hx hb hts iwsMX9_advance_in9 hown hK hP 0 rfl rfl 1 (by decide) (hts (.fieldLink RX9 19 "OptimaWorks$Words" "length" "I") (by decide +kernel)) (fun _ h9 => h9) rfl dX9_advance_17 ?_
  refine W.cut (pc := 40) (fun H locs ls stk => ∃ (k0_j9 : Int32), ((-1) ≤ k0_j9.toInt ∧ k0_j9.toInt ≤ 255) ∧ (k0_j9.toInt ≠ -1 → iT_next_1.toInt < iT_length.toInt) ∧  stk = [.int k0_j9] ∧ va_P (dC, dI) vwCl (WT hT aT kT fT_tape dT_tape nT_tape iT_length iT_fault iT_place iT_kind iT_next_1 iT_number jT_name iT_next_1) H ∧ va_D A (WT hT aT kT fT_tape dT_tape nT_tape iT_length iT_fault iT_place iT_kind iT_next_1 iT_number jT_name iT_next_1) ∧ va_S A s.heap H locs ∧ lv_has ls 2 [(0, .ref (hT 0))]) (fun join9 => ?_) ?_
  · refine lv_icmp_ge (tgt := 39) hx hb dX9_advance_20 (by decide) (fun c_20 => ?_) (fun c_20 => ?_)
    · have t_20 : iT_next_1.toInt ≥ iT_length.toInt := toI_ge c_20 rfl rfl
      refine lv_iconst (v := (-1)) hx hb dX9_advance_39 (by decide) ?_
      have hl : lv_has _ _ ([(0, .ref (hT 0))]) := lv_sub hl [0] rfl
      exact join9 _ _ _ _ ⟨(-1), (show (-1) ≤ ((-1) : Int32).toInt ∧ ((-1) : Int32).toInt ≤ 255 from by decide), (show ((-1) : Int32).toInt ≠ -1 → iT_next_1.toInt < iT_length.toInt from by first | (intro h9; exact absurd (by decide) h9) | (intro h9; omega)), rfl, hP, hD, hS, hl⟩
    · have t_20 : ¬ iT_next_1.toInt ≥ iT_length.toInt := toI_nge c_20 rfl rfl
      refine lv_aload_n hx hb dX9_advance_23 rfl (lv_at hl 0 rfl) ?_
      refine va_get (D := (dC, dI)) (ci := 9) (v := .ref dT_tape) (C := RX9) (T := TX9) (N := 9) hx hb hts iwsMX9_advance_in9 hown hK hP 0 rfl rfl 0 (by decide) (hts (.fieldLink RX9 9 "OptimaWorks$Words" "tape" "[B") (by decide +kernel)) (fun _ h9 => h9) rfl dX9_advance_24 ?_
      refine lv_aload_n hx hb dX9_advance_27 rfl (lv_at hl 0 rfl) ?_
      refine va_get (D := (dC, dI)) (ci := 9) (v := .int iT_next_1) (C := RX9) (T := TX9) (N := 9) hx hb hts iwsMX9_advance_in9 hown hK hP 0 rfl rfl 8 (by decide) (hts _ hm_m_X9_advance_0) (fun _ h9 => h9) rfl dX9_advance_28 ?_
      refine va_bald (cA := kT 0) (n := nT_tape) (f := fT_tape) hx hb hK hP 1 0 rfl rfl (vp_in_iff.mpr ⟨b_iT_next_1.1, (by omega)⟩) dX9_advance_31 ?_
      refine lv_topi (fun v4 hv4 => ?_)
      have b_v4 : (-128) ≤ v4.toInt ∧ v4.toInt ≤ 127 := by rw [hv4]; exact b_fT_tape _
      clear hv4
      refine lv_sipush (v := 255) hx hb dX9_advance_32 (by decide) ?_
      refine lv_iand hx hb dX9_advance_35 ?_
      refine lv_topi (fun v5 hv5 => ?_)
      have b_v5 : 0 ≤ v5.toInt ∧ v5.toInt ≤ 255 := by rw [hv5]; exact and_rng _ (by decide) (by decide)
      clear hv5
      refine lv_goto (tgt := 40) hx hb dX9_advance_36 (by decide) ?_
      have hl : lv_has _ _ ([(0, .ref (hT 0))]) := lv_sub hl [0] rfl
      exact join9 _ _ _ _ ⟨v5, (⟨Int.le_trans (by decide) b_v5.1, b_v5.2⟩), (show v5.toInt ≠ -1 → iT_next_1.toInt < iT_length.toInt from by first | (intro h9; exact absurd (by decide) h9) | (intro h9; omega)), rfl, hP, hD, hS, hl⟩
  · rintro H locs ls stk ⟨k0_j9, b_k0_j9, hjl, rfl, hP, hD, hS, hl⟩
    refine lv_istore_n hx hb dX9_advance_40 rfl hl (by decide) rfl (fun ls (hl : lv_has ls _ ([(1, .int k0_j9), (0, .ref (hT 0))])) => ?_)
    refine lv_iload_n hx hb dX9_advance_41 rfl (lv_at hl 0 rfl) ?_
    refine lv_iconst (v := (-1)) hx hb dX9_advance_42 (by decide) ?_
    refine W.cut (pc := 157) (fun H locs ls stk => ∃ (iT_kind_j13 : Int32) (iT_number_j13 : Int32) (jT_name_j13 : Int64) (iT_next_j13 : Int32), (0 ≤ iT_number_j13.toInt ∧ iT_number_j13.toInt ≤ 999999) ∧ (0 ≤ iT_next_j13.toInt ∧ iT_next_j13.toInt ≤ 1282) ∧ (iT_next_1.toInt ≤ iT_next_j13.toInt) ∧ (iT_next_j13.toInt ≤ iT_length.toInt) ∧ ((iT_kind_j13.toInt = 44 ∨ iT_kind_j13.toInt = 61) → iT_next_1.toInt < iT_next_j13.toInt) ∧  stk = [] ∧ va_P (dC, dI) vwCl (WT hT aT kT fT_tape dT_tape nT_tape iT_length iT_fault iT_place iT_kind_j13 iT_next_1 iT_number_j13 jT_name_j13 iT_next_j13) H ∧ va_D A (WT hT aT kT fT_tape dT_tape nT_tape iT_length iT_fault iT_place iT_kind_j13 iT_next_1 iT_number_j13 jT_name_j13 iT_next_j13) ∧ va_S A s.heap H locs ∧ lv_has ls 2 [(1, .int k0_j9), (0, .ref (hT 0))]) (fun join13 => ?_) ?_
    · refine lv_icmp_ne (tgt := 54) hx hb dX9_advance_43 (by decide) (fun c_43 => ?_) (fun c_43 => ?_)
      · have t_43 : k0_j9.toInt ≠ (-1) := toI_ne c_43 rfl (by decide : ((-1) : Int32).toInt = (-1))
        refine lv_iload_n hx hb dX9_advance_54 rfl (lv_at hl 0 rfl) ?_
        refine lv_bipush (v := 97) hx hb dX9_advance_55 (by decide) ?_
        refine lv_icmp_lt (tgt := 66) hx hb dX9_advance_57 (by decide) (fun c_57 => ?_) (fun c_57 => ?_)
        · have t_57 : k0_j9.toInt < 97 := toI_lt c_57 rfl (by decide : (97 : Int32).toInt = 97)
          refine lv_iload_n hx hb dX9_advance_66 rfl (lv_at hl 0 rfl) ?_
          refine lv_bipush (v := 65) hx hb dX9_advance_67 (by decide) ?_
          refine lv_icmp_lt (tgt := 133) hx hb dX9_advance_69 (by decide) (fun c_69 => ?_) (fun c_69 => ?_)
          · have t_69 : k0_j9.toInt < 65 := toI_lt c_69 rfl (by decide : (65 : Int32).toInt = 65)
            refine lv_iload_n hx hb dX9_advance_133 rfl (lv_at hl 0 rfl) ?_
            refine lv_bipush (v := 48) hx hb dX9_advance_134 (by decide) ?_
            refine lv_icmp_lt (tgt := 152) hx hb dX9_advance_136 (by decide) (fun c_136 => ?_) (fun c_136 => ?_)
            · have t_136 : k0_j9.toInt < 48 := toI_lt c_136 rfl (by decide : (48 : Int32).toInt = 48)
              refine lv_aload_n hx hb dX9_advance_152 rfl (lv_at hl 1 rfl) ?_
              refine lv_iload_n hx hb dX9_advance_153 rfl (lv_at hl 0 rfl) ?_
              have hFc := allFree hD hS hA
              refine va_callv (va_runV (As := [.int k0_j9]) (rest := []) ⟨hx, hb, hml, hown, hts⟩ (m_X9_takeSign l hst dC dI hT aT kT fT_tape dT_tape nT_tape iT_length iT_fault iT_place iT_kind iT_next_1 iT_number jT_name iT_next_1 k0_j9 b_fT_tape (by first | exact b_nT_tape | with_reducible assumption | exact ⟨by omega, by omega⟩ | assumption) (b_iT_length) (b_iT_next_1) (b_iT_number) (b_iT_next_1) (by first | with_reducible assumption | omega | assumption) (by first | with_reducible assumption | omega | (rw [iI_t (by omega) (by omega)]; omega) | decide | assumption) H.size) (cwV 1 hts gwsMX9_advance_1 rfl rfl rfl hd_yX9_takeSign_RX9 (by decide +kernel)) (fz_preE (va_recv hK hP (ci := 9) (q0 := 0) rfl rfl) hP hK hD (fun a U g mk qE => qE.call) (fun U hU9 hW => by rw [hU9]; exact (((hE : CE A s s.heap).kept hS.2.1).narrow (fun q h => hFc q h)).warm hW)) rfl rfl hl.1 rfl (lv_room (Nat.le_of_ble_eq_true rfl)) dX9_advance_154 (by decide +kernel)) hS (fun q _ h => hFc q h) hFc (fun u t9_ H locs ht hvm hw9 hB9 hz1 hk1 hS => ?_)
              revert u hw9 hB9
              refine fz_p2 ?_
              intro iT_kind_30 iT_next_30 hw9 hB9
              try dsimp only at hw9 hB9
              revert hw9
              refine fz_a3 ?_
              intro b_iT_next_30 f30_0 f30_1
              have hP : va_P (dC, dI) vwCl (WT hT aT kT fT_tape dT_tape nT_tape iT_length iT_fault iT_place iT_kind_30 iT_next_1 iT_number jT_name iT_next_30) H := fz_P ht hB9.1
              have hD := fz_sd hP (hB9.2.weaken (fun _ q _ h => hFc q.1 h)) rfl
              have hl : lv_has _ _ ([(1, .int k0_j9), (0, .ref (hT 0))]) := lv_sub hl [0, 1] rfl
              exact join13 _ _ _ _ ⟨iT_kind_30, iT_number, jT_name, iT_next_30, (b_iT_number), (b_iT_next_30), (show iT_next_1.toInt ≤ iT_next_30.toInt from by first | assumption | omega | (rw [iI_t (by omega) (by omega)]; omega)), (show iT_next_30.toInt ≤ iT_length.toInt from by first | assumption | omega | (rw [iI_t (by omega) (by omega)]; omega)), (show (iT_kind_30.toInt = 44 ∨ iT_kind_30.toInt = 61) → iT_next_1.toInt < iT_next_30.toInt from by first | (intro h9; omega) | (intro h9; rcases h9 with h9 | h9 <;> exact absurd h9 (by decide))), rfl, hP, hD, hS, hl⟩
            · have t_136 : ¬ k0_j9.toInt < 48 := toI_nlt c_136 rfl (by decide : (48 : Int32).toInt = 48)
              refine lv_iload_n hx hb dX9_advance_139 rfl (lv_at hl 0 rfl) ?_
              refine lv_bipush (v := 57) hx hb dX9_advance_140 (by decide) ?_
              refine lv_icmp_gt (tgt := 152) hx hb dX9_advance_142 (by decide) (fun c_142 => ?_) (fun c_142 => ?_)
              · have t_142 : k0_j9.toInt > 57 := toI_gt c_142 rfl (by decide : (57 : Int32).toInt = 57)
                refine lv_aload_n hx hb dX9_advance_152 rfl (lv_at hl 1 rfl) ?_
                refine lv_iload_n hx hb dX9_advance_153 rfl (lv_at hl 0 rfl) ?_
                have hFc := allFree hD hS hA
                refine va_callv (va_runV (As := [.int k0_j9]) (rest := []) ⟨hx, hb, hml, hown, hts⟩ (m_X9_takeSign l hst dC dI hT aT kT fT_tape dT_tape nT_tape iT_length iT_fault iT_place iT_kind iT_next_1 iT_number jT_name iT_next_1 k0_j9 b_fT_tape (by first | exact b_nT_tape | with_reducible assumption | exact ⟨by omega, by omega⟩ | assumption) (b_iT_length) (b_iT_next_1) (b_iT_number) (b_iT_next_1) (by first | with_reducible assumption | omega | assumption) (by first | with_reducible assumption | omega | (rw [iI_t (by omega) (by omega)]; omega) | decide | assumption) H.size) (cwV 1 hts gwsMX9_advance_1 rfl rfl rfl hd_yX9_takeSign_RX9 (by decide +kernel)) (fz_preE (va_recv hK hP (ci := 9) (q0 := 0) rfl rfl) hP hK hD (fun a U g mk qE => qE.call) (fun U hU9 hW => by rw [hU9]; exact (((hE : CE A s s.heap).kept hS.2.1).narrow (fun q h => hFc q h)).warm hW)) rfl rfl hl.1 rfl (lv_room (Nat.le_of_ble_eq_true rfl)) dX9_advance_154 (by decide +kernel)) hS (fun q _ h => hFc q h) hFc (fun u t9_ H locs ht hvm hw9 hB9 hz1 hk1 hS => ?_)
                revert u hw9 hB9
                refine fz_p2 ?_
                intro iT_kind_31 iT_next_31 hw9 hB9
                try dsimp only at hw9 hB9
                revert hw9
                refine fz_a3 ?_
                intro b_iT_next_31 f31_0 f31_1
                have hP : va_P (dC, dI) vwCl (WT hT aT kT fT_tape dT_tape nT_tape iT_length iT_fault iT_place iT_kind_31 iT_next_1 iT_number jT_name iT_next_31) H := fz_P ht hB9.1
                have hD := fz_sd hP (hB9.2.weaken (fun _ q _ h => hFc q.1 h)) rfl
                have hl : lv_has _ _ ([(1, .int k0_j9), (0, .ref (hT 0))]) := lv_sub hl [0, 1] rfl
                exact join13 _ _ _ _ ⟨iT_kind_31, iT_number, jT_name, iT_next_31, (b_iT_number), (b_iT_next_31), (show iT_next_1.toInt ≤ iT_next_31.toInt from by first | assumption | omega | (rw [iI_t (by omega) (by omega)]; omega)), (show iT_next_31.toInt ≤ iT_length.toInt from by first | assumption | omega | (rw [iI_t (by omega) (by omega)]; omega)), (show (iT_kind_31.toInt = 44 ∨ iT_kind_31.toInt = 61) → iT_next_1.toInt < iT_next_31.toInt from by first | (intro h9; omega) | (intro h9; rcases h9 with h9 | h9 <;> exact absurd h9 (by decide))), rfl, hP, hD, hS, hl⟩
              · have t_142 : ¬ k0_j9.toInt > 57 := toI_ngt c_142 rfl (by decide : (57 : Int32).toInt = 57)
                refine lv_aload_n hx hb dX9_advance_145 rfl (lv_at hl 1 rfl) ?_
                have hFc := allFree hD hS hA
                refine va_callv (va_runV (As := []) (rest := []) ⟨hx, hb, hml, hown, hts⟩ (m_X9_takeNumber l dC dI hT aT kT fT_tape dT_tape nT_tape iT_length iT_fault iT_place iT_kind iT_next_1 iT_number jT_name iT_next_1 b_fT_tape (by first | exact b_nT_tape | with_reducible assumption | exact ⟨by omega, by omega⟩ | assumption) (b_iT_length) (b_iT_next_1) (b_iT_number) (b_iT_next_1) (by first | with_reducible assumption | omega | assumption) (by first | with_reducible assumption | omega | (rw [iI_t (by omega) (by omega)]; omega) | assumption) (by first | with_reducible assumption | omega | (rw [iI_t (by omega) (by omega)]; omega) | decide | assumption) H.size) (cwV 0 hts gwsMX9_advance_2 rfl rfl rfl hd_yX9_takeNumber_RX9 (by decide +kernel)) (fz_pre (va_recv hK hP (ci := 9) (q0 := 0) rfl rfl) hP hK hD) rfl rfl hl.1 rfl (lv_room (Nat.le_of_ble_eq_true rfl)) dX9_advance_146 (by decide +kernel)) hS (fun q _ h => hFc q h) hFc (fun u t9_ H locs ht hvm hw9 hB9 hz1 hk1 hS => ?_)
                revert u hw9 hB9
                refine fz_p3 ?_
                intro iT_kind_32 iT_number_32 iT_next_32 hw9 hB9
                try dsimp only at hw9 hB9
                revert hw9
                refine fz_a5 ?_
                intro b_iT_number_32 b_iT_next_32 f32_0 f32_1 f32_2
                have hP : va_P (dC, dI) vwCl (WT hT aT kT fT_tape dT_tape nT_tape iT_length iT_fault iT_place iT_kind_32 iT_next_1 iT_number_32 jT_name iT_next_32) H := fz_P ht hB9.1
                have hD := fz_sd hP (hB9.2.weaken (fun _ q _ h => hFc q.1 h)) rfl
                refine lv_goto (tgt := 157) hx hb dX9_advance_149 (by decide) ?_
                have hl : lv_has _ _ ([(1, .int k0_j9), (0, .ref (hT 0))]) := lv_sub hl [0, 1] rfl
                exact join13 _ _ _ _ ⟨iT_kind_32, iT_number_32, jT_name, iT_next_32, (b_iT_number_32), (b_iT_next_32), (show iT_next_1.toInt ≤ iT_next_32.toInt from by first | assumption | omega | (rw [iI_t (by omega) (by omega)]; omega)), (show iT_next_32.toInt ≤ iT_length.toInt from by first | assumption | omega | (rw [iI_t (by omega) (by omega)]; omega)), (show (iT_kind_32.toInt = 44 ∨ iT_kind_32.toInt = 61) → iT_next_1.toInt < iT_next_32.toInt from by first | (intro h9; omega) | (intro h9; rcases h9 with h9 | h9 <;> exact absurd h9 (by decide))), rfl, hP, hD, hS, hl⟩
          · have t_69 : ¬ k0_j9.toInt < 65 := toI_nlt c_69 rfl (by decide : (65 : Int32).toInt = 65)
            refine lv_iload_n hx hb dX9_advance_72 rfl (lv_at hl 0 rfl) ?_
            refine lv_bipush (v := 90) hx hb dX9_advance_73 (by decide) ?_
            refine lv_icmp_gt (tgt := 133) hx hb dX9_advance_75 (by decide) (fun c_75 => ?_) (fun c_75 => ?_)
            · have t_75 : k0_j9.toInt > 90 := toI_gt c_75 rfl (by decide : (90 : Int32).toInt = 90)
              refine lv_iload_n hx hb dX9_advance_133 rfl (lv_at hl 0 rfl) ?_
              refine lv_bipush (v := 48) hx hb dX9_advance_134 (by decide) ?_
              refine lv_icmp_lt (tgt := 152) hx hb dX9_advance_136 (by decide) (fun c_136 => ?_) (fun c_136 => ?_)
              · have t_136 : k0_j9.toInt < 48 := toI_lt c_136 rfl (by decide : (48 : Int32).toInt = 48)
                refine lv_aload_n hx hb dX9_advance_152 rfl (lv_at hl 1 rfl) ?_
                refine lv_iload_n hx hb dX9_advance_153 rfl (lv_at hl 0 rfl) ?_
                have hFc := allFree hD hS hA
                refine va_callv (va_runV (As := [.int k0_j9]) (rest := []) ⟨hx, hb, hml, hown, hts⟩ (m_X9_takeSign l hst dC dI hT aT kT fT_tape dT_tape nT_tape iT_length iT_fault iT_place iT_kind iT_next_1 iT_number jT_name iT_next_1 k0_j9 b_fT_tape (by first | exact b_nT_tape | with_reducible assumption | exact ⟨by omega, by omega⟩ | assumption) (b_iT_length) (b_iT_next_1) (b_iT_number) (b_iT_next_1) (by first | with_reducible assumption | omega | assumption) (by first | with_reducible assumption | omega | (rw [iI_t (by omega) (by omega)]; omega) | decide | assumption) H.size) (cwV 1 hts gwsMX9_advance_1 rfl rfl rfl hd_yX9_takeSign_RX9 (by decide +kernel)) (fz_preE (va_recv hK hP (ci := 9) (q0 := 0) rfl rfl) hP hK hD (fun a U g mk qE => qE.call) (fun U hU9 hW => by rw [hU9]; exact (((hE : CE A s s.heap).kept hS.2.1).narrow (fun q h => hFc q h)).warm hW)) rfl rfl hl.1 rfl (lv_room (Nat.le_of_ble_eq_true rfl)) dX9_advance_154 (by decide +kernel)) hS (fun q _ h => hFc q h) hFc (fun u t9_ H locs ht hvm hw9 hB9 hz1 hk1 hS => ?_)
                revert u hw9 hB9
                refine fz_p2 ?_
                intro iT_kind_33 iT_next_33 hw9 hB9
                try dsimp only at hw9 hB9
                revert hw9
                refine fz_a3 ?_
                intro b_iT_next_33 f33_0 f33_1
                have hP : va_P (dC, dI) vwCl (WT hT aT kT fT_tape dT_tape nT_tape iT_length iT_fault iT_place iT_kind_33 iT_next_1 iT_number jT_name iT_next_33) H := fz_P ht hB9.1
                have hD := fz_sd hP (hB9.2.weaken (fun _ q _ h => hFc q.1 h)) rfl
                have hl : lv_has _ _ ([(1, .int k0_j9), (0, .ref (hT 0))]) := lv_sub hl [0, 1] rfl
                exact join13 _ _ _ _ ⟨iT_kind_33, iT_number, jT_name, iT_next_33, (b_iT_number), (b_iT_next_33), (show iT_next_1.toInt ≤ iT_next_33.toInt from by first | assumption | omega | (rw [iI_t (by omega) (by omega)]; omega)), (show iT_next_33.toInt ≤ iT_length.toInt from by first | assumption | omega | (rw [iI_t (by omega) (by omega)]; omega)), (show (iT_kind_33.toInt = 44 ∨ iT_kind_33.toInt = 61) → iT_next_1.toInt < iT_next_33.toInt from by first | (intro h9; omega) | (intro h9; rcases h9 with h9 | h9 <;> exact absurd h9 (by decide))), rfl, hP, hD, hS, hl⟩
              · have t_136 : ¬ k0_j9.toInt < 48 := toI_nlt c_136 rfl (by decide : (48 : Int32).toInt = 48)
                refine lv_iload_n hx hb dX9_advance_139 rfl (lv_at hl 0 rfl) ?_
                refine lv_bipush (v := 57) hx hb dX9_advance_140 (by decide) ?_
                refine lv_icmp_gt (tgt := 152) hx hb dX9_advance_142 (by decide) (fun c_142 => ?_) (fun c_142 => ?_)
                · have t_142 : k0_j9.toInt > 57 := toI_gt c_142 rfl (by decide : (57 : Int32).toInt = 57)
                  refine lv_aload_n hx hb dX9_advance_152 rfl (lv_at hl 1 rfl) ?_
                  refine lv_iload_n hx hb dX9_advance_153 rfl (lv_at hl 0 rfl) ?_
                  have hFc := allFree hD hS hA
                  refine va_callv (va_runV (As := [.int k0_j9]) (rest := []) ⟨hx, hb, hml, hown, hts⟩ (m_X9_takeSign l hst dC dI hT aT kT fT_tape dT_tape nT_tape iT_length iT_fault iT_place iT_kind iT_next_1 iT_number jT_name iT_next_1 k0_j9 b_fT_tape (by first | exact b_nT_tape | with_reducible assumption | exact ⟨by omega, by omega⟩ | assumption) (b_iT_length) (b_iT_next_1) (b_iT_number) (b_iT_next_1) (by first | with_reducible assumption | omega | assumption) (by first | with_reducible assumption | omega | (rw [iI_t (by omega) (by omega)]; omega) | decide | assumption) H.size) (cwV 1 hts gwsMX9_advance_1 rfl rfl rfl hd_yX9_takeSign_RX9 (by decide +kernel)) (fz_preE (va_recv hK hP (ci := 9) (q0 := 0) rfl rfl) hP hK hD (fun a U g mk qE => qE.call) (fun U hU9 hW => by rw [hU9]; exact (((hE : CE A s s.heap).kept hS.2.1).narrow (fun q h => hFc q h)).warm hW)) rfl rfl hl.1 rfl (lv_room (Nat.le_of_ble_eq_true rfl)) dX9_advance_154 (by decide +kernel)) hS (fun q _ h => hFc q h) hFc (fun u t9_ H locs ht hvm hw9 hB9 hz1 hk1 hS => ?_)
                  revert u hw9 hB9
                  refine fz_p2 ?_
                  intro iT_kind_34 iT_next_34 hw9 hB9
                  try dsimp only at hw9 hB9
                  revert hw9
                  refine fz_a3 ?_
                  intro b_iT_next_34 f34_0 f34_1
                  have hP : va_P (dC, dI) vwCl (WT hT aT kT fT_tape dT_tape nT_tape iT_length iT_fault iT_place iT_kind_34 iT_next_1 iT_number jT_name iT_next_34) H := fz_P ht hB9.1
                  have hD := fz_sd hP (hB9.2.weaken (fun _ q _ h => hFc q.1 h)) rfl
                  have hl : lv_has _ _ ([(1, .int k0_j9), (0, .ref (hT 0))]) := lv_sub hl [0, 1] rfl
                  exact join13 _ _ _ _ ⟨iT_kind_34, iT_number, jT_name, iT_next_34, (b_iT_number), (b_iT_next_34), (show iT_next_1.toInt ≤ iT_next_34.toInt from by first | assumption | omega | (rw [iI_t (by omega) (by omega)]; omega)), (show iT_next_34.toInt ≤ iT_length.toInt from by first | assumption | omega | (rw [iI_t (by omega) (by omega)]; omega)), (show (iT_kind_34.toInt = 44 ∨ iT_kind_34.toInt = 61) → iT_next_1.toInt < iT_next_34.toInt from by first | (intro h9; omega) | (intro h9; rcases h9 with h9 | h9 <;> exact absurd h9 (by decide))), rfl, hP, hD, hS, hl⟩
                · have t_142 : ¬ k0_j9.toInt > 57 := toI_ngt c_142 rfl (by decide : (57 : Int32).toInt = 57)
                  refine lv_aload_n hx hb dX9_advance_145 rfl (lv_at hl 1 rfl) ?_
                  have hFc := allFree hD hS hA
                  refine va_callv (va_runV (As := []) (rest := []) ⟨hx, hb, hml, hown, hts⟩ (m_X9_takeNumber l dC dI hT aT kT fT_tape dT_tape nT_tape iT_length iT_fault iT_place iT_kind iT_next_1 iT_number jT_name iT_next_1 b_fT_tape (by first | exact b_nT_tape | with_reducible assumption | exact ⟨by omega, by omega⟩ | assumption) (b_iT_length) (b_iT_next_1) (b_iT_number) (b_iT_next_1) (by first | with_reducible assumption | omega | assumption) (by first | with_reducible assumption | omega | (rw [iI_t (by omega) (by omega)]; omega) | assumption) (by first | with_reducible assumption | omega | (rw [iI_t (by omega) (by omega)]; omega) | decide | assumption) H.size) (cwV 0 hts gwsMX9_advance_2 rfl rfl rfl hd_yX9_takeNumber_RX9 (by decide +kernel)) (fz_pre (va_recv hK hP (ci := 9) (q0 := 0) rfl rfl) hP hK hD) rfl rfl hl.1 rfl (lv_room (Nat.le_of_ble_eq_true rfl)) dX9_advance_146 (by decide +kernel)) hS (fun q _ h => hFc q h) hFc (fun u t9_ H locs ht hvm hw9 hB9 hz1 hk1 hS => ?_)
                  revert u hw9 hB9
                  refine fz_p3 ?_
                  intro iT_kind_35 iT_number_35 iT_next_35 hw9 hB9
                  try dsimp only at hw9 hB9
                  revert hw9
                  refine fz_a5 ?_
                  intro b_iT_number_35 b_iT_next_35 f35_0 f35_1 f35_2
                  have hP : va_P (dC, dI) vwCl (WT hT aT kT fT_tape dT_tape nT_tape iT_length iT_fault iT_place iT_kind_35 iT_next_1 iT_number_35 jT_name iT_next_35) H := fz_P ht hB9.1
                  have hD := fz_sd hP (hB9.2.weaken (fun _ q _ h => hFc q.1 h)) rfl
                  refine lv_goto (tgt := 157) hx hb dX9_advance_149 (by decide) ?_
                  have hl : lv_has _ _ ([(1, .int k0_j9), (0, .ref (hT 0))]) := lv_sub hl [0, 1] rfl
                  exact join13 _ _ _ _ ⟨iT_kind_35, iT_number_35, jT_name, iT_next_35, (b_iT_number_35), (b_iT_next_35), (show iT_next_1.toInt ≤ iT_next_35.toInt from by first | assumption | omega | (rw [iI_t (by omega) (by omega)]; omega)), (show iT_next_35.toInt ≤ iT_length.toInt from by first | assumption | omega | (rw [iI_t (by omega) (by omega)]; omega)), (show (iT_kind_35.toInt = 44 ∨ iT_kind_35.toInt = 61) → iT_next_1.toInt < iT_next_35.toInt from by first | (intro h9; omega) | (intro h9; rcases h9 with h9 | h9 <;> exact absurd h9 (by decide))), rfl, hP, hD, hS, hl⟩
            · have t_75 : ¬ k0_j9.toInt > 90 := toI_ngt c_75 rfl (by decide : (90 : Int32).toInt = 90)
              refine lv_aload_n hx hb dX9_advance_78 rfl (lv_at hl 1 rfl) ?_
              have hFc := allFree hD hS hA
              refine va_callv (va_runV (As := []) (rest := []) ⟨hx, hb, hml, hown, hts⟩ (m_X9_takeName l dC dI hT aT kT fT_tape dT_tape nT_tape iT_length iT_fault iT_place iT_kind iT_next_1 iT_number jT_name iT_next_1 b_fT_tape (by first | exact b_nT_tape | with_reducible assumption | exact ⟨by omega, by omega⟩ | assumption) (b_iT_length) (b_iT_next_1) (b_iT_number) (b_iT_next_1) (by first | with_reducible assumption | omega | assumption) (by first | with_reducible assumption | omega | (rw [iI_t (by omega) (by omega)]; omega) | assumption) H.size) (cwV 0 hts gwsMX9_advance_3 rfl rfl rfl hd_yX9_takeName_RX9 (by decide +kernel)) (fz_pre (va_recv hK hP (ci := 9) (q0 := 0) rfl rfl) hP hK hD) rfl rfl hl.1 rfl (lv_room (Nat.le_of_ble_eq_true rfl)) dX9_advance_79 (by decide +kernel)) hS (fun q _ h => hFc q h) hFc (fun u t9_ H locs ht hvm hw9 hB9 hz1 hk1 hS => ?_)
              revert u hw9 hB9
              refine fz_p2 ?_
              intro jT_name_36 iT_next_36 hw9 hB9
              try dsimp only at hw9 hB9
              revert hw9
              refine fz_a3 ?_
              intro b_iT_next_36 f36_0 f36_1
              have hP : va_P (dC, dI) vwCl (WT hT aT kT fT_tape dT_tape nT_tape iT_length iT_fault iT_place iT_kind iT_next_1 iT_number jT_name_36 iT_next_36) H := fz_P ht hB9.1
              have hD := fz_sd hP (hB9.2.weaken (fun _ q _ h => hFc q.1 h)) rfl
              refine lv_aload_n hx hb dX9_advance_82 rfl (lv_at hl 1 rfl) ?_
              refine lv_aload_n hx hb dX9_advance_83 rfl (lv_at hl 1 rfl) ?_
              refine lv_aload_n hx hb dX9_advance_84 rfl (lv_at hl 1 rfl) ?_
              refine va_get (D := (dC, dI)) (ci := 9) (v := .int iT_next_36) (C := RX9) (T := TX9) (N := 9) hx hb hts iwsMX9_advance_in9 hown hK hP 0 rfl rfl 8 (by decide) (hts _ hm_m_X9_advance_0) (fun _ h9 => h9) rfl dX9_advance_85 ?_
              refine lv_aload_n hx hb dX9_advance_88 rfl (lv_at hl 1 rfl) ?_
              refine va_get (D := (dC, dI)) (ci := 9) (v := .int iT_next_1) (C := RX9) (T := TX9) (N := 9) hx hb hts iwsMX9_advance_in9 hown hK hP 0 rfl rfl 5 (by decide) (hts _ hm_m_X9_advance_1) (fun _ h9 => h9) rfl dX9_advance_89 ?_
              refine lv_isub hx hb dX9_advance_92 ?_
              refine lv_topi (fun y37 hy37 => ?_)
              obtain rfl : (iI (iT_next_36.toInt - iT_next_1.toInt)) = y37 := (hy37.trans (iI_sub2 (iI_of _) (iI_of _))).symm
              have hFc := allFree hD hS hA
              refine va_calli (va_runV (As := [.int (iI (iT_next_36.toInt - iT_next_1.toInt))]) (rest := [.ref (hT 0)]) ⟨hx, hb, hml, hown, hts⟩ (m_X9_keywordOf l hst dC dI hT aT kT fT_tape dT_tape nT_tape iT_length iT_fault iT_place iT_kind iT_next_1 iT_number jT_name_36 iT_next_36 (iI (iT_next_36.toInt - iT_next_1.toInt)) b_fT_tape (by first | exact b_nT_tape | with_reducible assumption | exact ⟨by omega, by omega⟩ | assumption) (b_iT_length) (b_iT_next_1) (b_iT_number) (b_iT_next_36) (by first | with_reducible assumption | omega | assumption) (iI_rng (by omega) (Int.le_trans (Int.sub_le_sub (b_iT_next_36.2) (b_iT_next_1.1)) (by decide)) (by decide) (by decide)) (by rw [iI_t (by omega) (by omega)]; omega) H.size) (cwV 1 hts gwsMX9_advance_4 rfl rfl rfl hd_yX9_keywordOf_RX9 (by decide +kernel)) (fz_preE (va_recv hK hP (ci := 9) (q0 := 0) rfl rfl) hP hK hD (fun a U g mk qE => qE.call) (fun U hU9 hW => by rw [hU9]; exact (((hE : CE A s s.heap).kept hS.2.1).narrow (fun q h => hFc q h)).warm hW)) rfl rfl hl.1 rfl (lv_room (Nat.le_of_ble_eq_true rfl)) dX9_advance_93 (by decide +kernel)) hS (fun q _ h => hFc q h) hFc (fun r38 u t9_ H locs ht hvm hw9 hB9 hz1 hk1 hS => ?_)
              revert hw9
              refine fz_a2 ?_
              intro b_r38 f38_0
              have hP : va_P (dC, dI) vwCl (WT hT aT kT fT_tape dT_tape nT_tape iT_length iT_fault iT_place iT_kind iT_next_1 iT_number jT_name_36 iT_next_36) H := fz_P ht hB9.1
              have hD := fz_sd hP (hB9.2.weaken (fun _ q _ h => hFc q.1 h)) rfl
              refine va_put (D := (dC, dI)) (ci := 9) (v := .int r38) (ty := .int) (C := RX9) (T := TX9) (N := 9) hx hb hts iwsMX9_advance_in9 tyX9 tyX9_ok nmX9 hown hK hP hD hS 0 rfl rfl 4 (by decide) (hts _ hm_m_X9_advance_2) (fun _ h9 => h9) rfl (by decide +kernel) rfl rfl (Nat.le_of_ble_eq_true rfl) dX9_advance_96 (fun H locs hP hD hS => ?_)
              have hP : va_P (dC, dI) vwCl (WT hT aT kT fT_tape dT_tape nT_tape iT_length iT_fault iT_place r38 iT_next_1 iT_number jT_name_36 iT_next_36) H := hP
              have hD := fz_sd hP (hD) rfl
              refine lv_aload_n hx hb dX9_advance_99 rfl (lv_at hl 1 rfl) ?_
              refine va_get (D := (dC, dI)) (ci := 9) (v := .int r38) (C := RX9) (T := TX9) (N := 9) hx hb hts iwsMX9_advance_in9 hown hK hP 0 rfl rfl 4 (by decide) (hts _ hm_m_X9_advance_2) (fun _ h9 => h9) rfl dX9_advance_100 ?_
              refine lv_iconst (v := (-1)) hx hb dX9_advance_103 (by decide) ?_
              refine lv_icmp_ne (tgt := 157) hx hb dX9_advance_104 (by decide) (fun c_104 => ?_) (fun c_104 => ?_)
              · have t_104 : r38.toInt ≠ (-1) := toI_ne c_104 rfl (by decide : ((-1) : Int32).toInt = (-1))
                have hl : lv_has _ _ ([(1, .int k0_j9), (0, .ref (hT 0))]) := lv_sub hl [0, 1] rfl
                exact join13 _ _ _ _ ⟨r38, iT_number, jT_name_36, iT_next_36, (b_iT_number), (b_iT_next_36), (show iT_next_1.toInt ≤ iT_next_36.toInt from by first | assumption | omega | (rw [iI_t (by omega) (by omega)]; omega)), (show iT_next_36.toInt ≤ iT_length.toInt from by first | assumption | omega | (rw [iI_t (by omega) (by omega)]; omega)), (show (r38.toInt = 44 ∨ r38.toInt = 61) → iT_next_1.toInt < iT_next_36.toInt from by first | (intro h9; omega) | (intro h9; rcases h9 with h9 | h9 <;> exact absurd h9 (by decide))), rfl, hP, hD, hS, hl⟩
              · have t_104 : r38.toInt = (-1) := toI_nne c_104 rfl (by decide : ((-1) : Int32).toInt = (-1))
                refine lv_aload_n hx hb dX9_advance_107 rfl (lv_at hl 1 rfl) ?_
                refine lv_aload_n hx hb dX9_advance_108 rfl (lv_at hl 1 rfl) ?_
                refine va_get (D := (dC, dI)) (ci := 9) (v := .int iT_next_36) (C := RX9) (T := TX9) (N := 9) hx hb hts iwsMX9_advance_in9 hown hK hP 0 rfl rfl 8 (by decide) (hts _ hm_m_X9_advance_0) (fun _ h9 => h9) rfl dX9_advance_109 ?_
                refine lv_aload_n hx hb dX9_advance_112 rfl (lv_at hl 1 rfl) ?_
                refine va_get (D := (dC, dI)) (ci := 9) (v := .int iT_next_1) (C := RX9) (T := TX9) (N := 9) hx hb hts iwsMX9_advance_in9 hown hK hP 0 rfl rfl 5 (by decide) (hts _ hm_m_X9_advance_1) (fun _ h9 => h9) rfl dX9_advance_113 ?_
                refine lv_isub hx hb dX9_advance_116 ?_
                refine lv_topi (fun y39 hy39 => ?_)
                obtain rfl : (iI (iT_next_36.toInt - iT_next_1.toInt)) = y39 := (hy39.trans (iI_sub2 (iI_of _) (iI_of _))).symm
                refine lv_bipush (v := 8) hx hb dX9_advance_117 (by decide) ?_
                refine W.cut (pc := 127) (fun H locs ls stk => ∃ (k0_j14 : Int32), (1 ≤ k0_j14.toInt ∧ k0_j14.toInt ≤ 3) ∧  stk = [.int k0_j14, .ref (hT 0)] ∧ va_P (dC, dI) vwCl (WT hT aT kT fT_tape dT_tape nT_tape iT_length iT_fault iT_place r38 iT_next_1 iT_number jT_name_36 iT_next_36) H ∧ va_D A (WT hT aT kT fT_tape dT_tape nT_tape iT_length iT_fault iT_place r38 iT_next_1 iT_number jT_name_36 iT_next_36) ∧ va_S A s.heap H locs ∧ lv_has ls 2 [(1, .int k0_j9), (0, .ref (hT 0))]) (fun join14 => ?_) ?_
                · refine lv_icmp_le (tgt := 126) hx hb dX9_advance_119 (by decide) (fun c_119 => ?_) (fun c_119 => ?_)
                  · have t_119 : (iT_next_36.toInt - iT_next_1.toInt) ≤ 8 := toI_le c_119 (iI_t (Int.le_trans (by decide) (Int.sub_le_sub (b_iT_next_36.1) (b_iT_next_1.2))) (Int.le_trans (Int.sub_le_sub (b_iT_next_36.2) (b_iT_next_1.1)) (by decide))) (by decide : (8 : Int32).toInt = 8)
                    refine lv_iconst (v := 1) hx hb dX9_advance_126 (by decide) ?_
                    have hl : lv_has _ _ ([(1, .int k0_j9), (0, .ref (hT 0))]) := lv_sub hl [0, 1] rfl
                    exact join14 _ _ _ _ ⟨1, (show 1 ≤ (1 : Int32).toInt ∧ (1 : Int32).toInt ≤ 3 from by decide), rfl, hP, hD, hS, hl⟩
                  · have t_119 : ¬ (iT_next_36.toInt - iT_next_1.toInt) ≤ 8 := toI_nle c_119 (iI_t (Int.le_trans (by decide) (Int.sub_le_sub (b_iT_next_36.1) (b_iT_next_1.2))) (Int.le_trans (Int.sub_le_sub (b_iT_next_36.2) (b_iT_next_1.1)) (by decide))) (by decide : (8 : Int32).toInt = 8)
                    refine lv_iconst (v := 3) hx hb dX9_advance_122 (by decide) ?_
                    refine lv_goto (tgt := 127) hx hb dX9_advance_123 (by decide) ?_
                    have hl : lv_has _ _ ([(1, .int k0_j9), (0, .ref (hT 0))]) := lv_sub hl [0, 1] rfl
                    exact join14 _ _ _ _ ⟨3, (show 1 ≤ (3 : Int32).toInt ∧ (3 : Int32).toInt ≤ 3 from by decide), rfl, hP, hD, hS, hl⟩
                · rintro H locs ls stk ⟨k0_j14, b_k0_j14, rfl, hP, hD, hS, hl⟩
                  refine va_put (D := (dC, dI)) (ci := 9) (v := .int k0_j14) (ty := .int) (C := RX9) (T := TX9) (N := 9) hx hb hts iwsMX9_advance_in9 tyX9 tyX9_ok nmX9 hown hK hP hD hS 0 rfl rfl 4 (by decide) (hts _ hm_m_X9_advance_2) (fun _ h9 => h9) rfl (by decide +kernel) rfl rfl (Nat.le_of_ble_eq_true rfl) dX9_advance_127 (fun H locs hP hD hS => ?_)
                  have hP : va_P (dC, dI) vwCl (WT hT aT kT fT_tape dT_tape nT_tape iT_length iT_fault iT_place k0_j14 iT_next_1 iT_number jT_name_36 iT_next_36) H := hP
                  have hD := fz_sd hP (hD) rfl
                  refine lv_goto (tgt := 157) hx hb dX9_advance_130 (by decide) ?_
                  have hl : lv_has _ _ ([(1, .int k0_j9), (0, .ref (hT 0))]) := lv_sub hl [0, 1] rfl
                  exact join13 _ _ _ _ ⟨k0_j14, iT_number, jT_name_36, iT_next_36, (b_iT_number), (b_iT_next_36), (show iT_next_1.toInt ≤ iT_next_36.toInt from by first | assumption | omega | (rw [iI_t (by omega) (by omega)]; omega)), (show iT_next_36.toInt ≤ iT_length.toInt from by first | assumption | omega | (rw [iI_t (by omega) (by omega)]; omega)), (show (k0_j14.toInt = 44 ∨ k0_j14.toInt = 61) → iT_next_1.toInt < iT_next_36.toInt from by first | (intro h9; omega) | (intro h9; rcases h9 with h9 | h9 <;> exact absurd h9 (by decide))), rfl, hP, hD, hS, hl⟩
        · have t_57 : ¬ k0_j9.toInt < 97 := toI_nlt c_57 rfl (by decide : (97 : Int32).toInt = 97)
          refine lv_iload_n hx hb dX9_advance_60 rfl (lv_at hl 0 rfl) ?_
          refine lv_bipush (v := 122) hx hb dX9_advance_61 (by decide) ?_
          refine lv_icmp_le (tgt := 78) hx hb dX9_advance_63 (by decide) (fun c_63 => ?_) (fun c_63 => ?_)
          · have t_63 : k0_j9.toInt ≤ 122 := toI_le c_63 rfl (by decide : (122 : Int32).toInt = 122)
            refine lv_aload_n hx hb dX9_advance_78 rfl (lv_at hl 1 rfl) ?_
            have hFc := allFree hD hS hA
            refine va_callv (va_runV (As := []) (rest := []) ⟨hx, hb, hml, hown, hts⟩ (m_X9_takeName l dC dI hT aT kT fT_tape dT_tape nT_tape iT_length iT_fault iT_place iT_kind iT_next_1 iT_number jT_name iT_next_1 b_fT_tape (by first | exact b_nT_tape | with_reducible assumption | exact ⟨by omega, by omega⟩ | assumption) (b_iT_length) (b_iT_next_1) (b_iT_number) (b_iT_next_1) (by first | with_reducible assumption | omega | assumption) (by first | with_reducible assumption | omega | (rw [iI_t (by omega) (by omega)]; omega) | assumption) H.size) (cwV 0 hts gwsMX9_advance_3 rfl rfl rfl hd_yX9_takeName_RX9 (by decide +kernel)) (fz_pre (va_recv hK hP (ci := 9) (q0 := 0) rfl rfl) hP hK hD) rfl rfl hl.1 rfl (lv_room (Nat.le_of_ble_eq_true rfl)) dX9_advance_79 (by decide +kernel)) hS (fun q _ h => hFc q h) hFc (fun u t9_ H locs ht hvm hw9 hB9 hz1 hk1 hS => ?_)
            revert u hw9 hB9
            refine fz_p2 ?_
            intro jT_name_40 iT_next_40 hw9 hB9
            try dsimp only at hw9 hB9
            revert hw9
            refine fz_a3 ?_
            intro b_iT_next_40 f40_0 f40_1
            have hP : va_P (dC, dI) vwCl (WT hT aT kT fT_tape dT_tape nT_tape iT_length iT_fault iT_place iT_kind iT_next_1 iT_number jT_name_40 iT_next_40) H := fz_P ht hB9.1
            have hD := fz_sd hP (hB9.2.weaken (fun _ q _ h => hFc q.1 h)) rfl
            refine lv_aload_n hx hb dX9_advance_82 rfl (lv_at hl 1 rfl) ?_
            refine lv_aload_n hx hb dX9_advance_83 rfl (lv_at hl 1 rfl) ?_
            refine lv_aload_n hx hb dX9_advance_84 rfl (lv_at hl 1 rfl) ?_
            refine va_get (D := (dC, dI)) (ci := 9) (v := .int iT_next_40) (C := RX9) (T := TX9) (N := 9) hx hb hts iwsMX9_advance_in9 hown hK hP 0 rfl rfl 8 (by decide) (hts _ hm_m_X9_advance_0) (fun _ h9 => h9) rfl dX9_advance_85 ?_
            refine lv_aload_n hx hb dX9_advance_88 rfl (lv_at hl 1 rfl) ?_
            refine va_get (D := (dC, dI)) (ci := 9) (v := .int iT_next_1) (C := RX9) (T := TX9) (N := 9) hx hb hts iwsMX9_advance_in9 hown hK hP 0 rfl rfl 5 (by decide) (hts _ hm_m_X9_advance_1) (fun _ h9 => h9) rfl dX9_advance_89 ?_
            refine lv_isub hx hb dX9_advance_92 ?_
            refine lv_topi (fun y41 hy41 => ?_)
            obtain rfl : (iI (iT_next_40.toInt - iT_next_1.toInt)) = y41 := (hy41.trans (iI_sub2 (iI_of _) (iI_of _))).symm
            have hFc := allFree hD hS hA
            refine va_calli (va_runV (As := [.int (iI (iT_next_40.toInt - iT_next_1.toInt))]) (rest := [.ref (hT 0)]) ⟨hx, hb, hml, hown, hts⟩ (m_X9_keywordOf l hst dC dI hT aT kT fT_tape dT_tape nT_tape iT_length iT_fault iT_place iT_kind iT_next_1 iT_number jT_name_40 iT_next_40 (iI (iT_next_40.toInt - iT_next_1.toInt)) b_fT_tape (by first | exact b_nT_tape | with_reducible assumption | exact ⟨by omega, by omega⟩ | assumption) (b_iT_length) (b_iT_next_1) (b_iT_number) (b_iT_next_40) (by first | with_reducible assumption | omega | assumption) (iI_rng (by omega) (Int.le_trans (Int.sub_le_sub (b_iT_next_40.2) (b_iT_next_1.1)) (by decide)) (by decide) (by decide)) (by rw [iI_t (by omega) (by omega)]; omega) H.size) (cwV 1 hts gwsMX9_advance_4 rfl rfl rfl hd_yX9_keywordOf_RX9 (by decide +kernel)) (fz_preE (va_recv hK hP (ci := 9) (q0 := 0) rfl rfl) hP hK hD (fun a U g mk qE => qE.call) (fun U hU9 hW => by rw [hU9]; exact (((hE : CE A s s.heap).kept hS.2.1).narrow (fun q h => hFc q h)).warm hW)) rfl rfl hl.1 rfl (lv_room (Nat.le_of_ble_eq_true rfl)) dX9_advance_93 (by decide +kernel)) hS (fun q _ h => hFc q h) hFc (fun r42 u t9_ H locs ht hvm hw9 hB9 hz1 hk1 hS => ?_)
            revert hw9
            refine fz_a2 ?_
            intro b_r42 f42_0
            have hP : va_P (dC, dI) vwCl (WT hT aT kT fT_tape dT_tape nT_tape iT_length iT_fault iT_place iT_kind iT_next_1 iT_number jT_name_40 iT_next_40) H := fz_P ht hB9.1
            have hD := fz_sd hP (hB9.2.weaken (fun _ q _ h => hFc q.1 h)) rfl
            refine va_put (D := (dC, dI)) (ci := 9) (v := .int r42) (ty := .int) (C := RX9) (T := TX9) (N := 9) hx hb hts iwsMX9_advance_in9 tyX9 tyX9_ok nmX9 hown hK hP hD hS 0 rfl rfl 4 (by decide) (hts _ hm_m_X9_advance_2) (fun _ h9 => h9) rfl (by decide +kernel) rfl rfl (Nat.le_of_ble_eq_true rfl) dX9_advance_96 (fun H locs hP hD hS => ?_)
            have hP : va_P (dC, dI) vwCl (WT hT aT kT fT_tape dT_tape nT_tape iT_length iT_fault iT_place r42 iT_next_1 iT_number jT_name_40 iT_next_40) H := hP
            have hD := fz_sd hP (hD) rfl
            refine lv_aload_n hx hb dX9_advance_99 rfl (lv_at hl 1 rfl) ?_
            refine va_get (D := (dC, dI)) (ci := 9) (v := .int r42) (C := RX9) (T := TX9) (N := 9) hx hb hts iwsMX9_advance_in9 hown hK hP 0 rfl rfl 4 (by decide) (hts _ hm_m_X9_advance_2) (fun _ h9 => h9) rfl dX9_advance_100 ?_
            refine lv_iconst (v := (-1)) hx hb dX9_advance_103 (by decide) ?_
            refine lv_icmp_ne (tgt := 157) hx hb dX9_advance_104 (by decide) (fun c_104 => ?_) (fun c_104 => ?_)
            · have t_104 : r42.toInt ≠ (-1) := toI_ne c_104 rfl (by decide : ((-1) : Int32).toInt = (-1))
              have hl : lv_has _ _ ([(1, .int k0_j9), (0, .ref (hT 0))]) := lv_sub hl [0, 1] rfl
              exact join13 _ _ _ _ ⟨r42, iT_number, jT_name_40, iT_next_40, (b_iT_number), (b_iT_next_40), (show iT_next_1.toInt ≤ iT_next_40.toInt from by first | assumption | omega | (rw [iI_t (by omega) (by omega)]; omega)), (show iT_next_40.toInt ≤ iT_length.toInt from by first | assumption | omega | (rw [iI_t (by omega) (by omega)]; omega)), (show (r42.toInt = 44 ∨ r42.toInt = 61) → iT_next_1.toInt < iT_next_40.toInt from by first | (intro h9; omega) | (intro h9; rcases h9 with h9 | h9 <;> exact absurd h9 (by decide))), rfl, hP, hD, hS, hl⟩
            · have t_104 : r42.toInt = (-1) := toI_nne c_104 rfl (by decide : ((-1) : Int32).toInt = (-1))
              refine lv_aload_n hx hb dX9_advance_107 rfl (lv_at hl 1 rfl) ?_
              refine lv_aload_n hx hb dX9_advance_108 rfl (lv_at hl 1 rfl) ?_
              refine va_get (D := (dC, dI)) (ci := 9) (v := .int iT_next_40) (C := RX9) (T := TX9) (N := 9) hx hb hts iwsMX9_advance_in9 hown hK hP 0 rfl rfl 8 (by decide) (hts _ hm_m_X9_advance_0) (fun _ h9 => h9) rfl dX9_advance_109 ?_
              refine lv_aload_n hx hb dX9_advance_112 rfl (lv_at hl 1 rfl) ?_
              refine va_get (D := (dC, dI)) (ci := 9) (v := .int iT_next_1) (C := RX9) (T := TX9) (N := 9) hx hb hts iwsMX9_advance_in9 hown hK hP 0 rfl rfl 5 (by decide) (hts _ hm_m_X9_advance_1) (fun _ h9 => h9) rfl dX9_advance_113 ?_
              refine lv_isub hx hb dX9_advance_116 ?_
              refine lv_topi (fun y43 hy43 => ?_)
              obtain rfl : (iI (iT_next_40.toInt - iT_next_1.toInt)) = y43 := (hy43.trans (iI_sub2 (iI_of _) (iI_of _))).symm
              refine lv_bipush (v := 8) hx hb dX9_advance_117 (by decide) ?_
              refine W.cut (pc := 127) (fun H locs ls stk => ∃ (k0_j15 : Int32), (1 ≤ k0_j15.toInt ∧ k0_j15.toInt ≤ 3) ∧  stk = [.int k0_j15, .ref (hT 0)] ∧ va_P (dC, dI) vwCl (WT hT aT kT fT_tape dT_tape nT_tape iT_length iT_fault iT_place r42 iT_next_1 iT_number jT_name_40 iT_next_40) H ∧ va_D A (WT hT aT kT fT_tape dT_tape nT_tape iT_length iT_fault iT_place r42 iT_next_1 iT_number jT_name_40 iT_next_40) ∧ va_S A s.heap H locs ∧ lv_has ls 2 [(1, .int k0_j9), (0, .ref (hT 0))]) (fun join15 => ?_) ?_
              · refine lv_icmp_le (tgt := 126) hx hb dX9_advance_119 (by decide) (fun c_119 => ?_) (fun c_119 => ?_)
                · have t_119 : (iT_next_40.toInt - iT_next_1.toInt) ≤ 8 := toI_le c_119 (iI_t (Int.le_trans (by decide) (Int.sub_le_sub (b_iT_next_40.1) (b_iT_next_1.2))) (Int.le_trans (Int.sub_le_sub (b_iT_next_40.2) (b_iT_next_1.1)) (by decide))) (by decide : (8 : Int32).toInt = 8)
                  refine lv_iconst (v := 1) hx hb dX9_advance_126 (by decide) ?_
                  have hl : lv_has _ _ ([(1, .int k0_j9), (0, .ref (hT 0))]) := lv_sub hl [0, 1] rfl
                  exact join15 _ _ _ _ ⟨1, (show 1 ≤ (1 : Int32).toInt ∧ (1 : Int32).toInt ≤ 3 from by decide), rfl, hP, hD, hS, hl⟩
                · have t_119 : ¬ (iT_next_40.toInt - iT_next_1.toInt) ≤ 8 := toI_nle c_119 (iI_t (Int.le_trans (by decide) (Int.sub_le_sub (b_iT_next_40.1) (b_iT_next_1.2))) (Int.le_trans (Int.sub_le_sub (b_iT_next_40.2) (b_iT_next_1.1)) (by decide))) (by decide : (8 : Int32).toInt = 8)
                  refine lv_iconst (v := 3) hx hb dX9_advance_122 (by decide) ?_
                  refine lv_goto (tgt := 127) hx hb dX9_advance_123 (by decide) ?_
                  have hl : lv_has _ _ ([(1, .int k0_j9), (0, .ref (hT 0))]) := lv_sub hl [0, 1] rfl
                  exact join15 _ _ _ _ ⟨3, (show 1 ≤ (3 : Int32).toInt ∧ (3 : Int32).toInt ≤ 3 from by decide), rfl, hP, hD, hS, hl⟩
              · rintro H locs ls stk ⟨k0_j15, b_k0_j15, rfl, hP, hD, hS, hl⟩
                refine va_put (D := (dC, dI)) (ci := 9) (v := .int k0_j15) (ty := .int) (C := RX9) (T := TX9) (N := 9) hx hb hts iwsMX9_advance_in9 tyX9 tyX9_ok nmX9 hown hK hP hD hS 0 rfl rfl 4 (by decide) (hts _ hm_m_X9_advance_2) (fun _ h9 => h9) rfl (by decide +kernel) rfl rfl (Nat.le_of_ble_eq_true rfl) dX9_advance_127 (fun H locs hP hD hS => ?_)
                have hP : va_P (dC, dI) vwCl (WT hT aT kT fT_tape dT_tape nT_tape iT_length iT_fault iT_place k0_j15 iT_next_1 iT_number jT_name_40 iT_next_40) H := hP
                have hD := fz_sd hP (hD) rfl
                refine lv_goto (tgt := 157) hx hb dX9_advance_130 (by decide) ?_
                have hl : lv_has _ _ ([(1, .int k0_j9), (0, .ref (hT 0))]) := lv_sub hl [0, 1] rfl
                exact join13 _ _ _ _ ⟨k0_j15, iT_number, jT_name_40, iT_next_40, (b_iT_number), (b_iT_next_40), (show iT_next_1.toInt ≤ iT_next_40.toInt from by first | assumption | omega | (rw [iI_t (by omega) (by omega)]; omega)), (show iT_next_40.toInt ≤ iT_length.toInt from by first | assumption | omega | (rw [iI_t (by omega) (by omega)]; omega)), (show (k0_j15.toInt = 44 ∨ k0_j15.toInt = 61) → iT_next_1.toInt < iT_next_40.toInt from by first | (intro h9; omega) | (intro h9; rcases h9 with h9 | h9 <;> exact absurd h9 (by decide))), rfl, hP, hD, hS, hl⟩
          · have t_63 : ¬ k0_j9.toInt ≤ 122 := toI_nle c_63 rfl (by decide : (122 : Int32).toInt = 122)
            refine lv_iload_n hx hb dX9_advance_66 rfl (lv_at hl 0 rfl) ?_
            refine lv_bipush (v := 65) hx hb dX9_advance_67 (by decide) ?_
            refine lv_icmp_lt (tgt := 133) hx hb dX9_advance_69 (by decide) (fun c_69 => ?_) (fun c_69 => ?_)
            · have t_69 : k0_j9.toInt < 65 := toI_lt c_69 rfl (by decide : (65 : Int32).toInt = 65)
              refine lv_iload_n hx hb dX9_advance_133 rfl (lv_at hl 0 rfl) ?_
              refine lv_bipush (v := 48) hx hb dX9_advance_134 (by decide) ?_
              refine lv_icmp_lt (tgt := 152) hx hb dX9_advance_136 (by decide) (fun c_136 => ?_) (fun c_136 => ?_)
              · have t_136 : k0_j9.toInt < 48 := toI_lt c_136 rfl (by decide : (48 : Int32).toInt = 48)
                refine lv_aload_n hx hb dX9_advance_152 rfl (lv_at hl 1 rfl) ?_
                refine lv_iload_n hx hb dX9_advance_153 rfl (lv_at hl 0 rfl) ?_
                have hFc := allFree hD hS hA
                refine va_callv (va_runV (As := [.int k0_j9]) (rest := []) ⟨hx, hb, hml, hown, hts⟩ (m_X9_takeSign l hst dC dI hT aT kT fT_tape dT_tape nT_tape iT_length iT_fault iT_place iT_kind iT_next_1 iT_number jT_name iT_next_1 k0_j9 b_fT_tape (by first | exact b_nT_tape | with_reducible assumption | exact ⟨by omega, by omega⟩ | assumption) (b_iT_length) (b_iT_next_1) (b_iT_number) (b_iT_next_1) (by first | with_reducible assumption | omega | assumption) (by first | with_reducible assumption | omega | (rw [iI_t (by omega) (by omega)]; omega) | decide | assumption) H.size) (cwV 1 hts gwsMX9_advance_1 rfl rfl rfl hd_yX9_takeSign_RX9 (by decide +kernel)) (fz_preE (va_recv hK hP (ci := 9) (q0 := 0) rfl rfl) hP hK hD (fun a U g mk qE => qE.call) (fun U hU9 hW => by rw [hU9]; exact (((hE : CE A s s.heap).kept hS.2.1).narrow (fun q h => hFc q h)).warm hW)) rfl rfl hl.1 rfl (lv_room (Nat.le_of_ble_eq_true rfl)) dX9_advance_154 (by decide +kernel)) hS (fun q _ h => hFc q h) hFc (fun u t9_ H locs ht hvm hw9 hB9 hz1 hk1 hS => ?_)
                revert u hw9 hB9
                refine fz_p2 ?_
                intro iT_kind_44 iT_next_44 hw9 hB9
                try dsimp only at hw9 hB9
                revert hw9
                refine fz_a3 ?_
                intro b_iT_next_44 f44_0 f44_1
                have hP : va_P (dC, dI) vwCl (WT hT aT kT fT_tape dT_tape nT_tape iT_length iT_fault iT_place iT_kind_44 iT_next_1 iT_number jT_name iT_next_44) H := fz_P ht hB9.1
                have hD := fz_sd hP (hB9.2.weaken (fun _ q _ h => hFc q.1 h)) rfl
                have hl : lv_has _ _ ([(1, .int k0_j9), (0, .ref (hT 0))]) := lv_sub hl [0, 1] rfl
                exact join13 _ _ _ _ ⟨iT_kind_44, iT_number, jT_name, iT_next_44, (b_iT_number), (b_iT_next_44), (show iT_next_1.toInt ≤ iT_next_44.toInt from by first | assumption | omega | (rw [iI_t (by omega) (by omega)]; omega)), (show iT_next_44.toInt ≤ iT_length.toInt from by first | assumption | omega | (rw [iI_t (by omega) (by omega)]; omega)), (show (iT_kind_44.toInt = 44 ∨ iT_kind_44.toInt = 61) → iT_next_1.toInt < iT_next_44.toInt from by first | (intro h9; omega) | (intro h9; rcases h9 with h9 | h9 <;> exact absurd h9 (by decide))), rfl, hP, hD, hS, hl⟩
              · have t_136 : ¬ k0_j9.toInt < 48 := toI_nlt c_136 rfl (by decide : (48 : Int32).toInt = 48)
                refine lv_iload_n hx hb dX9_advance_139 rfl (lv_at hl 0 rfl) ?_
                refine lv_bipush (v := 57) hx hb dX9_advance_140 (by decide) ?_
                refine lv_icmp_gt (tgt := 152) hx hb dX9_advance_142 (by decide) (fun c_142 => ?_) (fun c_142 => ?_)
                · have t_142 : k0_j9.toInt > 57 := toI_gt c_142 rfl (by decide : (57 : Int32).toInt = 57)
                  refine lv_aload_n hx hb dX9_advance_152 rfl (lv_at hl 1 rfl) ?_
                  refine lv_iload_n hx hb dX9_advance_153 rfl (lv_at hl 0 rfl) ?_
                  have hFc := allFree hD hS hA
                  refine va_callv (va_runV (As := [.int k0_j9]) (rest := []) ⟨hx, hb, hml, hown, hts⟩ (m_X9_takeSign l hst dC dI hT aT kT fT_tape dT_tape nT_tape iT_length iT_fault iT_place iT_kind iT_next_1 iT_number jT_name iT_next_1 k0_j9 b_fT_tape (by first | exact b_nT_tape | with_reducible assumption | exact ⟨by omega, by omega⟩ | assumption) (b_iT_length) (b_iT_next_1) (b_iT_number) (b_iT_next_1) (by first | with_reducible assumption | omega | assumption) (by first | with_reducible assumption | omega | (rw [iI_t (by omega) (by omega)]; omega) | decide | assumption) H.size) (cwV 1 hts gwsMX9_advance_1 rfl rfl rfl hd_yX9_takeSign_RX9 (by decide +kernel)) (fz_preE (va_recv hK hP (ci := 9) (q0 := 0) rfl rfl) hP hK hD (fun a U g mk qE => qE.call) (fun U hU9 hW => by rw [hU9]; exact (((hE : CE A s s.heap).kept hS.2.1).narrow (fun q h => hFc q h)).warm hW)) rfl rfl hl.1 rfl (lv_room (Nat.le_of_ble_eq_true rfl)) dX9_advance_154 (by decide +kernel)) hS (fun q _ h => hFc q h) hFc (fun u t9_ H locs ht hvm hw9 hB9 hz1 hk1 hS => ?_)
                  revert u hw9 hB9
                  refine fz_p2 ?_
                  intro iT_kind_45 iT_next_45 hw9 hB9
                  try dsimp only at hw9 hB9
                  revert hw9
                  refine fz_a3 ?_
                  intro b_iT_next_45 f45_0 f45_1
                  have hP : va_P (dC, dI) vwCl (WT hT aT kT fT_tape dT_tape nT_tape iT_length iT_fault iT_place iT_kind_45 iT_next_1 iT_number jT_name iT_next_45) H := fz_P ht hB9.1
                  have hD := fz_sd hP (hB9.2.weaken (fun _ q _ h => hFc q.1 h)) rfl
                  have hl : lv_has _ _ ([(1, .int k0_j9), (0, .ref (hT 0))]) := lv_sub hl [0, 1] rfl
                  exact join13 _ _ _ _ ⟨iT_kind_45, iT_number, jT_name, iT_next_45, (b_iT_number), (b_iT_next_45), (show iT_next_1.toInt ≤ iT_next_45.toInt from by first | assumption | omega | (rw [iI_t (by omega) (by omega)]; omega)), (show iT_next_45.toInt ≤ iT_length.toInt from by first | assumption | omega | (rw [iI_t (by omega) (by omega)]; omega)), (show (iT_kind_45.toInt = 44 ∨ iT_kind_45.toInt = 61) → iT_next_1.toInt < iT_next_45.toInt from by first | (intro h9; omega) | (intro h9; rcases h9 with h9 | h9 <;> exact absurd h9 (by decide))), rfl, hP, hD, hS, hl⟩
                · have t_142 : ¬ k0_j9.toInt > 57 := toI_ngt c_142 rfl (by decide : (57 : Int32).toInt = 57)
                  refine lv_aload_n hx hb dX9_advance_145 rfl (lv_at hl 1 rfl) ?_
                  have hFc := allFree hD hS hA
                  refine va_callv (va_runV (As := []) (rest := []) ⟨hx, hb, hml, hown, hts⟩ (m_X9_takeNumber l dC dI hT aT kT fT_tape dT_tape nT_tape iT_length iT_fault iT_place iT_kind iT_next_1 iT_number jT_name iT_next_1 b_fT_tape (by first | exact b_nT_tape | with_reducible assumption | exact ⟨by omega, by omega⟩ | assumption) (b_iT_length) (b_iT_next_1) (b_iT_number) (b_iT_next_1) (by first | with_reducible assumption | omega | assumption) (by first | with_reducible assumption | omega | (rw [iI_t (by omega) (by omega)]; omega) | assumption) (by first | with_reducible assumption | omega | (rw [iI_t (by omega) (by omega)]; omega) | decide | assumption) H.size) (cwV 0 hts gwsMX9_advance_2 rfl rfl rfl hd_yX9_takeNumber_RX9 (by decide +kernel)) (fz_pre (va_recv hK hP (ci := 9) (q0 := 0) rfl rfl) hP hK hD) rfl rfl hl.1 rfl (lv_room (Nat.le_of_ble_eq_true rfl)) dX9_advance_146 (by decide +kernel)) hS (fun q _ h => hFc q h) hFc (fun u t9_ H locs ht hvm hw9 hB9 hz1 hk1 hS => ?_)
                  revert u hw9 hB9
                  refine fz_p3 ?_
                  intro iT_kind_46 iT_number_46 iT_next_46 hw9 hB9
                  try dsimp only at hw9 hB9
                  revert hw9
                  refine fz_a5 ?_
                  intro b_iT_number_46 b_iT_next_46 f46_0 f46_1 f46_2
                  have hP : va_P (dC, dI) vwCl (WT hT aT kT fT_tape dT_tape nT_tape iT_length iT_fault iT_place iT_kind_46 iT_next_1 iT_number_46 jT_name iT_next_46) H := fz_P ht hB9.1
                  have hD := fz_sd hP (hB9.2.weaken (fun _ q _ h => hFc q.1 h)) rfl
                  refine lv_goto (tgt := 157) hx hb dX9_advance_149 (by decide) ?_
                  have hl : lv_has _ _ ([(1, .int k0_j9), (0, .ref (hT 0))]) := lv_sub hl [0, 1] rfl
                  exact join13 _ _ _ _ ⟨iT_kind_46, iT_number_46, jT_name, iT_next_46, (b_iT_number_46), (b_iT_next_46), (show iT_next_1.toInt ≤ iT_next_46.toInt from by first | assumption | omega | (rw [iI_t (by omega) (by omega)]; omega)), (show iT_next_46.toInt ≤ iT_length.toInt from by first | assumption | omega | (rw [iI_t (by omega) (by omega)]; omega)), (show (iT_kind_46.toInt = 44 ∨ iT_kind_46.toInt = 61) → iT_next_1.toInt < iT_next_46.toInt from by first | (intro h9; omega) | (intro h9; rcases h9 with h9 | h9 <;> exact absurd h9 (by decide))), rfl, hP, hD, hS, hl⟩
            · have t_69 : ¬ k0_j9.toInt < 65 := toI_nlt c_69 rfl (by decide : (65 : Int32).toInt = 65)
              refine lv_iload_n hx hb dX9_advance_72 rfl (lv_at hl 0 rfl) ?_
              refine lv_bipush (v := 90) hx hb dX9_advance_73 (by decide) ?_
              refine lv_icmp_gt (tgt := 133) hx hb dX9_advance_75 (by decide) (fun c_75 => ?_) (fun c_75 => ?_)
              · have t_75 : k0_j9.toInt > 90 := toI_gt c_75 rfl (by decide : (90 : Int32).toInt = 90)
                refine lv_iload_n hx hb dX9_advance_133 rfl (lv_at hl 0 rfl) ?_
                refine lv_bipush (v := 48) hx hb dX9_advance_134 (by decide) ?_
                refine lv_icmp_lt (tgt := 152) hx hb dX9_advance_136 (by decide) (fun c_136 => ?_) (fun c_136 => ?_)
                · have t_136 : k0_j9.toInt < 48 := toI_lt c_136 rfl (by decide : (48 : Int32).toInt = 48)
                  refine lv_aload_n hx hb dX9_advance_152 rfl (lv_at hl 1 rfl) ?_
                  refine lv_iload_n hx hb dX9_advance_153 rfl (lv_at hl 0 rfl) ?_
                  have hFc := allFree hD hS hA
                  refine va_callv (va_runV (As := [.int k0_j9]) (rest := []) ⟨hx, hb, hml, hown, hts⟩ (m_X9_takeSign l hst dC dI hT aT kT fT_tape dT_tape nT_tape iT_length iT_fault iT_place iT_kind iT_next_1 iT_number jT_name iT_next_1 k0_j9 b_fT_tape (by first | exact b_nT_tape | with_reducible assumption | exact ⟨by omega, by omega⟩ | assumption) (b_iT_length) (b_iT_next_1) (b_iT_number) (b_iT_next_1) (by first | with_reducible assumption | omega | assumption) (by first | with_reducible assumption | omega | (rw [iI_t (by omega) (by omega)]; omega) | decide | assumption) H.size) (cwV 1 hts gwsMX9_advance_1 rfl rfl rfl hd_yX9_takeSign_RX9 (by decide +kernel)) (fz_preE (va_recv hK hP (ci := 9) (q0 := 0) rfl rfl) hP hK hD (fun a U g mk qE => qE.call) (fun U hU9 hW => by rw [hU9]; exact (((hE : CE A s s.heap).kept hS.2.1).narrow (fun q h => hFc q h)).warm hW)) rfl rfl hl.1 rfl (lv_room (Nat.le_of_ble_eq_true rfl)) dX9_advance_154 (by decide +kernel)) hS (fun q _ h => hFc q h) hFc (fun u t9_ H locs ht hvm hw9 hB9 hz1 hk1 hS => ?_)
                  revert u hw9 hB9
                  refine fz_p2 ?_
                  intro iT_kind_47 iT_next_47 hw9 hB9
                  try dsimp only at hw9 hB9
                  revert hw9
                  refine fz_a3 ?_
                  intro b_iT_next_47 f47_0 f47_1
                  have hP : va_P (dC, dI) vwCl (WT hT aT kT fT_tape dT_tape nT_tape iT_length iT_fault iT_place iT_kind_47 iT_next_1 iT_number jT_name iT_next_47) H := fz_P ht hB9.1
                  have hD := fz_sd hP (hB9.2.weaken (fun _ q _ h => hFc q.1 h)) rfl
                  have hl : lv_has _ _ ([(1, .int k0_j9), (0, .ref (hT 0))]) := lv_sub hl [0, 1] rfl
                  exact join13 _ _ _ _ ⟨iT_kind_47, iT_number, jT_name, iT_next_47, (b_iT_number), (b_iT_next_47), (show iT_next_1.toInt ≤ iT_next_47.toInt from by first | assumption | omega | (rw [iI_t (by omega) (by omega)]; omega)), (show iT_next_47.toInt ≤ iT_length.toInt from by first | assumption | omega | (rw [iI_t (by omega) (by omega)]; omega)), (show (iT_kind_47.toInt = 44 ∨ iT_kind_47.toInt = 61) → iT_next_1.toInt < iT_next_47.toInt from by first | (intro h9; omega) | (intro h9; rcases h9 with h9 | h9 <;> exact absurd h9 (by decide))), rfl, hP, hD, hS, hl⟩
                · have t_136 : ¬ k0_j9.toInt < 48 := toI_nlt c_136 rfl (by decide : (48 : Int32).toInt = 48)
                  refine lv_iload_n hx hb dX9_advance_139 rfl (lv_at hl 0 rfl) ?_
                  refine lv_bipush (v := 57) hx hb dX9_advance_140 (by decide) ?_
                  refine lv_icmp_gt (tgt := 152) hx hb dX9_advance_142 (by decide) (fun c_142 => ?_) (fun c_142 => ?_)
                  · have t_142 : k0_j9.toInt > 57 := toI_gt c_142 rfl (by decide : (57 : Int32).toInt = 57)
                    refine lv_aload_n hx hb dX9_advance_152 rfl (lv_at hl 1 rfl) ?_
                    refine lv_iload_n hx hb dX9_advance_153 rfl (lv_at hl 0 rfl) ?_
                    have hFc := allFree hD hS hA
                    refine va_callv (va_runV (As := [.int k0_j9]) (rest := []) ⟨hx, hb, hml, hown, hts⟩ (m_X9_takeSign l hst dC dI hT aT kT fT_tape dT_tape nT_tape iT_length iT_fault iT_place iT_kind iT_next_1 iT_number jT_name iT_next_1 k0_j9 b_fT_tape (by first | exact b_nT_tape | with_reducible assumption | exact ⟨by omega, by omega⟩ | assumption) (b_iT_length) (b_iT_next_1) (b_iT_number) (b_iT_next_1) (by first | with_reducible assumption | omega | assumption) (by first | with_reducible assumption | omega | (rw [iI_t (by omega) (by omega)]; omega) | decide | assumption) H.size) (cwV 1 hts gwsMX9_advance_1 rfl rfl rfl hd_yX9_takeSign_RX9 (by decide +kernel)) (fz_preE (va_recv hK hP (ci := 9) (q0 := 0) rfl rfl) hP hK hD (fun a U g mk qE => qE.call) (fun U hU9 hW => by rw [hU9]; exact (((hE : CE A s s.heap).kept hS.2.1).narrow (fun q h => hFc q h)).warm hW)) rfl rfl hl.1 rfl (lv_room (Nat.le_of_ble_eq_true rfl)) dX9_advance_154 (by decide +kernel)) hS (fun q _ h => hFc q h) hFc (fun u t9_ H locs ht hvm hw9 hB9 hz1 hk1 hS => ?_)
                    revert u hw9 hB9
                    refine fz_p2 ?_
                    intro iT_kind_48 iT_next_48 hw9 hB9
                    try dsimp only at hw9 hB9
                    revert hw9
                    refine fz_a3 ?_
                    intro b_iT_next_48 f48_0 f48_1
                    have hP : va_P (dC, dI) vwCl (WT hT aT kT fT_tape dT_tape nT_tape iT_length iT_fault iT_place iT_kind_48 iT_next_1 iT_number jT_name iT_next_48) H := fz_P ht hB9.1
                    have hD := fz_sd hP (hB9.2.weaken (fun _ q _ h => hFc q.1 h)) rfl
                    have hl : lv_has _ _ ([(1, .int k0_j9), (0, .ref (hT 0))]) := lv_sub hl [0, 1] rfl
                    exact join13 _ _ _ _ ⟨iT_kind_48, iT_number, jT_name, iT_next_48, (b_iT_number), (b_iT_next_48), (show iT_next_1.toInt ≤ iT_next_48.toInt from by first | assumption | omega | (rw [iI_t (by omega) (by omega)]; omega)), (show iT_next_48.toInt ≤ iT_length.toInt from by first | assumption | omega | (rw [iI_t (by omega) (by omega)]; omega)), (show (iT_kind_48.toInt = 44 ∨ iT_kind_48.toInt = 61) → iT_next_1.toInt < iT_next_48.toInt from by first | (intro h9; omega) | (intro h9; rcases h9 with h9 | h9 <;> exact absurd h9 (by decide))), rfl, hP, hD, hS, hl⟩
                  · have t_142 : ¬ k0_j9.toInt > 57 := toI_ngt c_142 rfl (by decide : (57 : Int32).toInt = 57)
                    refine lv_aload_n hx hb dX9_advance_145 rfl (lv_at hl 1 rfl) ?_
                    have hFc := allFree hD hS hA
                    refine va_callv (va_runV (As := []) (rest := []) ⟨hx, hb, hml, hown, hts⟩ (m_X9_takeNumber l dC dI hT aT kT fT_tape dT_tape nT_tape iT_length iT_fault iT_place iT_kind iT_next_1 iT_number jT_name iT_next_1 b_fT_tape (by first | exact b_nT_tape | with_reducible assumption | exact ⟨by omega, by omega⟩ | assumption) (b_iT_length) (b_iT_next_1) (b_iT_number) (b_iT_next_1) (by first | with_reducible assumption | omega | assumption) (by first | with_reducible assumption | omega | (rw [iI_t (by omega) (by omega)]; omega) | assumption) (by first | with_reducible assumption | omega | (rw [iI_t (by omega) (by omega)]; omega) | decide | assumption) H.size) (cwV 0 hts gwsMX9_advance_2 rfl rfl rfl hd_yX9_takeNumber_RX9 (by decide +kernel)) (fz_pre (va_recv hK hP (ci := 9) (q0 := 0) rfl rfl) hP hK hD) rfl rfl hl.1 rfl (lv_room (Nat.le_of_ble_eq_true rfl)) dX9_advance_146 (by decide +kernel)) hS (fun q _ h => hFc q h) hFc (fun u t9_ H locs ht hvm hw9 hB9 hz1 hk1 hS => ?_)
                    revert u hw9 hB9
                    refine fz_p3 ?_
                    intro iT_kind_49 iT_number_49 iT_next_49 hw9 hB9
                    try dsimp only at hw9 hB9
                    revert hw9
                    refine fz_a5 ?_
                    intro b_iT_number_49 b_iT_next_49 f49_0 f49_1 f49_2
                    have hP : va_P (dC, dI) vwCl (WT hT aT kT fT_tape dT_tape nT_tape iT_length iT_fault iT_place iT_kind_49 iT_next_1 iT_number_49 jT_name iT_next_49) H := fz_P ht hB9.1
                    have hD := fz_sd hP (hB9.2.weaken (fun _ q _ h => hFc q.1 h)) rfl
                    refine lv_goto (tgt := 157) hx hb dX9_advance_149 (by decide) ?_
                    have hl : lv_has _ _ ([(1, .int k0_j9), (0, .ref (hT 0))]) := lv_sub hl [0, 1] rfl
                    exact join13 _ _ _ _ ⟨iT_kind_49, iT_number_49, jT_name, iT_next_49, (b_iT_number_49), (b_iT_next_49), (show iT_next_1.toInt ≤ iT_next_49.toInt from by first | assumption | omega | (rw [iI_t (by omega) (by omega)]; omega)), (show iT_next_49.toInt ≤ iT_length.toInt from by first | assumption | omega | (rw [iI_t (by omega) (by omega)]; omega)), (show (iT_kind_49.toInt = 44 ∨ iT_kind_49.toInt = 61) → iT_next_1.toInt < iT_next_49.toInt from by first | (intro h9; omega) | (intro h9; rcases h9 with h9 | h9 <;> exact absurd h9 (by decide))), rfl, hP, hD, hS, hl⟩
              · have t_75 : ¬ k0_j9.toInt > 90 := toI_ngt c_75 rfl (by decide : (90 : Int32).toInt = 90)
                refine lv_aload_n hx hb dX9_advance_78 rfl (lv_at hl 1 rfl) ?_
                have hFc := allFree hD hS hA
                refine va_callv (va_runV (As := []) (rest := []) ⟨hx, hb, hml, hown, hts⟩ (m_X9_takeName l dC dI hT aT kT fT_tape dT_tape nT_tape iT_length iT_fault iT_place iT_kind iT_next_1 iT_number jT_name iT_next_1 b_fT_tape (by first | exact b_nT_tape | with_reducible assumption | exact ⟨by omega, by omega⟩ | assumption) (b_iT_length) (b_iT_next_1) (b_iT_number) (b_iT_next_1) (by first | with_reducible assumption | omega | assumption) (by first | with_reducible assumption | omega | (rw [iI_t (by omega) (by omega)]; omega) | assumption) H.size) (cwV 0 hts gwsMX9_advance_3 rfl rfl rfl hd_yX9_takeName_RX9 (by decide +kernel)) (fz_pre (va_recv hK hP (ci := 9) (q0 := 0) rfl rfl) hP hK hD) rfl rfl hl.1 rfl (lv_room (Nat.le_of_ble_eq_true rfl)) dX9_advance_79 (by decide +kernel)) hS (fun q _ h => hFc q h) hFc (fun u t9_ H locs ht hvm hw9 hB9 hz1 hk1 hS => ?_)
                revert u hw9 hB9
                refine fz_p2 ?_
                intro jT_name_50 iT_next_50 hw9 hB9
                try dsimp only at hw9 hB9
                revert hw9
                refine fz_a3 ?_
                intro b_iT_next_50 f50_0 f50_1
                have hP : va_P (dC, dI) vwCl (WT hT aT kT fT_tape dT_tape nT_tape iT_length iT_fault iT_place iT_kind iT_next_1 iT_number jT_name_50 iT_next_50) H := fz_P ht hB9.1
                have hD := fz_sd hP (hB9.2.weaken (fun _ q _ h => hFc q.1 h)) rfl
                refine lv_aload_n hx hb dX9_advance_82 rfl (lv_at hl 1 rfl) ?_
                refine lv_aload_n hx hb dX9_advance_83 rfl (lv_at hl 1 rfl) ?_
                refine lv_aload_n hx hb dX9_advance_84 rfl (lv_at hl 1 rfl) ?_
                refine va_get (D := (dC, dI)) (ci := 9) (v := .int iT_next_50) (C := RX9) (T := TX9) (N := 9) hx hb hts iwsMX9_advance_in9 hown hK hP 0 rfl rfl 8 (by decide) (hts _ hm_m_X9_advance_0) (fun _ h9 => h9) rfl dX9_advance_85 ?_
                refine lv_aload_n hx hb dX9_advance_88 rfl (lv_at hl 1 rfl) ?_
                refine va_get (D := (dC, dI)) (ci := 9) (v := .int iT_next_1) (C := RX9) (T := TX9) (N := 9) hx hb hts iwsMX9_advance_in9 hown hK hP 0 rfl rfl 5 (by decide) (hts _ hm_m_X9_advance_1) (fun _ h9 => h9) rfl dX9_advance_89 ?_
                refine lv_isub hx hb dX9_advance_92 ?_
                refine lv_topi (fun y51 hy51 => ?_)
                obtain rfl : (iI (iT_next_50.toInt - iT_next_1.toInt)) = y51 := (hy51.trans (iI_sub2 (iI_of _) (iI_of _))).symm
                have hFc := allFree hD hS hA
                refine va_calli (va_runV (As := [.int (iI (iT_next_50.toInt - iT_next_1.toInt))]) (rest := [.ref (hT 0)]) ⟨hx, hb, hml, hown, hts⟩ (m_X9_keywordOf l hst dC dI hT aT kT fT_tape dT_tape nT_tape iT_length iT_fault iT_place iT_kind iT_next_1 iT_number jT_name_50 iT_next_50 (iI (iT_next_50.toInt - iT_next_1.toInt)) b_fT_tape (by first | exact b_nT_tape | with_reducible assumption | exact ⟨by omega, by omega⟩ | assumption) (b_iT_length) (b_iT_next_1) (b_iT_number) (b_iT_next_50) (by first | with_reducible assumption | omega | assumption) (iI_rng (by omega) (Int.le_trans (Int.sub_le_sub (b_iT_next_50.2) (b_iT_next_1.1)) (by decide)) (by decide) (by decide)) (by rw [iI_t (by omega) (by omega)]; omega) H.size) (cwV 1 hts gwsMX9_advance_4 rfl rfl rfl hd_yX9_keywordOf_RX9 (by decide +kernel)) (fz_preE (va_recv hK hP (ci := 9) (q0 := 0) rfl rfl) hP hK hD (fun a U g mk qE => qE.call) (fun U hU9 hW => by rw [hU9]; exact (((hE : CE A s s.heap).kept hS.2.1).narrow (fun q h => hFc q h)).warm hW)) rfl rfl hl.1 rfl (lv_room (Nat.le_of_ble_eq_true rfl)) dX9_advance_93 (by decide +kernel)) hS (fun q _ h => hFc q h) hFc (fun r52 u t9_ H locs ht hvm hw9 hB9 hz1 hk1 hS => ?_)
                revert hw9
                refine fz_a2 ?_
                intro b_r52 f52_0
                have hP : va_P (dC, dI) vwCl (WT hT aT kT fT_tape dT_tape nT_tape iT_length iT_fault iT_place iT_kind iT_next_1 iT_number jT_name_50 iT_next_50) H := fz_P ht hB9.1
                have hD := fz_sd hP (hB9.2.weaken (fun _ q _ h => hFc q.1 h)) rfl
                refine va_put (D := (dC, dI)) (ci := 9) (v := .int r52) (ty := .int) (C := RX9) (T := TX9) (N := 9) hx hb hts iwsMX9_advance_in9 tyX9 tyX9_ok nmX9 hown hK hP hD hS 0 rfl rfl 4 (by decide) (hts _ hm_m_X9_advance_2) (fun _ h9 => h9) rfl (by decide +kernel) rfl rfl (Nat.le_of_ble_eq_true rfl) dX9_advance_96 (fun H locs hP hD hS => ?_)
                have hP : va_P (dC, dI) vwCl (WT hT aT kT fT_tape dT_tape nT_tape iT_length iT_fault iT_place r52 iT_next_1 iT_number jT_name_50 iT_next_50) H := hP
                have hD := fz_sd hP (hD) rfl
                refine lv_aload_n hx hb dX9_advance_99 rfl (lv_at hl 1 rfl) ?_
                refine va_get (D := (dC, dI)) (ci := 9) (v := .int r52) (C := RX9) (T := TX9) (N := 9) hx hb hts iwsMX9_advance_in9 hown hK hP 0 rfl rfl 4 (by decide) (hts _ hm_m_X9_advance_2) (fun _ h9 => h9) rfl dX9_advance_100 ?_
                refine lv_iconst (v := (-1)) hx hb dX9_advance_103 (by decide) ?_
                refine lv_icmp_ne (tgt := 157) hx hb dX9_advance_104 (by decide) (fun c_104 => ?_) (fun c_104 => ?_)
                · have t_104 : r52.toInt ≠ (-1) := toI_ne c_104 rfl (by decide : ((-1) : Int32).toInt = (-1))
                  have hl : lv_has _ _ ([(1, .int k0_j9), (0, .ref (hT 0))]) := lv_sub hl [0, 1] rfl
                  exact join13 _ _ _ _ ⟨r52, iT_number, jT_name_50, iT_next_50, (b_iT_number), (b_iT_next_50), (show iT_next_1.toInt ≤ iT_next_50.toInt from by first | assumption | omega | (rw [iI_t (by omega) (by omega)]; omega)), (show iT_next_50.toInt ≤ iT_length.toInt from by first | assumption | omega | (rw [iI_t (by omega) (by omega)]; omega)), (show (r52.toInt = 44 ∨ r52.toInt = 61) → iT_next_1.toInt < iT_next_50.toInt from by first | (intro h9; omega) | (intro h9; rcases h9 with h9 | h9 <;> exact absurd h9 (by decide))), rfl, hP, hD, hS, hl⟩
                · have t_104 : r52.toInt = (-1) := toI_nne c_104 rfl (by decide : ((-1) : Int32).toInt = (-1))
                  refine lv_aload_n hx hb dX9_advance_107 rfl (lv_at hl 1 rfl) ?_
                  refine lv_aload_n hx hb dX9_advance_108 rfl (lv_at hl 1 rfl) ?_
                  refine va_get (D := (dC, dI)) (ci := 9) (v := .int iT_next_50) (C := RX9) (T := TX9) (N := 9) hx hb hts iwsMX9_advance_in9 hown hK hP 0 rfl rfl 8 (by decide) (hts _ hm_m_X9_advance_0) (fun _ h9 => h9) rfl dX9_advance_109 ?_
                  refine lv_aload_n hx hb dX9_advance_112 rfl (lv_at hl 1 rfl) ?_
                  refine va_get (D := (dC, dI)) (ci := 9) (v := .int iT_next_1) (C := RX9) (T := TX9) (N := 9) hx hb hts iwsMX9_advance_in9 hown hK hP 0 rfl rfl 5 (by decide) (hts _ hm_m_X9_advance_1) (fun _ h9 => h9) rfl dX9_advance_113 ?_
                  refine lv_isub hx hb dX9_advance_116 ?_
                  refine lv_topi (fun y53 hy53 => ?_)
                  obtain rfl : (iI (iT_next_50.toInt - iT_next_1.toInt)) = y53 := (hy53.trans (iI_sub2 (iI_of _) (iI_of _))).symm
                  refine lv_bipush (v := 8) hx hb dX9_advance_117 (by decide) ?_
                  refine W.cut (pc := 127) (fun H locs ls stk => ∃ (k0_j16 : Int32), (1 ≤ k0_j16.toInt ∧ k0_j16.toInt ≤ 3) ∧  stk = [.int k0_j16, .ref (hT 0)] ∧ va_P (dC, dI) vwCl (WT hT aT kT fT_tape dT_tape nT_tape iT_length iT_fault iT_place r52 iT_next_1 iT_number jT_name_50 iT_next_50) H ∧ va_D A (WT hT aT kT fT_tape dT_tape nT_tape iT_length iT_fault iT_place r52 iT_next_1 iT_number jT_name_50 iT_next_50) ∧ va_S A s.heap H locs ∧ lv_has ls 2 [(1, .int k0_j9), (0, .ref (hT 0))]) (fun join16 => ?_) ?_
                  · refine lv_icmp_le (tgt := 126) hx hb dX9_advance_119 (by decide) (fun c_119 => ?_) (fun c_119 => ?_)
                    · have t_119 : (iT_next_50.toInt - iT_next_1.toInt) ≤ 8 := toI_le c_119 (iI_t (Int.le_trans (by decide) (Int.sub_le_sub (b_iT_next_50.1) (b_iT_next_1.2))) (Int.le_trans (Int.sub_le_sub (b_iT_next_50.2) (b_iT_next_1.1)) (by decide))) (by decide : (8 : Int32).toInt = 8)
                      refine lv_iconst (v := 1) hx hb dX9_advance_126 (by decide) ?_
                      have hl : lv_has _ _ ([(1, .int k0_j9), (0, .ref (hT 0))]) := lv_sub hl [0, 1] rfl
                      exact join16 _ _ _ _ ⟨1, (show 1 ≤ (1 : Int32).toInt ∧ (1 : Int32).toInt ≤ 3 from by decide), rfl, hP, hD, hS, hl⟩
                    · have t_119 : ¬ (iT_next_50.toInt - iT_next_1.toInt) ≤ 8 := toI_nle c_119 (iI_t (Int.le_trans (by decide) (Int.sub_le_sub (b_iT_next_50.1) (b_iT_next_1.2))) (Int.le_trans (Int.sub_le_sub (b_iT_next_50.2) (b_iT_next_1.1)) (by decide))) (by decide : (8 : Int32).toInt = 8)
                      refine lv_iconst (v := 3) hx hb dX9_advance_122 (by decide) ?_
                      refine lv_goto (tgt := 127) hx hb dX9_advance_123 (by decide) ?_
                      have hl : lv_has _ _ ([(1, .int k0_j9), (0, .ref (hT 0))]) := lv_sub hl [0, 1] rfl
                      exact join16 _ _ _ _ ⟨3, (show 1 ≤ (3 : Int32).toInt ∧ (3 : Int32).toInt ≤ 3 from by decide), rfl, hP, hD, hS, hl⟩
                  · rintro H locs ls stk ⟨k0_j16, b_k0_j16, rfl, hP, hD, hS, hl⟩
                    refine va_put (D := (dC, dI)) (ci := 9) (v := .int k0_j16) (ty := .int) (C := RX9) (T := TX9) (N := 9) hx hb hts iwsMX9_advance_in9 tyX9 tyX9_ok nmX9 hown hK hP hD hS 0 rfl rfl 4 (by decide) (hts _ hm_m_X9_advance_2) (fun _ h9 => h9) rfl (by decide +kernel) rfl rfl (Nat.le_of_ble_eq_true rfl) dX9_advance_127 (fun H locs hP hD hS => ?_)
                    have hP : va_P (dC, dI) vwCl (WT hT aT kT fT_tape dT_tape nT_tape iT_length iT_fault iT_place k0_j16 iT_next_1 iT_number jT_name_50 iT_next_50) H := hP
                    have hD := fz_sd hP (hD) rfl
                    refine lv_goto (tgt := 157) hx hb dX9_advance_130 (by decide) ?_
                    have hl : lv_has _ _ ([(1, .int k0_j9), (0, .ref (hT 0))]) := lv_sub hl [0, 1] rfl
                    exact join13 _ _ _ _ ⟨k0_j16, iT_number, jT_name_50, iT_next_50, (b_iT_number), (b_iT_next_50), (show iT_next_1.toInt ≤ iT_next_50.toInt from by first | assumption | omega | (rw [iI_t (by omega) (by omega)]; omega)), (show iT_next_50.toInt ≤ iT_length.toInt from by first | assumption | omega | (rw [iI_t (by omega) (by omega)]; omega)), (show (k0_j16.toInt = 44 ∨ k0_j16.toInt = 61) → iT_next_1.toInt < iT_next_50.toInt from by first | (intro h9; omega) | (intro h9; rcases h9 with h9 | h9 <;> exact absurd h9 (by decide))), rfl, hP, hD, hS, hl⟩
      · have t_43 : k0_j9.toInt = (-1) := toI_nne c_43 rfl (by decide : ((-1) : Int32).toInt = (-1))
        refine lv_aload_n hx hb dX9_advance_46 rfl (lv_at hl 1 rfl) ?_
        refine lv_iconst (v := 0) hx hb dX9_advance_47 (by decide) ?_
        refine va_put (D := (dC, dI)) (ci := 9) (v := .int 0) (ty := .int) (C := RX9) (T := TX9) (N := 9) hx hb hts iwsMX9_advance_in9 tyX9 tyX9_ok nmX9 hown hK hP hD hS 0 rfl rfl 4 (by decide) (hts _ hm_m_X9_advance_2) (fun _ h9 => h9) rfl (by decide +kernel) rfl rfl (Nat.le_of_ble_eq_true rfl) dX9_advance_48 (fun H locs hP hD hS => ?_)
        have hP : va_P (dC, dI) vwCl (WT hT aT kT fT_tape dT_tape nT_tape iT_length iT_fault iT_place 0 iT_next_1 iT_number jT_name iT_next_1) H := hP
        have hD := fz_sd hP (hD) rfl
        refine lv_goto (tgt := 157) hx hb dX9_advance_51 (by decide) ?_
        have hl : lv_has _ _ ([(1, .int k0_j9), (0, .ref (hT 0))]) := lv_sub hl [0, 1] rfl
        exact join13 _ _ _ _ ⟨0, iT_number, jT_name, iT_next_1, (b_iT_number), (b_iT_next_1), (show iT_next_1.toInt ≤ iT_next_1.toInt from by first | assumption | omega | (rw [iI_t (by omega) (by omega)]; omega)), (show iT_next_1.toInt ≤ iT_length.toInt from by first | assumption | omega | (rw [iI_t (by omega) (by omega)]; omega)), (show ((0 : Int32).toInt = 44 ∨ (0 : Int32).toInt = 61) → iT_next_1.toInt < iT_next_1.toInt from by first | (intro h9; omega) | (intro h9; rcases h9 with h9 | h9 <;> exact absurd h9 (by decide))), rfl, hP, hD, hS, hl⟩
    · rintro H locs ls stk ⟨iT_kind_j13, iT_number_j13, jT_name_j13, iT_next_j13, b_iT_number_j13, b_iT_next_j13, hq1, hq2, hq3, rfl, hP, hD, hS, hl⟩
      refine W.widen (k := 0) (n := 0) (by decide +kernel) (by decide +kernel) ?_
      exact W.vret hx hb hr (fun t9_ ht hW => ⟨⟨(iT_kind_j13, iT_next_1, iT_number_j13, jT_name_j13, iT_next_j13), rfl, ⟨b_iT_next_1, (by (try dsimp only); exact (by first | exact b_iT_number_j13 | with_reducible assumption | exact ⟨by omega, by omega⟩ | assumption)), (by (try dsimp only); exact (by first | exact b_iT_next_j13 | with_reducible assumption | exact ⟨by omega, by omega⟩ | assumption)), (by (try dsimp only); omega), (by (try dsimp only); first | assumption | omega | (rw [iI_t (by omega) (by omega)]; omega)), (by (try dsimp only); first | assumption | omega | (rw [iI_t (by omega) (by omega)]; omega)), (by (try dsimp only); first | (intro h9; omega) | (intro h9; rcases h9 with h9 | h9 <;> exact absurd h9 (by decide)))⟩, by rw [ht]; exact hP, hD⟩, hS.F ht⟩) hS.2.2 dX9_advance_157
theorem dX9_begin_0 : decode cX9_begin 0 = .ok (.aload_n 0, 1) := dk_42 (by decide +kernel)
theorem dX9_begin_1 : decode cX9_begin 1 = .ok (.iconst 0, 1) := dk_3 (by decide +kernel)
theorem dX9_begin_2 : decode cX9_begin 2 = .ok (.putfield 28, 3) := dk_181 (by decide +kernel)
theorem dX9_begin_5 : decode cX9_begin 5 = .ok (.aload_n 0, 1) := dk_42 (by decide +kernel)
theorem dX9_begin_6 : decode cX9_begin 6 = .ok (.iconst (-1), 1) := dk_2 (by decide +kernel)
theorem dX9_begin_7 : decode cX9_begin 7 = .ok (.putfield 15, 3) := dk_181 (by decide +kernel)
theorem dX9_begin_10 : decode cX9_begin 10 = .ok (.aload_n 0, 1) := dk_42 (by decide +kernel)
theorem dX9_begin_11 : decode cX9_begin 11 = .ok (.iconst 0, 1) := dk_3 (by decide +kernel)
theorem dX9_begin_12 : decode cX9_begin 12 = .ok (.putfield 40, 3) := dk_181 (by decide +kernel)
theorem dX9_begin_15 : decode cX9_begin 15 = .ok (.aload_n 0, 1) := dk_42 (by decide +kernel)
theorem dX9_begin_16 : decode cX9_begin 16 = .ok (.invokevirtual 43, 3) := dk_182 (by decide +kernel)
theorem dX9_begin_19 : decode cX9_begin 19 = .ok (.return_, 1) := dk_177 (by decide +kernel)
def wsMX9_begin : List Cond := .code yX9_begin cX9_begin 1 none :: ([.fieldLink RX9 28 "OptimaWorks$Words" "fault" "I", .fieldLink RX9 15 "OptimaWorks$Words" "place" "I", .fieldLink RX9 40 "OptimaWorks$Words" "next" "I"] ++ wsX90 ++ (wsV RX9 43 RX9 yX9_advance wsMX9_advance))
theorem iwsMX9_begin_in9 : ∀ w ∈ wsX90, w ∈ wsMX9_begin := fun _ h => List.mem_cons_of_mem _ (List.mem_append_left _ (List.mem_append_right _ h))
theorem gwsMX9_begin_0 : GoodIn wsMX9_begin (wsV RX9 43 RX9 yX9_advance wsMX9_advance) := goodIn_sub (fun _ h => List.mem_cons_of_mem _ (List.mem_append_right _ h)) (gdV (by decide +kernel) gdwsMX9_advance)
theorem gdwsMX9_begin : wsMX9_begin.all goodWord = true := gdC rfl (gdA (gdA (by decide +kernel : ([.fieldLink RX9 28 "OptimaWorks$Words" "fault" "I", .fieldLink RX9 15 "OptimaWorks$Words" "place" "I", .fieldLink RX9 40 "OptimaWorks$Words" "next" "I"] : List Cond).all goodWord = true) gdwsX90) (gdV (by decide +kernel) gdwsMX9_advance))
set_option maxHeartbeats 4000000 in
set_option maxRecDepth 100000 in
/-- reading begins -/
theorem m_X9_begin (l : Launch) (hst : l.stackTraces = false) (dC : Nat → ClassId) (dI : Nat → Nat → Nat) (hT : Nat → Nat) (aT : Nat → Nat) (kT : Nat → ClassId) (fT_tape : Nat → Int32) (dT_tape : Nat) (nT_tape : Nat) (iT_length : Int32) (iT_fault : Int32) (iT_place : Int32) (iT_kind : Int32) (iT_at : Int32) (iT_number : Int32) (jT_name : Int64) (iT_next : Int32) (b_fT_tape : ∀ q : Nat, (-128) ≤ (fT_tape q).toInt ∧ (fT_tape q).toInt ≤ 127) (b_nT_tape : 64 ≤ nT_tape ∧ nT_tape ≤ 2560) (b_iT_length : 0 ≤ iT_length.toInt ∧ iT_length.toInt ≤ 1280) (b_iT_at : 0 ≤ iT_at.toInt ∧ iT_at.toInt ≤ 1282) (b_iT_number : 0 ≤ iT_number.toInt ∧ iT_number.toInt ≤ 999999) (b_iT_next : 0 ≤ iT_next.toInt ∧ iT_next.toInt ≤ 1282) (b_len : iT_length.toInt ≤ ((nT_tape : Nat) : Int)) (sz : Nat) : Met l yX9_begin wsMX9_begin ({ frames := 6, cells := 0, slots := 0, locals := 134 }) (va_Pc [.ref (hT 0)] (fun U => U.heap.size = sz ∧ va_P (dC, dI) vwCl (WT hT aT kT fT_tape dT_tape nT_tape iT_length iT_fault iT_place iT_kind iT_at iT_number jT_name iT_next) U.heap ∧ va_K (dC, dI) vwCl (tT kT) U ∧ va_D (fun _ => True) (WT hT aT kT fT_tape dT_tape nT_tape iT_length iT_fault iT_place iT_kind iT_at iT_number jT_name iT_next) ∧ CE (va_A (WT hT aT kT fT_tape dT_tape nT_tape iT_length iT_fault iT_place iT_kind iT_at iT_number jT_name iT_next) sz) U U.heap)) (va_Qv (fun (u : (Int32) × (Int32) × (Int32) × (Int32) × (Int32) × (Int64) × (Int32)) => (0 ≤ (u.2.2.2.1).toInt ∧ (u.2.2.2.1).toInt ≤ 1282) ∧ (0 ≤ (u.2.2.2.2.1).toInt ∧ (u.2.2.2.2.1).toInt ≤ 999999) ∧ (0 ≤ (u.2.2.2.2.2.2).toInt ∧ (u.2.2.2.2.2.2).toInt ≤ 1282) ∧ ((u.2.2.2.1).toInt ≤ (u.2.2.2.2.2.2).toInt) ∧ ((u.2.2.2.2.2.2).toInt ≤ iT_length.toInt) ∧ (((u.2.2.1).toInt = 44 ∨ (u.2.2.1).toInt = 61) → (u.2.2.2.1).toInt < (u.2.2.2.2.2.2).toInt)) (fun (u : (Int32) × (Int32) × (Int32) × (Int32) × (Int32) × (Int64) × (Int32)) t => va_P (dC, dI) vwCl (WT hT aT kT fT_tape dT_tape nT_tape iT_length (u.1) (u.2.1) (u.2.2.1) (u.2.2.2.1) (u.2.2.2.2.1) (u.2.2.2.2.2.1) (u.2.2.2.2.2.2)) t.heap ∧ va_D (va_A (WT hT aT kT fT_tape dT_tape nT_tape iT_length iT_fault iT_place iT_kind iT_at iT_number jT_name iT_next) sz) (WT hT aT kT fT_tape dT_tape nT_tape iT_length (u.1) (u.2.1) (u.2.2.1) (u.2.2.2.1) (u.2.2.2.2.1) (u.2.2.2.2.2.1) (u.2.2.2.2.2.2))) (va_A (WT hT aT kT fT_tape dT_tape nT_tape iT_length iT_fault iT_place iT_kind iT_at iT_number jT_name iT_next) sz)) 0 0 (va_A (WT hT aT kT fT_tape dT_tape nT_tape iT_length iT_fault iT_place iT_kind iT_at iT_number jT_name iT_next) sz) := by
  refine Met.ofW (cc := cX9_begin) (maxL := 1) (ret := none) (by decide) rfl ?_
  intro p e s m args below meth c s₁ B hml hv
  obtain ⟨rfl, hsz, hP, hK, hD0, hE⟩ := hv
  have hx := B.exec
  have hb := B.bytes
  have hr := B.returns
  have hts := atoms_spec (ws := wsMX9_begin) B.pre
  have hown : s.vm.findClass RX9 = some m.cls := findClass_of_methodNamed B.named
  have hlocks := B.notSynchronized
  subst hsz
  have hD := hD0.self (sz := s.heap.size)
  generalize hAe : va_A (WT hT aT kT fT_tape dT_tape nT_tape iT_length iT_fault iT_place iT_kind iT_at iT_number jT_name iT_next) s.heap.size = A at hD hE ⊢
  have hA : ∀ q : Nat, s.heap.size ≤ q → A q := fun q h => by rw [← hAe]; exact Or.inr h
  have hS : va_S A s.heap s.heap [] := va_S.rf
  have hl := lv_entry ([.ref (hT 0)]) (n := 1) (Nat.le_of_ble_eq_true rfl)
  rw [lg_entry_eq]
  generalize (lg_sl ([.ref (hT 0)]) ++ List.replicate (1 - (lg_sl ([.ref (hT 0)])).length) Slot.unset).toArray = ls at hl ⊢
  have hl : lv_has ls 1 [(0, .ref (hT 0))] := hl
  refine lv_aload_n hx hb dX9_begin_0 rfl (lv_at hl 0 rfl) ?_
  refine lv_iconst (v := 0) hx hb dX9_begin_1 (by decide) ?_
  refine va_put (D := (dC, dI)) (ci := 9) (v := .int 0) (ty := .int) (C := RX9) (T := TX9) (N := 9) hx hb hts iwsMX9_begin_in9 tyX9 tyX9_ok nmX9 hown hK hP hD hS 0 rfl rfl 2 (by decide) (hts (.fieldLink RX9 28 "OptimaWorks$Words" "fault" "I") (by decide +kernel)) (fun _ h9 => h9) rfl (by decide +kernel) rfl rfl (Nat.le_of_ble_eq_true rfl) dX9_begin_2 (fun H locs hP hD hS => ?_)
  have hP : va_P (dC, dI) vwCl (WT hT aT kT fT_tape dT_tape nT_tape iT_length 0 iT_place iT_kind iT_at iT_number jT_name iT_next) H := hP
  have hD := fz_sd hP (hD) rfl
  refine lv_aload_n hx hb dX9_begin_5 rfl (lv_at hl 0 rfl) ?_
  refine lv_iconst (v := (-1)) hx hb dX9_begin_6 (by decide) ?_
  refine va_put (D := (dC, dI)) (ci := 9) (v := .int (-1)) (ty := .int) (C := RX9) (T := TX9) (N := 9) hx hb hts iwsMX9_begin_in9 tyX9 tyX9_ok nmX9 hown hK hP hD hS 0 rfl rfl 3 (by decide) (hts (.fieldLink RX9 15 "OptimaWorks$Words" "place" "I") (by decide +kernel)) (fun _ h9 => h9) rfl (by decide +kernel) rfl rfl (Nat.le_of_ble_eq_true rfl) dX9_begin_7 (fun H locs hP hD hS => ?_)
  have hP : va_P (dC, dI) vwCl (WT hT aT kT fT_tape dT_tape nT_tape iT_length 0 (-1) iT_kind iT_at iT_number jT_name iT_next) H := hP
  have hD := fz_sd hP (hD) rfl
  refine lv_aload_n hx hb dX9_begin_10 rfl (lv_at hl 0 rfl) ?_
  refine lv_iconst (v := 0) hx hb dX9_begin_11 (by decide) ?_
  refine va_put (D := (dC, dI)) (ci := 9) (v := .int 0) (ty := .int) (C := RX9) (T := TX9) (N := 9) hx hb hts iwsMX9_begin_in9 tyX9 tyX9_ok nmX9 hown hK hP hD hS 0 rfl rfl 8 (by decide) (hts (.fieldLink RX9 40 "OptimaWorks$Words" "next" "I") (by decide +kernel)) (fun _ h9 => h9) rfl (by decide +kernel) rfl rfl (Nat.le_of_ble_eq_true rfl) dX9_begin_12 (fun H locs hP hD hS => ?_)
  have hP : va_P (dC, dI) vwCl (WT hT aT kT fT_tape dT_tape nT_tape iT_length 0 (-1) iT_kind iT_at iT_number jT_name 0) H := hP
  have hD := fz_sd hP (hD) rfl
  refine lv_aload_n hx hb dX9_begin_15 rfl (lv_at hl 0 rfl) ?_
  have hFc := allFree hD hS hA
  refine va_callv (va_runV (As := []) (rest := []) ⟨hx, hb, hml, hown, hts⟩ (m_X9_advance l hst dC dI hT aT kT fT_tape dT_tape nT_tape iT_length 0 (-1) iT_kind iT_at iT_number jT_name 0 b_fT_tape (by first | exact b_nT_tape | with_reducible assumption | exact ⟨by omega, by omega⟩ | assumption) (b_iT_length) (b_iT_at) (b_iT_number) (show 0 ≤ (0 : Int32).toInt ∧ (0 : Int32).toInt ≤ 1282 from by decide) (by first | with_reducible assumption | omega | assumption) (by first | omega | (have h8 : (0 : Int32).toInt = 0 := (by decide); omega)) H.size) (cwV 0 hts gwsMX9_begin_0 rfl rfl rfl hd_yX9_advance_RX9 (by decide +kernel)) (fz_preE (va_recv hK hP (ci := 9) (q0 := 0) rfl rfl) hP hK hD (fun a U g mk qE => qE.call) (fun U hU9 hW => by rw [hU9]; exact (((hE : CE A s s.heap).kept hS.2.1).narrow (fun q h => hFc q h)).warm hW)) rfl rfl hl.1 rfl (lv_room (Nat.le_of_ble_eq_true rfl)) dX9_begin_16 (by decide +kernel)) hS (fun q _ h => hFc q h) hFc (fun u t9_ H locs ht hvm hw9 hB9 hz1 hk1 hS => ?_)
  revert u hw9 hB9
  refine fz_p5 ?_
  intro iT_kind_1 iT_at_1 iT_number_1 jT_name_1 iT_next_1 hw9 hB9
  try dsimp only at hw9 hB9
  revert hw9
  refine fz_a7 ?_
  intro b_iT_at_1 b_iT_number_1 b_iT_next_1 f1_0 f1_1 f1_2 f1_3
  have hP : va_P (dC, dI) vwCl (WT hT aT kT fT_tape dT_tape nT_tape iT_length 0 (-1) iT_kind_1 iT_at_1 iT_number_1 jT_name_1 iT_next_1) H := fz_P ht hB9.1
  have hD := fz_sd hP (hB9.2.weaken (fun _ q _ h => hFc q.1 h)) rfl
  refine W.widen (k := 0) (n := 0) (by decide +kernel) (by decide +kernel) ?_
  exact W.vret hx hb hr (fun t9_ ht hW => ⟨⟨(0, (-1), iT_kind_1, iT_at_1, iT_number_1, jT_name_1, iT_next_1), rfl, ⟨b_iT_at_1, b_iT_number_1, b_iT_next_1, (by (try dsimp only); first | assumption | omega | (rw [iI_t (by omega) (by omega)]; omega)), (by (try dsimp only); first | assumption | omega | (rw [iI_t (by omega) (by omega)]; omega)), (by (try dsimp only); first | (intro h9; omega) | (intro h9; rcases h9 with h9 | h9 <;> exact absurd h9 (by decide)))⟩, by rw [ht]; exact hP, hD⟩, hS.F ht⟩) hS.2.2 dX9_begin_19
theorem dX9_take_0 : decode cX9_take 0 = .ok (.aload_n 0, 1) := dk_42 (by decide +kernel)
theorem dX9_take_1 : decode cX9_take 1 = .ok (.getfield 37, 3) := dk_180 (by decide +kernel)
theorem dX9_take_4 : decode cX9_take 4 = .ok (.iload_n 1, 1) := dk_27 (by decide +kernel)
theorem dX9_take_5 : decode cX9_take 5 = .ok (.if_icmp .eq 7, 3) := dk_159 (by decide +kernel)
theorem dX9_take_8 : decode cX9_take 8 = .ok (.aload_n 0, 1) := dk_42 (by decide +kernel)
theorem dX9_take_9 : decode cX9_take 9 = .ok (.invokevirtual 63, 3) := dk_182 (by decide +kernel)
theorem dX9_take_12 : decode cX9_take 12 = .ok (.aload_n 0, 1) := dk_42 (by decide +kernel)
theorem dX9_take_13 : decode cX9_take 13 = .ok (.invokevirtual 43, 3) := dk_182 (by decide +kernel)
theorem dX9_take_16 : decode cX9_take 16 = .ok (.return_, 1) := dk_177 (by decide +kernel)
def wsMX9_take : List Cond := .code yX9_take cX9_take 2 none :: ([.fieldLink RX9 37 "OptimaWorks$Words" "kind" "I"] ++ wsX90 ++ (wsV RX9 63 RX9 yX9_failWord wsMX9_failWord) ++ (wsV RX9 43 RX9 yX9_advance wsMX9_advance))
theorem iwsMX9_take_in9 : ∀ w ∈ wsX90, w ∈ wsMX9_take := fun _ h => List.mem_cons_of_mem _ (List.mem_append_left _ (List.mem_append_left _ (List.mem_append_right _ h)))
theorem gwsMX9_take_0 : GoodIn wsMX9_take (wsV RX9 63 RX9 yX9_failWord wsMX9_failWord) := goodIn_sub (fun _ h => List.mem_cons_of_mem _ (List.mem_append_left _ (List.mem_append_right _ h))) (gdV (by decide +kernel) gdwsMX9_failWord)
theorem gwsMX9_take_1 : GoodIn wsMX9_take (wsV RX9 43 RX9 yX9_advance wsMX9_advance) := goodIn_sub (fun _ h => List.mem_cons_of_mem _ (List.mem_append_right _ h)) (gdV (by decide +kernel) gdwsMX9_advance)
theorem gdwsMX9_take : wsMX9_take.all goodWord = true := gdC rfl (gdA (gdA (gdA (by decide +kernel : ([.fieldLink RX9 37 "OptimaWorks$Words" "kind" "I"] : List Cond).all goodWord = true) gdwsX90) (gdV (by decide +kernel) gdwsMX9_failWord)) (gdV (by decide +kernel) gdwsMX9_advance))
set_option maxHeartbeats 4000000 in
set_option maxRecDepth 100000 in
/-- a word is taken -/
theorem m_X9_take (l : Launch) (hst : l.stackTraces = false) (dC : Nat → ClassId) (dI : Nat → Nat → Nat) (hT : Nat → Nat) (aT : Nat → Nat) (kT : Nat → ClassId) (fT_tape : Nat → Int32) (dT_tape : Nat) (nT_tape : Nat) (iT_length : Int32) (iT_fault : Int32) (iT_place : Int32) (iT_kind : Int32) (iT_at : Int32) (iT_number : Int32) (jT_name : Int64) (iT_next : Int32) (p1 : Int32) (b_fT_tape : ∀ q : Nat, (-128) ≤ (fT_tape q).toInt ∧ (fT_tape q).toInt ≤ 127) (b_nT_tape : 64 ≤ nT_tape ∧ nT_tape ≤ 2560) (b_iT_length : 0 ≤ iT_length.toInt ∧ iT_length.toInt ≤ 1280) (b_iT_at : 0 ≤ iT_at.toInt ∧ iT_at.toInt ≤ 1282) (b_iT_number : 0 ≤ iT_number.toInt ∧ iT_number.toInt ≤ 999999) (b_iT_next : 0 ≤ iT_next.toInt ∧ iT_next.toInt ≤ 1282) (b_len : iT_length.toInt ≤ ((nT_tape : Nat) : Int)) (hp1 : iT_at.toInt ≤ iT_next.toInt) (hp2 : iT_next.toInt ≤ iT_length.toInt) (hp3 : (iT_kind.toInt = 44 ∨ iT_kind.toInt = 61) → iT_at.toInt < iT_next.toInt) (sz : Nat) : vx_Met l yX9_take wsMX9_take ({ frames := 7, cells := 1, slots := 6, locals := 134 }) (va_Pc [.ref (hT 0), .int p1] (fun U => U.heap.size = sz ∧ va_P (dC, dI) vwCl (WT hT aT kT fT_tape dT_tape nT_tape iT_length iT_fault iT_place iT_kind iT_at iT_number jT_name iT_next) U.heap ∧ va_K (dC, dI) vwCl (tT kT) U ∧ va_D (fun _ => True) (WT hT aT kT fT_tape dT_tape nT_tape iT_length iT_fault iT_place iT_kind iT_at iT_number jT_name iT_next) ∧ CE (va_A (WT hT aT kT fT_tape dT_tape nT_tape iT_length iT_fault iT_place iT_kind iT_at iT_number jT_name iT_next) sz) U U.heap)) (va_Qv (fun (u : (Int32) × (Int32) × (Int32) × (Int32) × (Int32) × (Int64) × (Int32)) => (0 ≤ (u.2.2.2.1).toInt ∧ (u.2.2.2.1).toInt ≤ 1282) ∧ (0 ≤ (u.2.2.2.2.1).toInt ∧ (u.2.2.2.2.1).toInt ≤ 999999) ∧ (0 ≤ (u.2.2.2.2.2.2).toInt ∧ (u.2.2.2.2.2.2).toInt ≤ 1282) ∧ (iT_at.toInt ≤ (u.2.2.2.1).toInt) ∧ ((p1.toInt = 44 ∨ p1.toInt = 61) → iT_at.toInt < (u.2.2.2.1).toInt) ∧ ((u.2.2.2.1).toInt ≤ (u.2.2.2.2.2.2).toInt) ∧ ((u.2.2.2.2.2.2).toInt ≤ iT_length.toInt) ∧ (((u.2.2.1).toInt = 44 ∨ (u.2.2.1).toInt = 61) → (u.2.2.2.1).toInt < (u.2.2.2.2.2.2).toInt)) (fun (u : (Int32) × (Int32) × (Int32) × (Int32) × (Int32) × (Int64) × (Int32)) t => va_P (dC, dI) vwCl (WT hT aT kT fT_tape dT_tape nT_tape iT_length (u.1) (u.2.1) (u.2.2.1) (u.2.2.2.1) (u.2.2.2.2.1) (u.2.2.2.2.2.1) (u.2.2.2.2.2.2)) t.heap ∧ va_D (va_A (WT hT aT kT fT_tape dT_tape nT_tape iT_length iT_fault iT_place iT_kind iT_at iT_number jT_name iT_next) sz) (WT hT aT kT fT_tape dT_tape nT_tape iT_length (u.1) (u.2.1) (u.2.2.1) (u.2.2.2.1) (u.2.2.2.2.1) (u.2.2.2.2.2.1) (u.2.2.2.2.2.2)) ∧ t.heap.size = sz) (va_A (WT hT aT kT fT_tape dT_tape nT_tape iT_length iT_fault iT_place iT_kind iT_at iT_number jT_name iT_next) sz)) (vx_X (fun (u : (Int32) × (Int32) × (Int32) × (Int32) × (Int32) × (Int64) × (Int32)) => (0 ≤ (u.2.2.2.1).toInt ∧ (u.2.2.2.1).toInt ≤ 1282) ∧ (0 ≤ (u.2.2.2.2.1).toInt ∧ (u.2.2.2.2.1).toInt ≤ 999999) ∧ (0 ≤ (u.2.2.2.2.2.2).toInt ∧ (u.2.2.2.2.2.2).toInt ≤ 1282)) (fun E (u : (Int32) × (Int32) × (Int32) × (Int32) × (Int32) × (Int64) × (Int32)) t => (E = "java/lang/IllegalArgumentException") ∧ va_P (dC, dI) vwCl (WT hT aT kT fT_tape dT_tape nT_tape iT_length (u.1) (u.2.1) (u.2.2.1) (u.2.2.2.1) (u.2.2.2.2.1) (u.2.2.2.2.2.1) (u.2.2.2.2.2.2)) t.heap ∧ va_D (va_A (WT hT aT kT fT_tape dT_tape nT_tape iT_length iT_fault iT_place iT_kind iT_at iT_number jT_name iT_next) sz) (WT hT aT kT fT_tape dT_tape nT_tape iT_length (u.1) (u.2.1) (u.2.2.1) (u.2.2.2.1) (u.2.2.2.2.1) (u.2.2.2.2.2.1) (u.2.2.2.2.2.2))) (va_A (WT hT aT kT fT_tape dT_tape nT_tape iT_length iT_fault iT_place iT_kind iT_at iT_number jT_name iT_next) sz)) 1 6 (va_A (WT hT aT kT fT_tape dT_tape nT_tape iT_length iT_fault iT_place iT_kind iT_at iT_number jT_name iT_next) sz) := by
  refine vx_ofW (cc := cX9_take) (maxL := 2) (ret := none) (by decide) rfl ?_
  intro p e s m args below meth c s₁ B hml htab hv
  obtain ⟨rfl, hsz, hP, hK, hD0, hE⟩ := hv
  have hx := B.exec
  have hb := B.bytes
  have hr := B.returns
  have hts := atoms_spec (ws := wsMX9_take) B.pre
  have hown : s.vm.findClass RX9 = some m.cls := findClass_of_methodNamed B.named
  have hlocks := B.notSynchronized
  subst hsz
  have hD := hD0.self (sz := s.heap.size)
  generalize hAe : va_A (WT hT aT kT fT_tape dT_tape nT_tape iT_length iT_fault iT_place iT_kind iT_at iT_number jT_name iT_next) s.heap.size = A at hD hE ⊢
  have hA : ∀ q : Nat, s.heap.size ≤ q → A q := fun q h => by rw [← hAe]; exact Or.inr h
  have hS : va_S A s.heap s.heap [] := va_S.rf
  have hl := lv_entry ([.ref (hT 0), .int p1]) (n := 2) (Nat.le_of_ble_eq_true rfl)
  rw [lg_entry_eq]
  generalize (lg_sl ([.ref (hT 0), .int p1]) ++ List.replicate (2 - (lg_sl ([.ref (hT 0), .int p1])).length) Slot.unset).toArray = ls at hl ⊢
  have hl : lv_has ls 2 [(0, .ref (hT 0)), (1, .int p1)] := hl
  refine lv_aload_n hx hb dX9_take_0 rfl (lv_at hl 0 rfl) ?_
  refine va_get (D := (dC, dI)) (ci := 9) (v := .int iT_kind) (C := RX9) (T := TX9) (N := 9) hx hb hts iwsMX9_take_in9 hown hK hP 0 rfl rfl 4 (by decide) (hts (.fieldLink RX9 37 "OptimaWorks$Words" "kind" "I") (by decide +kernel)) (fun _ h9 => h9) rfl dX9_take_1 ?_
  refine lv_iload_n hx hb dX9_take_4 rfl (lv_at hl 1 rfl) ?_
  refine lv_icmp_eq (tgt := 12) hx hb dX9_take_5 (by decide) (fun c_5 => ?_) (fun c_5 => ?_)
  · have t_5 : iT_kind.toInt = p1.toInt := toI_eq c_5 rfl rfl
    refine lv_aload_n hx hb dX9_take_12 rfl (lv_at hl 0 rfl) ?_
    have hFc := allFree hD hS hA
    refine va_callv (va_runV (As := []) (rest := []) ⟨hx, hb, hml, hown, hts⟩ (m_X9_advance l hst dC dI hT aT kT fT_tape dT_tape nT_tape iT_length iT_fault iT_place iT_kind iT_at iT_number jT_name iT_next b_fT_tape (by first | exact b_nT_tape | with_reducible assumption | exact ⟨by omega, by omega⟩ | assumption) (b_iT_length) (b_iT_at) (b_iT_number) (b_iT_next) (by first | with_reducible assumption | omega | assumption) (by omega) s.heap.size) (cwV 0 hts gwsMX9_take_1 rfl rfl rfl hd_yX9_advance_RX9 (by decide +kernel)) (fz_preE (va_recv hK hP (ci := 9) (q0 := 0) rfl rfl) hP hK hD (fun a U g mk qE => qE.call) (fun U hU9 hW => by rw [hU9]; exact (((hE : CE A s s.heap).kept hS.2.1).narrow (fun q h => hFc q h)).warm hW)) rfl rfl hl.1 rfl (lv_room (Nat.le_of_ble_eq_true rfl)) dX9_take_13 (by decide +kernel)) hS (fun q _ h => hFc q h) hFc (fun u t9_ H locs ht hvm hw9 hB9 hz1 hk1 hS => ?_)
    revert u hw9 hB9
    refine fz_p5 ?_
    intro iT_kind_2 iT_at_2 iT_number_2 jT_name_2 iT_next_2 hw9 hB9
    try dsimp only at hw9 hB9
    revert hw9
    refine fz_a7 ?_
    intro b_iT_at_2 b_iT_number_2 b_iT_next_2 f2_0 f2_1 f2_2 f2_3
    have hP : va_P (dC, dI) vwCl (WT hT aT kT fT_tape dT_tape nT_tape iT_length iT_fault iT_place iT_kind_2 iT_at_2 iT_number_2 jT_name_2 iT_next_2) H := fz_P ht hB9.1
    have hD := fz_sd hP (hB9.2.weaken (fun _ q _ h => hFc q.1 h)) rfl
    refine vx_ret ?_
    refine W.known (fun hz9 _ => ?_)
    refine W.widen (k := 1) (n := 6) (by decide +kernel) (by decide +kernel) ?_
    exact W.vret hx hb hr (fun t9_ ht hW => ⟨⟨(iT_fault, iT_place, iT_kind_2, iT_at_2, iT_number_2, jT_name_2, iT_next_2), rfl, ⟨b_iT_at_2, b_iT_number_2, b_iT_next_2, (by (try dsimp only); omega), (by (try dsimp only); intro h9; omega), (by (try dsimp only); first | assumption | omega | (rw [iI_t (by omega) (by omega)]; omega)), (by (try dsimp only); first | assumption | omega | (rw [iI_t (by omega) (by omega)]; omega)), (by (try dsimp only); first | (intro h9; omega) | (intro h9; rcases h9 with h9 | h9 <;> exact absurd h9 (by decide)))⟩, by rw [ht]; exact hP, hD, by rw [ht]; first | done | exact Nat.le_antisymm hz9 hS.1⟩, hS.F ht⟩) hS.2.2 dX9_take_16
  · have t_5 : ¬ iT_kind.toInt = p1.toInt := toI_neq c_5 rfl rfl
    refine lv_aload_n hx hb dX9_take_8 rfl (lv_at hl 0 rfl) ?_
    have hFc := allFree hD hS hA
    refine vx_callv (vx_runV (As := []) (rest := []) ⟨hx, hb, hml, hown, hts⟩ (m_X9_failWord l hst dC dI hT aT kT fT_tape dT_tape nT_tape iT_length iT_fault iT_place iT_kind iT_at iT_number jT_name iT_next b_fT_tape (by first | exact b_nT_tape | with_reducible assumption | exact ⟨by omega, by omega⟩ | assumption) (b_iT_length) (b_iT_at) (b_iT_number) (b_iT_next) (by first | with_reducible assumption | omega | assumption) s.heap.size) (cwV 0 hts gwsMX9_take_0 rfl rfl rfl hd_yX9_failWord_RX9 (by decide +kernel)) (fz_preE (va_recv hK hP (ci := 9) (q0 := 0) rfl rfl) hP hK hD (fun a U g mk qE => qE.call) (fun U hU9 hW => by rw [hU9]; exact (((hE : CE A s s.heap).kept hS.2.1).narrow (fun q h => hFc q h)).warm hW)) rfl rfl hl.1 rfl (lv_room (Nat.le_of_ble_eq_true rfl)) dX9_take_9 (by decide +kernel)) hS (fun q _ h => hFc q h) hFc (fun q _ h => hFc q h) (fun E ce q9 u t9_ H locs ht hvm hw9 hB9 hz1 hk1 hS hc1 hc2 hc3 => ?_) (fun u t9_ H1 locs ht hvm hw9 hB9 hz1 hk1 hS => ?_)
    · revert u hw9 hB9
      refine fz_p2 ?_
      intro iT_fault_3 iT_place_3 hw9 hB9
      try dsimp only at hw9 hB9
      revert hB9
      refine fz_a2 ?_
      intro hEx hB9
      clear hw9
      have hP : va_P (dC, dI) vwCl (WT hT aT kT fT_tape dT_tape nT_tape iT_length iT_fault_3 iT_place_3 iT_kind iT_at iT_number jT_name iT_next) H := fz_P ht hB9.1
      have hD := fz_sd hP (hB9.2.weaken (fun _ q _ h => hFc q.1 h)) rfl
      exact vx_out (fun x hx9 => (htab x hx9).elim) hlocks hc1 hc2 hc3 (fun t9_ ht hvm => ⟨(iT_fault_3, iT_place_3, iT_kind, iT_at, iT_number, jT_name, iT_next), ⟨(b_iT_at), (b_iT_number), (b_iT_next)⟩, ⟨(by have h9 := hEx; exact h9), by rw [ht]; exact hP, hD⟩, hS.F ht⟩) hS.2.2 (by decide +kernel) (by decide +kernel)
    exact False.elim hw9
end
section
theorem hd_yX1_needKind_RX1 : yX1_needKind.cls = RX1 ∧ yX1_needKind.cls ≠ "java/lang/invoke/MethodHandle" ∧ yX1_needKind.cls ≠ "java/lang/invoke/VarHandle" ∧ (parseMethodDescriptor yX1_needKind.desc).map (fun d => d.parameters.length) = some 1 := by decide +kernel
theorem hd_yX1_needOf_RX1 : yX1_needOf.cls = RX1 ∧ yX1_needOf.cls ≠ "java/lang/invoke/MethodHandle" ∧ yX1_needOf.cls ≠ "java/lang/invoke/VarHandle" ∧ (parseMethodDescriptor yX1_needOf.desc).map (fun d => d.parameters.length) = some 1 := by decide +kernel
theorem hd_yX1_sign_RX1 : yX1_sign.cls = RX1 ∧ yX1_sign.cls ≠ "java/lang/invoke/MethodHandle" ∧ yX1_sign.cls ≠ "java/lang/invoke/VarHandle" ∧ (parseMethodDescriptor yX1_sign.desc).map (fun d => d.parameters.length) = some 2 := by decide +kernel
theorem hd_yX1_number_RX1 : yX1_number.cls = RX1 ∧ yX1_number.cls ≠ "java/lang/invoke/MethodHandle" ∧ yX1_number.cls ≠ "java/lang/invoke/VarHandle" ∧ (parseMethodDescriptor yX1_number.desc).map (fun d => d.parameters.length) = some 3 := by decide +kernel
theorem hd_yX1_isTurned_RX1 : yX1_isTurned.cls = RX1 ∧ yX1_isTurned.cls ≠ "java/lang/invoke/MethodHandle" ∧ yX1_isTurned.cls ≠ "java/lang/invoke/VarHandle" ∧ (parseMethodDescriptor yX1_isTurned.desc).map (fun d => d.parameters.length) = some 1 := by decide +kernel
theorem hd_yX1_rightSide_RX1 : yX1_rightSide.cls = RX1 ∧ yX1_rightSide.cls ≠ "java/lang/invoke/MethodHandle" ∧ yX1_rightSide.cls ≠ "java/lang/invoke/VarHandle" ∧ (parseMethodDescriptor yX1_rightSide.desc).map (fun d => d.parameters.length) = some 2 := by decide +kernel
def WM (hM : Nat → Nat) (aM : Nat → Nat) (kM : Nat → ClassId) (iM_stands : Int32) (iM_variables : Int32) (iM_rows : Int32) (iM_goals : Int32) (iM_differents : Int32) (iM_cases : Int32) (fM_from : Nat → Int32) (fM_to : Nat → Int32) (fM_whole : Nat → Int32) (fM_ways : Nat → Int32) (iM_plainRows : Int32) (fM_plainRow : Nat → Int32) (fM_kept : Nat → Int32) (fM_goalOver : Nat → Int32) (fM_goalUnder : Nat → Int32) (fM_goalMax : Nat → Int32) (fM_different : Nat → Int32) : va_W := [(hM 0, .inr (1, [.int iM_stands, .int iM_variables, .int iM_rows, .int iM_goals, .int iM_differents, .int iM_cases, .ref (aM 0), .ref (aM 1), .ref (aM 2), .ref (aM 3), .int iM_plainRows, .ref (aM 4), .ref (aM 5), .ref (aM 6), .ref (aM 7), .ref (aM 8), .ref (aM 9)])), (aM 0, .inl (kM 0, 8, .inl fM_from)), (aM 1, .inl (kM 1, 8, .inl fM_to)), (aM 2, .inl (kM 2, 8, .inl fM_whole)), (aM 3, .inl (kM 3, 12, .inl fM_ways)), (aM 4, .inl (kM 4, 12, .inl fM_plainRow)), (aM 5, .inl (kM 5, 360, .inl fM_kept)), (aM 6, .inl (kM 6, 27, .inl fM_goalOver)), (aM 7, .inl (kM 7, 27, .inl fM_goalUnder)), (aM 8, .inl (kM 8, 3, .inl fM_goalMax)), (aM 9, .inl (kM 9, 8, .inl fM_different))]
def tM (kM : Nat → ClassId) : List (ClassId × FieldType) := [(kM 0, .int), (kM 1, .int), (kM 2, .boolean), (kM 3, .int), (kM 4, .int), (kM 5, .int), (kM 6, .int), (kM 7, .int), (kM 8, .boolean), (kM 9, .int)]
theorem dX1_empty_0 : decode cX1_empty 0 = .ok (.aload_n 0, 1) := dk_42 (by decide +kernel)
theorem dX1_empty_1 : decode cX1_empty 1 = .ok (.iconst 0, 1) := dk_3 (by decide +kernel)
theorem dX1_empty_2 : decode cX1_empty 2 = .ok (.putfield 41, 3) := dk_181 (by decide +kernel)
theorem dX1_empty_5 : decode cX1_empty 5 = .ok (.aload_n 0, 1) := dk_42 (by decide +kernel)
theorem dX1_empty_6 : decode cX1_empty 6 = .ok (.iconst 0, 1) := dk_3 (by decide +kernel)
theorem dX1_empty_7 : decode cX1_empty 7 = .ok (.putfield 45, 3) := dk_181 (by decide +kernel)
theorem dX1_empty_10 : decode cX1_empty 10 = .ok (.aload_n 0, 1) := dk_42 (by decide +kernel)
theorem dX1_empty_11 : decode cX1_empty 11 = .ok (.iconst 0, 1) := dk_3 (by decide +kernel)
theorem dX1_empty_12 : decode cX1_empty 12 = .ok (.putfield 49, 3) := dk_181 (by decide +kernel)
theorem dX1_empty_15 : decode cX1_empty 15 = .ok (.aload_n 0, 1) := dk_42 (by decide +kernel)
theorem dX1_empty_16 : decode cX1_empty 16 = .ok (.iconst 0, 1) := dk_3 (by decide +kernel)
theorem dX1_empty_17 : decode cX1_empty 17 = .ok (.putfield 52, 3) := dk_181 (by decide +kernel)
theorem dX1_empty_20 : decode cX1_empty 20 = .ok (.aload_n 0, 1) := dk_42 (by decide +kernel)
theorem dX1_empty_21 : decode cX1_empty 21 = .ok (.iconst 0, 1) := dk_3 (by decide +kernel)
theorem dX1_empty_22 : decode cX1_empty 22 = .ok (.putfield 55, 3) := dk_181 (by decide +kernel)
theorem dX1_empty_25 : decode cX1_empty 25 = .ok (.aload_n 0, 1) := dk_42 (by decide +kernel)
theorem dX1_empty_26 : decode cX1_empty 26 = .ok (.iconst 0, 1) := dk_3 (by decide +kernel)
theorem dX1_empty_27 : decode cX1_empty 27 = .ok (.putfield 58, 3) := dk_181 (by decide +kernel)
theorem dX1_empty_30 : decode cX1_empty 30 = .ok (.aload_n 0, 1) := dk_42 (by decide +kernel)
theorem dX1_empty_31 : decode cX1_empty 31 = .ok (.iconst 1, 1) := dk_4 (by decide +kernel)
theorem dX1_empty_32 : decode cX1_empty 32 = .ok (.putfield 61, 3) := dk_181 (by decide +kernel)
theorem dX1_empty_35 : decode cX1_empty 35 = .ok (.return_, 1) := dk_177 (by decide +kernel)
def wsMX1_empty : List Cond := .code yX1_empty cX1_empty 1 none :: ([.fieldLink RX1 41 "OptimaWorks$Model" "stands" "Z", .fieldLink RX1 45 "OptimaWorks$Model" "variables" "I", .fieldLink RX1 49 "OptimaWorks$Model" "rows" "I", .fieldLink RX1 52 "OptimaWorks$Model" "plainRows" "I", .fieldLink RX1 55 "OptimaWorks$Model" "goals" "I", .fieldLink RX1 58 "OptimaWorks$Model" "differents" "I", .fieldLink RX1 61 "OptimaWorks$Model" "cases" "I"] ++ wsX10)
theorem iwsMX1_empty_in1 : ∀ w ∈ wsX10, w ∈ wsMX1_empty := fun _ h => List.mem_cons_of_mem _ (List.mem_append_right _ h)
theorem gdwsMX1_empty : wsMX1_empty.all goodWord = true := gdC rfl (gdA (by decide +kernel : ([.fieldLink RX1 41 "OptimaWorks$Model" "stands" "Z", .fieldLink RX1 45 "OptimaWorks$Model" "variables" "I", .fieldLink RX1 49 "OptimaWorks$Model" "rows" "I", .fieldLink RX1 52 "OptimaWorks$Model" "plainRows" "I", .fieldLink RX1 55 "OptimaWorks$Model" "goals" "I", .fieldLink RX1 58 "OptimaWorks$Model" "differents" "I", .fieldLink RX1 61 "OptimaWorks$Model" "cases" "I"] : List Cond).all goodWord = true) gdwsX10)
set_option maxHeartbeats 4000000 in
set_option maxRecDepth 100000 in
/-- nothing -/
theorem m_X1_empty (l : Launch) (dC : Nat → ClassId) (dI : Nat → Nat → Nat) (hM : Nat → Nat) (aM : Nat → Nat) (kM : Nat → ClassId) (iM_stands : Int32) (iM_variables : Int32) (iM_rows : Int32) (iM_goals : Int32) (iM_differents : Int32) (iM_cases : Int32) (fM_from : Nat → Int32) (fM_to : Nat → Int32) (fM_whole : Nat → Int32) (fM_ways : Nat → Int32) (iM_plainRows : Int32) (fM_plainRow : Nat → Int32) (fM_kept : Nat → Int32) (fM_goalOver : Nat → Int32) (fM_goalUnder : Nat → Int32) (fM_goalMax : Nat → Int32) (fM_different : Nat → Int32) (b_iM_stands : 0 ≤ iM_stands.toInt ∧ iM_stands.toInt ≤ 1) (b_iM_variables : 0 ≤ iM_variables.toInt ∧ iM_variables.toInt ≤ 8) (b_iM_rows : 0 ≤ iM_rows.toInt ∧ iM_rows.toInt ≤ 12) (b_iM_goals : 0 ≤ iM_goals.toInt ∧ iM_goals.toInt ≤ 3) (b_iM_differents : 0 ≤ iM_differents.toInt ∧ iM_differents.toInt ≤ 8) (b_iM_cases : 0 ≤ iM_cases.toInt ∧ iM_cases.toInt ≤ 200000) (b_fM_ways : ∀ q : Nat, 0 ≤ (fM_ways q).toInt ∧ (fM_ways q).toInt ≤ 3) (b_iM_plainRows : 0 ≤ iM_plainRows.toInt ∧ iM_plainRows.toInt ≤ 12) (b_fM_plainRow : ∀ q : Nat, 0 ≤ (fM_plainRow q).toInt ∧ (fM_plainRow q).toInt ≤ 11) (b_pr : iM_plainRows.toInt ≤ iM_rows.toInt) (sz : Nat) : Met l yX1_empty wsMX1_empty ({ frames := 0, cells := 0, slots := 0, locals := 0 }) (va_Pc [.ref (hM 0)] (fun U => U.heap.size = sz ∧ va_P (dC, dI) vwCl (WM hM aM kM iM_stands iM_variables iM_rows iM_goals iM_differents iM_cases fM_from fM_to fM_whole fM_ways iM_plainRows fM_plainRow fM_kept fM_goalOver fM_goalUnder fM_goalMax fM_different) U.heap ∧ va_K (dC, dI) vwCl (tM kM) U ∧ va_D (fun _ => True) (WM hM aM kM iM_stands iM_variables iM_rows iM_goals iM_differents iM_cases fM_from fM_to fM_whole fM_ways iM_plainRows fM_plainRow fM_kept fM_goalOver fM_goalUnder fM_goalMax fM_different))) (va_Qv (fun (u : (Int32) × (Int32) × (Int32) × (Int32) × (Int32) × (Int32) × (Int32)) => (0 ≤ (u.1).toInt ∧ (u.1).toInt ≤ 1) ∧ (0 ≤ (u.2.1).toInt ∧ (u.2.1).toInt ≤ 8) ∧ (0 ≤ (u.2.2.1).toInt ∧ (u.2.2.1).toInt ≤ 12) ∧ (0 ≤ (u.2.2.2.1).toInt ∧ (u.2.2.2.1).toInt ≤ 3) ∧ (0 ≤ (u.2.2.2.2.1).toInt ∧ (u.2.2.2.2.1).toInt ≤ 8) ∧ (0 ≤ (u.2.2.2.2.2.1).toInt ∧ (u.2.2.2.2.2.1).toInt ≤ 200000) ∧ (0 ≤ (u.2.2.2.2.2.2).toInt ∧ (u.2.2.2.2.2.2).toInt ≤ 12) ∧ ((u.2.2.2.2.2.2).toInt ≤ (u.2.2.1).toInt) ∧ ((u.2.2.2.2.2.1).toInt ≤ 64)) (fun (u : (Int32) × (Int32) × (Int32) × (Int32) × (Int32) × (Int32) × (Int32)) t => va_P (dC, dI) vwCl (WM hM aM kM (u.1) (u.2.1) (u.2.2.1) (u.2.2.2.1) (u.2.2.2.2.1) (u.2.2.2.2.2.1) fM_from fM_to fM_whole fM_ways (u.2.2.2.2.2.2) fM_plainRow fM_kept fM_goalOver fM_goalUnder fM_goalMax fM_different) t.heap ∧ va_D (va_A (WM hM aM kM iM_stands iM_variables iM_rows iM_goals iM_differents iM_cases fM_from fM_to fM_whole fM_ways iM_plainRows fM_plainRow fM_kept fM_goalOver fM_goalUnder fM_goalMax fM_different) sz) (WM hM aM kM (u.1) (u.2.1) (u.2.2.1) (u.2.2.2.1) (u.2.2.2.2.1) (u.2.2.2.2.2.1) fM_from fM_to fM_whole fM_ways (u.2.2.2.2.2.2) fM_plainRow fM_kept fM_goalOver fM_goalUnder fM_goalMax fM_different)) (va_A (WM hM aM kM iM_stands iM_variables iM_rows iM_goals iM_differents iM_cases fM_from fM_to fM_whole fM_ways iM_plainRows fM_plainRow fM_kept fM_goalOver fM_goalUnder fM_goalMax fM_different) sz)) 0 0 (va_A (WM hM aM kM iM_stands iM_variables iM_rows iM_goals iM_differents iM_cases fM_from fM_to fM_whole fM_ways iM_plainRows fM_plainRow fM_kept fM_goalOver fM_goalUnder fM_goalMax fM_different) sz) := by
  refine Met.ofW (cc := cX1_empty) (maxL := 1) (ret := none) (by decide) rfl ?_
  intro p e s m args below meth c s₁ B hml hv
  obtain ⟨rfl, hsz, hP, hK, hD0⟩ := hv
  have hx := B.exec
  have hb := B.bytes
  have hr := B.returns
  have hts := atoms_spec (ws := wsMX1_empty) B.pre
  have hown : s.vm.findClass RX1 = some m.cls := findClass_of_methodNamed B.named
  have hlocks := B.notSynchronized
  subst hsz
  have hD := hD0.self (sz := s.heap.size)
  generalize hAe : va_A (WM hM aM kM iM_stands iM_variables iM_rows iM_goals iM_differents iM_cases fM_from fM_to fM_whole fM_ways iM_plainRows fM_plainRow fM_kept fM_goalOver fM_goalUnder fM_goalMax fM_different) s.heap.size = A at hD ⊢
  have hA : ∀ q : Nat, s.heap.size ≤ q → A q := fun q h => by rw [← hAe]; exact Or.inr h
  have hS : va_S A s.heap s.heap [] := va_S.rf
  have hl := lv_entry ([.ref (hM 0)]) (n := 1) (Nat.le_of_ble_eq_true rfl)
  rw [lg_entry_eq]
  generalize (lg_sl ([.ref (hM 0)]) ++ List.replicate (1 - (lg_sl ([.ref (hM 0)])).length) Slot.unset).toArray = ls at hl ⊢
  have hl : lv_has ls 1 [(0, .ref (hM 0))] := hl
  refine lv_aload_n hx hb dX1_empty_0 rfl (lv_at hl 0 rfl) ?_
  refine lv_iconst (v := 0) hx hb dX1_empty_1 (by decide) ?_
  refine va_put (D := (dC, dI)) (ci := 1) (v := .int 0) (ty := .boolean) (C := RX1) (T := TX1) (N := 17) hx hb hts iwsMX1_empty_in1 tyX1 tyX1_ok nmX1 hown hK hP hD hS 0 rfl rfl 0 (by decide) (hts (.fieldLink RX1 41 "OptimaWorks$Model" "stands" "Z") (by decide +kernel)) (fun _ h9 => h9) rfl (by decide +kernel) rfl rfl (Nat.le_of_ble_eq_true rfl) dX1_empty_2 (fun H locs hP hD hS => ?_)
  have hP : va_P (dC, dI) vwCl (WM hM aM kM 0 iM_variables iM_rows iM_goals iM_differents iM_cases fM_from fM_to fM_whole fM_ways iM_plainRows fM_plainRow fM_kept fM_goalOver fM_goalUnder fM_goalMax fM_different) H := hP
  have hD := fz_sd hP (hD) rfl
  refine lv_aload_n hx hb dX1_empty_5 rfl (lv_at hl 0 rfl) ?_
  refine lv_iconst (v := 0) hx hb dX1_empty_6 (by decide) ?_
  refine va_put (D := (dC, dI)) (ci := 1) (v := .int 0) (ty := .int) (C := RX1) (T := TX1) (N := 17) hx hb hts iwsMX1_empty_in1 tyX1 tyX1_ok nmX1 hown hK hP hD hS 0 rfl rfl 1 (by decide) (hts (.fieldLink RX1 45 "OptimaWorks$Model" "variables" "I") (by decide +kernel)) (fun _ h9 => h9) rfl (by decide +kernel) rfl rfl (Nat.le_of_ble_eq_true rfl) dX1_empty_7 (fun H locs hP hD hS => ?_)
  have hP : va_P (dC, dI) vwCl (WM hM aM kM 0 0 iM_rows iM_goals iM_differents iM_cases fM_from fM_to fM_whole fM_ways iM_plainRows fM_plainRow fM_kept fM_goalOver fM_goalUnder fM_goalMax fM_different) H := hP
  have hD := fz_sd hP (hD) rfl
  refine lv_aload_n hx hb dX1_empty_10 rfl (lv_at hl 0 rfl) ?_
  refine lv_iconst (v := 0) hx hb dX1_empty_11 (by decide) ?_
  refine va_put (D := (dC, dI)) (ci := 1) (v := .int 0) (ty := .int) (C := RX1) (T := TX1) (N := 17) hx hb hts iwsMX1_empty_in1 tyX1 tyX1_ok nmX1 hown hK hP hD hS 0 rfl rfl 2 (by decide) (hts (.fieldLink RX1 49 "OptimaWorks$Model" "rows" "I") (by decide +kernel)) (fun _ h9 => h9) rfl (by decide +kernel) rfl rfl (Nat.le_of_ble_eq_true rfl) dX1_empty_12 (fun H locs hP hD hS => ?_)
  have hP : va_P (dC, dI) vwCl (WM hM aM kM 0 0 0 iM_goals iM_differents iM_cases fM_from fM_to fM_whole fM_ways iM_plainRows fM_plainRow fM_kept fM_goalOver fM_goalUnder fM_goalMax fM_different) H := hP
  have hD := fz_sd hP (hD) rfl
  refine lv_aload_n hx hb dX1_empty_15 rfl (lv_at hl 0 rfl) ?_
  refine lv_iconst (v := 0) hx hb dX1_empty_16 (by decide) ?_
  refine va_put (D := (dC, dI)) (ci := 1) (v := .int 0) (ty := .int) (C := RX1) (T := TX1) (N := 17) hx hb hts iwsMX1_empty_in1 tyX1 tyX1_ok nmX1 hown hK hP hD hS 0 rfl rfl 10 (by decide) (hts (.fieldLink RX1 52 "OptimaWorks$Model" "plainRows" "I") (by decide +kernel)) (fun _ h9 => h9) rfl (by decide +kernel) rfl rfl (Nat.le_of_ble_eq_true rfl) dX1_empty_17 (fun H locs hP hD hS => ?_)
  have hP : va_P (dC, dI) vwCl (WM hM aM kM 0 0 0 iM_goals iM_differents iM_cases fM_from fM_to fM_whole fM_ways 0 fM_plainRow fM_kept fM_goalOver fM_goalUnder fM_goalMax fM_different) H := hP
  have hD := fz_sd hP (hD) rfl
  refine lv_aload_n hx hb dX1_empty_20 rfl (lv_at hl 0 rfl) ?_
  refine lv_iconst (v := 0) hx hb dX1_empty_21 (by decide) ?_
  refine va_put (D := (dC, dI)) (ci := 1) (v := .int 0) (ty := .int) (C := RX1) (T := TX1) (N := 17) hx hb hts iwsMX1_empty_in1 tyX1 tyX1_ok nmX1 hown hK hP hD hS 0 rfl rfl 3 (by decide) (hts (.fieldLink RX1 55 "OptimaWorks$Model" "goals" "I") (by decide +kernel)) (fun _ h9 => h9) rfl (by decide +kernel) rfl rfl (Nat.le_of_ble_eq_true rfl) dX1_empty_22 (fun H locs hP hD hS => ?_)
  have hP : va_P (dC, dI) vwCl (WM hM aM kM 0 0 0 0 iM_differents iM_cases fM_from fM_to fM_whole fM_ways 0 fM_plainRow fM_kept fM_goalOver fM_goalUnder fM_goalMax fM_different) H := hP
  have hD := fz_sd hP (hD) rfl
  refine lv_aload_n hx hb dX1_empty_25 rfl (lv_at hl 0 rfl) ?_
  refine lv_iconst (v := 0) hx hb dX1_empty_26 (by decide) ?_
  refine va_put (D := (dC, dI)) (ci := 1) (v := .int 0) (ty := .int) (C := RX1) (T := TX1) (N := 17) hx hb hts iwsMX1_empty_in1 tyX1 tyX1_ok nmX1 hown hK hP hD hS 0 rfl rfl 4 (by decide) (hts (.fieldLink RX1 58 "OptimaWorks$Model" "differents" "I") (by decide +kernel)) (fun _ h9 => h9) rfl (by decide +kernel) rfl rfl (Nat.le_of_ble_eq_true rfl) dX1_empty_27 (fun H locs hP hD hS => ?_)
  have hP : va_P (dC, dI) vwCl (WM hM aM kM 0 0 0 0 0 iM_cases fM_from fM_to fM_whole fM_ways 0 fM_plainRow fM_kept fM_goalOver fM_goalUnder fM_goalMax fM_different) H := hP
  have hD := fz_sd hP (hD) rfl
  refine lv_aload_n hx hb dX1_empty_30 rfl (lv_at hl 0 rfl) ?_
  refine lv_iconst (v := 1) hx hb dX1_empty_31 (by decide) ?_
  refine va_put (D := (dC, dI)) (ci := 1) (v := .int 1) (ty := .int) (C := RX1) (T := TX1) (N := 17) hx hb hts iwsMX1_empty_in1 tyX1 tyX1_ok nmX1 hown hK hP hD hS 0 rfl rfl 5 (by decide) (hts (.fieldLink RX1 61 "OptimaWorks$Model" "cases" "I") (by decide +kernel)) (fun _ h9 => h9) rfl (by decide +kernel) rfl rfl (Nat.le_of_ble_eq_true rfl) dX1_empty_32 (fun H locs hP hD hS => ?_)
  have hP : va_P (dC, dI) vwCl (WM hM aM kM 0 0 0 0 0 1 fM_from fM_to fM_whole fM_ways 0 fM_plainRow fM_kept fM_goalOver fM_goalUnder fM_goalMax fM_different) H := hP
  have hD := fz_sd hP (hD) rfl
  refine W.widen (k := 0) (n := 0) (by decide +kernel) (by decide +kernel) ?_
  exact W.vret hx hb hr (fun t9_ ht hW => ⟨⟨(0, 0, 0, 0, 0, 1, 0), rfl, ⟨(by (try dsimp only); exact (show 0 ≤ (0 : Int32).toInt ∧ (0 : Int32).toInt ≤ 1 from by decide)), (by (try dsimp only); exact (show 0 ≤ (0 : Int32).toInt ∧ (0 : Int32).toInt ≤ 8 from by decide)), (by (try dsimp only); exact (show 0 ≤ (0 : Int32).toInt ∧ (0 : Int32).toInt ≤ 12 from by decide)), (by (try dsimp only); exact (show 0 ≤ (0 : Int32).toInt ∧ (0 : Int32).toInt ≤ 3 from by decide)), (by (try dsimp only); exact (show 0 ≤ (0 : Int32).toInt ∧ (0 : Int32).toInt ≤ 8 from by decide)), (by (try dsimp only); exact (show 0 ≤ (1 : Int32).toInt ∧ (1 : Int32).toInt ≤ 200000 from by decide)), (by (try dsimp only); exact (show 0 ≤ (0 : Int32).toInt ∧ (0 : Int32).toInt ≤ 12 from by decide)), (by (try dsimp only); exact (by decide)), (by (try dsimp only); decide)⟩, by rw [ht]; exact hP, hD⟩, hS.F ht⟩) hS.2.2 dX1_empty_35
theorem dX1_number_0 : decode cX1_number 0 = .ok (.aload_n 0, 1) := dk_42 (by decide +kernel)
theorem dX1_number_1 : decode cX1_number 1 = .ok (.getfield 26, 3) := dk_180 (by decide +kernel)
theorem dX1_number_4 : decode cX1_number 4 = .ok (.iload_n 1, 1) := dk_27 (by decide +kernel)
theorem dX1_number_5 : decode cX1_number 5 = .ok (.iconst 3, 1) := dk_6 (by decide +kernel)
theorem dX1_number_6 : decode cX1_number 6 = .ok (.imul, 1) := dk_104 (by decide +kernel)
theorem dX1_number_7 : decode cX1_number 7 = .ok (.iload_n 2, 1) := dk_28 (by decide +kernel)
theorem dX1_number_8 : decode cX1_number 8 = .ok (.iadd, 1) := dk_96 (by decide +kernel)
theorem dX1_number_9 : decode cX1_number 9 = .ok (.bipush 10, 2) := dk_16 (by decide +kernel)
theorem dX1_number_11 : decode cX1_number 11 = .ok (.imul, 1) := dk_104 (by decide +kernel)
theorem dX1_number_12 : decode cX1_number 12 = .ok (.iload_n 3, 1) := dk_29 (by decide +kernel)
theorem dX1_number_13 : decode cX1_number 13 = .ok (.iadd, 1) := dk_96 (by decide +kernel)
theorem dX1_number_14 : decode cX1_number 14 = .ok (.iaload, 1) := dk_46 (by decide +kernel)
theorem dX1_number_15 : decode cX1_number 15 = .ok (.ireturn, 1) := dk_172 (by decide +kernel)
def wsMX1_number : List Cond := .code yX1_number cX1_number 4 (some .int) :: ([.fieldLink RX1 26 "OptimaWorks$Model" "kept" "[I"] ++ wsX10)
theorem iwsMX1_number_in1 : ∀ w ∈ wsX10, w ∈ wsMX1_number := fun _ h => List.mem_cons_of_mem _ (List.mem_append_right _ h)
theorem gdwsMX1_number : wsMX1_number.all goodWord = true := gdC rfl (gdA (by decide +kernel : ([.fieldLink RX1 26 "OptimaWorks$Model" "kept" "[I"] : List Cond).all goodWord = true) gdwsX10)
set_option maxHeartbeats 4000000 in
set_option maxRecDepth 100000 in
/-- a number of a way -/
theorem m_X1_number (l : Launch) (dC : Nat → ClassId) (dI : Nat → Nat → Nat) (hM : Nat → Nat) (aM : Nat → Nat) (kM : Nat → ClassId) (iM_stands : Int32) (iM_variables : Int32) (iM_rows : Int32) (iM_goals : Int32) (iM_differents : Int32) (iM_cases : Int32) (fM_from : Nat → Int32) (fM_to : Nat → Int32) (fM_whole : Nat → Int32) (fM_ways : Nat → Int32) (iM_plainRows : Int32) (fM_plainRow : Nat → Int32) (fM_kept : Nat → Int32) (fM_goalOver : Nat → Int32) (fM_goalUnder : Nat → Int32) (fM_goalMax : Nat → Int32) (fM_different : Nat → Int32) (p1 : Int32) (p2 : Int32) (p3 : Int32) (b_iM_stands : 0 ≤ iM_stands.toInt ∧ iM_stands.toInt ≤ 1) (b_iM_variables : 0 ≤ iM_variables.toInt ∧ iM_variables.toInt ≤ 8) (b_iM_rows : 0 ≤ iM_rows.toInt ∧ iM_rows.toInt ≤ 12) (b_iM_goals : 0 ≤ iM_goals.toInt ∧ iM_goals.toInt ≤ 3) (b_iM_differents : 0 ≤ iM_differents.toInt ∧ iM_differents.toInt ≤ 8) (b_iM_cases : 0 ≤ iM_cases.toInt ∧ iM_cases.toInt ≤ 200000) (b_fM_ways : ∀ q : Nat, 0 ≤ (fM_ways q).toInt ∧ (fM_ways q).toInt ≤ 3) (b_iM_plainRows : 0 ≤ iM_plainRows.toInt ∧ iM_plainRows.toInt ≤ 12) (b_fM_plainRow : ∀ q : Nat, 0 ≤ (fM_plainRow q).toInt ∧ (fM_plainRow q).toInt ≤ 11) (b_pr : iM_plainRows.toInt ≤ iM_rows.toInt) (b_p1 : 0 ≤ p1.toInt ∧ p1.toInt ≤ 11) (b_p2 : 0 ≤ p2.toInt ∧ p2.toInt ≤ 2) (b_p3 : 0 ≤ p3.toInt ∧ p3.toInt ≤ 8) (sz : Nat) : Met l yX1_number wsMX1_number ({ frames := 0, cells := 0, slots := 0, locals := 0 }) (va_Pc [.ref (hM 0), .int p1, .int p2, .int p3] (fun U => U.heap.size = sz ∧ va_P (dC, dI) vwCl (WM hM aM kM iM_stands iM_variables iM_rows iM_goals iM_differents iM_cases fM_from fM_to fM_whole fM_ways iM_plainRows fM_plainRow fM_kept fM_goalOver fM_goalUnder fM_goalMax fM_different) U.heap ∧ va_K (dC, dI) vwCl (tM kM) U ∧ va_D (fun _ => True) (WM hM aM kM iM_stands iM_variables iM_rows iM_goals iM_differents iM_cases fM_from fM_to fM_whole fM_ways iM_plainRows fM_plainRow fM_kept fM_goalOver fM_goalUnder fM_goalMax fM_different))) (va_Qi (fun (r : Int32) (u : Unit) => True) (fun (u : Unit) t => va_P (dC, dI) vwCl (WM hM aM kM iM_stands iM_variables iM_rows iM_goals iM_differents iM_cases fM_from fM_to fM_whole fM_ways iM_plainRows fM_plainRow fM_kept fM_goalOver fM_goalUnder fM_goalMax fM_different) t.heap ∧ va_D (va_A (WM hM aM kM iM_stands iM_variables iM_rows iM_goals iM_differents iM_cases fM_from fM_to fM_whole fM_ways iM_plainRows fM_plainRow fM_kept fM_goalOver fM_goalUnder fM_goalMax fM_different) sz) (WM hM aM kM iM_stands iM_variables iM_rows iM_goals iM_differents iM_cases fM_from fM_to fM_whole fM_ways iM_plainRows fM_plainRow fM_kept fM_goalOver fM_goalUnder fM_goalMax fM_different)) (va_A (WM hM aM kM iM_stands iM_variables iM_rows iM_goals iM_differents iM_cases fM_from fM_to fM_whole fM_ways iM_plainRows fM_plainRow fM_kept fM_goalOver fM_goalUnder fM_goalMax fM_different) sz)) 0 0 (va_A (WM hM aM kM iM_stands iM_variables iM_rows iM_goals iM_differents iM_cases fM_from fM_to fM_whole fM_ways iM_plainRows fM_plainRow fM_kept fM_goalOver fM_goalUnder fM_goalMax fM_different) sz) := by
  refine Met.ofW (cc := cX1_number) (maxL := 4) (ret := (some .int)) (by decide) rfl ?_
  intro p e s m args below meth c s₁ B hml hv
  obtain ⟨rfl, hsz, hP, hK, hD0⟩ := hv
  have hx := B.exec
  have hb := B.bytes
  have hr := B.returns
  have hts := atoms_spec (ws := wsMX1_number) B.pre
  have hown : s.vm.findClass RX1 = some m.cls := findClass_of_methodNamed B.named
  have hlocks := B.notSynchronized
  subst hsz
  have hD := hD0.self (sz := s.heap.size)
  generalize hAe : va_A (WM hM aM kM iM_stands iM_variables iM_rows iM_goals iM_differents iM_cases fM_from fM_to fM_whole fM_ways iM_plainRows fM_plainRow fM_kept fM_goalOver fM_goalUnder fM_goalMax fM_different) s.heap.size = A at hD ⊢
  have hA : ∀ q : Nat, s.heap.size ≤ q → A q := fun q h => by rw [← hAe]; exact Or.inr h
  have hS : va_S A s.heap s.heap [] := va_S.rf
  have hl := lv_entry ([.ref (hM 0), .int p1, .int p2, .int p3]) (n := 4) (Nat.le_of_ble_eq_true rfl)
  rw [lg_entry_eq]
  generalize (lg_sl ([.ref (hM 0), .int p1, .int p2, .int p3]) ++ List.replicate (4 - (lg_sl ([.ref (hM 0), .int p1, .int p2, .int p3])).length) Slot.unset).toArray = ls at hl ⊢
  have hl : lv_has ls 4 [(0, .ref (hM 0)), (1, .int p1), (2, .int p2), (3, .int p3)] := hl
  refine lv_aload_n hx hb dX1_number_0 rfl (lv_at hl 0 rfl) ?_
  refine va_get (D := (dC, dI)) (ci := 1) (v := .ref (aM 5)) (C := RX1) (T := TX1) (N := 17) hx hb hts iwsMX1_number_in1 hown hK hP 0 rfl rfl 12 (by decide) (hts (.fieldLink RX1 26 "OptimaWorks$Model" "kept" "[I") (by decide +kernel)) (fun _ h9 => h9) rfl dX1_number_1 ?_
  refine lv_iload_n hx hb dX1_number_4 rfl (lv_at hl 1 rfl) ?_
  refine lv_iconst (v := 3) hx hb dX1_number_5 (by decide) ?_
  refine lv_imul hx hb dX1_number_6 ?_
  refine lv_topi (fun y1 hy1 => ?_)
  obtain rfl : (iI (p1.toInt * 3)) = y1 := (hy1.trans (iI_mul2 (iI_of _) (by decide : (3 : Int32) = iI 3))).symm
  refine lv_iload_n hx hb dX1_number_7 rfl (lv_at hl 2 rfl) ?_
  refine lv_iadd hx hb dX1_number_8 ?_
  refine lv_topi (fun y2 hy2 => ?_)
  obtain rfl : (iI ((p1.toInt * 3) + p2.toInt)) = y2 := (hy2.trans (iI_add2 rfl (iI_of _))).symm
  refine lv_bipush (v := 10) hx hb dX1_number_9 (by decide) ?_
  refine lv_imul hx hb dX1_number_11 ?_
  refine lv_topi (fun y3 hy3 => ?_)
  obtain rfl : (iI (((p1.toInt * 3) + p2.toInt) * 10)) = y3 := (hy3.trans (iI_mul2 rfl (by decide : (10 : Int32) = iI 10))).symm
  refine lv_iload_n hx hb dX1_number_12 rfl (lv_at hl 3 rfl) ?_
  refine lv_iadd hx hb dX1_number_13 ?_
  refine lv_topi (fun y4 hy4 => ?_)
  obtain rfl : (iI ((((p1.toInt * 3) + p2.toInt) * 10) + p3.toInt)) = y4 := (hy4.trans (iI_add2 rfl (iI_of _))).symm
  refine va_iald (cA := kM 5) (n := 360) (f := fM_kept) hx hb hK hP 6 5 rfl rfl (vp_iI (Int.le_trans (by decide) (Int.add_le_add (Int.mul_le_mul_of_nonneg_right (Int.add_le_add (Int.mul_le_mul_of_nonneg_right (b_p1.1) (by decide)) (b_p2.1)) (by decide)) (b_p3.1))) (Int.lt_of_le_of_lt (Int.add_le_add (Int.mul_le_mul_of_nonneg_right (Int.add_le_add (Int.mul_le_mul_of_nonneg_right (b_p1.2) (by decide)) (b_p2.2)) (by decide)) (b_p3.2)) (by decide)) (by decide)) dX1_number_14 ?_
  refine lv_topi (fun v5 hv5 => ?_)
  clear hv5
  refine W.widen (k := 0) (n := 0) (by decide +kernel) (by decide +kernel) ?_
  exact W.iret (v := v5) hx hb hr (fun t9_ ht hW => ⟨⟨v5, (), rfl, trivial, by rw [ht]; exact hP, hD⟩, hS.F ht⟩) hS.2.2 dX1_number_15
theorem dX1_rightSide_0 : decode cX1_rightSide 0 = .ok (.aload_n 0, 1) := dk_42 (by decide +kernel)
theorem dX1_rightSide_1 : decode cX1_rightSide 1 = .ok (.getfield 26, 3) := dk_180 (by decide +kernel)
theorem dX1_rightSide_4 : decode cX1_rightSide 4 = .ok (.iload_n 1, 1) := dk_27 (by decide +kernel)
theorem dX1_rightSide_5 : decode cX1_rightSide 5 = .ok (.iconst 3, 1) := dk_6 (by decide +kernel)
theorem dX1_rightSide_6 : decode cX1_rightSide 6 = .ok (.imul, 1) := dk_104 (by decide +kernel)
theorem dX1_rightSide_7 : decode cX1_rightSide 7 = .ok (.iload_n 2, 1) := dk_28 (by decide +kernel)
theorem dX1_rightSide_8 : decode cX1_rightSide 8 = .ok (.iadd, 1) := dk_96 (by decide +kernel)
theorem dX1_rightSide_9 : decode cX1_rightSide 9 = .ok (.bipush 10, 2) := dk_16 (by decide +kernel)
theorem dX1_rightSide_11 : decode cX1_rightSide 11 = .ok (.imul, 1) := dk_104 (by decide +kernel)
theorem dX1_rightSide_12 : decode cX1_rightSide 12 = .ok (.bipush 8, 2) := dk_16 (by decide +kernel)
theorem dX1_rightSide_14 : decode cX1_rightSide 14 = .ok (.iadd, 1) := dk_96 (by decide +kernel)
theorem dX1_rightSide_15 : decode cX1_rightSide 15 = .ok (.iaload, 1) := dk_46 (by decide +kernel)
theorem dX1_rightSide_16 : decode cX1_rightSide 16 = .ok (.ireturn, 1) := dk_172 (by decide +kernel)
def wsMX1_rightSide : List Cond := .code yX1_rightSide cX1_rightSide 3 (some .int) :: ([.fieldLink RX1 26 "OptimaWorks$Model" "kept" "[I"] ++ wsX10)
theorem iwsMX1_rightSide_in1 : ∀ w ∈ wsX10, w ∈ wsMX1_rightSide := fun _ h => List.mem_cons_of_mem _ (List.mem_append_right _ h)
theorem gdwsMX1_rightSide : wsMX1_rightSide.all goodWord = true := gdC rfl (gdA (by decide +kernel : ([.fieldLink RX1 26 "OptimaWorks$Model" "kept" "[I"] : List Cond).all goodWord = true) gdwsX10)
set_option maxHeartbeats 4000000 in
set_option maxRecDepth 100000 in
/-- the right side -/
theorem m_X1_rightSide (l : Launch) (dC : Nat → ClassId) (dI : Nat → Nat → Nat) (hM : Nat → Nat) (aM : Nat → Nat) (kM : Nat → ClassId) (iM_stands : Int32) (iM_variables : Int32) (iM_rows : Int32) (iM_goals : Int32) (iM_differents : Int32) (iM_cases : Int32) (fM_from : Nat → Int32) (fM_to : Nat → Int32) (fM_whole : Nat → Int32) (fM_ways : Nat → Int32) (iM_plainRows : Int32) (fM_plainRow : Nat → Int32) (fM_kept : Nat → Int32) (fM_goalOver : Nat → Int32) (fM_goalUnder : Nat → Int32) (fM_goalMax : Nat → Int32) (fM_different : Nat → Int32) (p1 : Int32) (p2 : Int32) (b_iM_stands : 0 ≤ iM_stands.toInt ∧ iM_stands.toInt ≤ 1) (b_iM_variables : 0 ≤ iM_variables.toInt ∧ iM_variables.toInt ≤ 8) (b_iM_rows : 0 ≤ iM_rows.toInt ∧ iM_rows.toInt ≤ 12) (b_iM_goals : 0 ≤ iM_goals.toInt ∧ iM_goals.toInt ≤ 3) (b_iM_differents : 0 ≤ iM_differents.toInt ∧ iM_differents.toInt ≤ 8) (b_iM_cases : 0 ≤ iM_cases.toInt ∧ iM_cases.toInt ≤ 200000) (b_fM_ways : ∀ q : Nat, 0 ≤ (fM_ways q).toInt ∧ (fM_ways q).toInt ≤ 3) (b_iM_plainRows : 0 ≤ iM_plainRows.toInt ∧ iM_plainRows.toInt ≤ 12) (b_fM_plainRow : ∀ q : Nat, 0 ≤ (fM_plainRow q).toInt ∧ (fM_plainRow q).toInt ≤ 11) (b_pr : iM_plainRows.toInt ≤ iM_rows.toInt) (b_p1 : 0 ≤ p1.toInt ∧ p1.toInt ≤ 11) (b_p2 : 0 ≤ p2.toInt ∧ p2.toInt ≤ 2) (sz : Nat) : Met l yX1_rightSide wsMX1_rightSide ({ frames := 0, cells := 0, slots := 0, locals := 0 }) (va_Pc [.ref (hM 0), .int p1, .int p2] (fun U => U.heap.size = sz ∧ va_P (dC, dI) vwCl (WM hM aM kM iM_stands iM_variables iM_rows iM_goals iM_differents iM_cases fM_from fM_to fM_whole fM_ways iM_plainRows fM_plainRow fM_kept fM_goalOver fM_goalUnder fM_goalMax fM_different) U.heap ∧ va_K (dC, dI) vwCl (tM kM) U ∧ va_D (fun _ => True) (WM hM aM kM iM_stands iM_variables iM_rows iM_goals iM_differents iM_cases fM_from fM_to fM_whole fM_ways iM_plainRows fM_plainRow fM_kept fM_goalOver fM_goalUnder fM_goalMax fM_different))) (va_Qi (fun (r : Int32) (u : Unit) => True) (fun (u : Unit) t => va_P (dC, dI) vwCl (WM hM aM kM iM_stands iM_variables iM_rows iM_goals iM_differents iM_cases fM_from fM_to fM_whole fM_ways iM_plainRows fM_plainRow fM_kept fM_goalOver fM_goalUnder fM_goalMax fM_different) t.heap ∧ va_D (va_A (WM hM aM kM iM_stands iM_variables iM_rows iM_goals iM_differents iM_cases fM_from fM_to fM_whole fM_ways iM_plainRows fM_plainRow fM_kept fM_goalOver fM_goalUnder fM_goalMax fM_different) sz) (WM hM aM kM iM_stands iM_variables iM_rows iM_goals iM_differents iM_cases fM_from fM_to fM_whole fM_ways iM_plainRows fM_plainRow fM_kept fM_goalOver fM_goalUnder fM_goalMax fM_different)) (va_A (WM hM aM kM iM_stands iM_variables iM_rows iM_goals iM_differents iM_cases fM_from fM_to fM_whole fM_ways iM_plainRows fM_plainRow fM_kept fM_goalOver fM_goalUnder fM_goalMax fM_different) sz)) 0 0 (va_A (WM hM aM kM iM_stands iM_variables iM_rows iM_goals iM_differents iM_cases fM_from fM_to fM_whole fM_ways iM_plainRows fM_plainRow fM_kept fM_goalOver fM_goalUnder fM_goalMax fM_different) sz) := by
  refine Met.ofW (cc := cX1_rightSide) (maxL := 3) (ret := (some .int)) (by decide) rfl ?_
  intro p e s m args below meth c s₁ B hml hv
  obtain ⟨rfl, hsz, hP, hK, hD0⟩ := hv
  have hx := B.exec
  have hb := B.bytes
  have hr := B.returns
  have hts := atoms_spec (ws := wsMX1_rightSide) B.pre
  have hown : s.vm.findClass RX1 = some m.cls := findClass_of_methodNamed B.named
  have hlocks := B.notSynchronized
  subst hsz
  have hD := hD0.self (sz := s.heap.size)
  generalize hAe : va_A (WM hM aM kM iM_stands iM_variables iM_rows iM_goals iM_differents iM_cases fM_from fM_to fM_whole fM_ways iM_plainRows fM_plainRow fM_kept fM_goalOver fM_goalUnder fM_goalMax fM_different) s.heap.size = A at hD ⊢
  have hA : ∀ q : Nat, s.heap.size ≤ q → A q := fun q h => by rw [← hAe]; exact Or.inr h
  have hS : va_S A s.heap s.heap [] := va_S.rf
  have hl := lv_entry ([.ref (hM 0), .int p1, .int p2]) (n := 3) (Nat.le_of_ble_eq_true rfl)
  rw [lg_entry_eq]
  generalize (lg_sl ([.ref (hM 0), .int p1, .int p2]) ++ List.replicate (3 - (lg_sl ([.ref (hM 0), .int p1, .int p2])).length) Slot.unset).toArray = ls at hl ⊢
  have hl : lv_has ls 3 [(0, .ref (hM 0)), (1, .int p1), (2, .int p2)] := hl
  refine lv_aload_n hx hb dX1_rightSide_0 rfl (lv_at hl 0 rfl) ?_
  refine va_get (D := (dC, dI)) (ci := 1) (v := .ref (aM 5)) (C := RX1) (T := TX1) (N := 17) hx hb hts iwsMX1_rightSide_in1 hown hK hP 0 rfl rfl 12 (by decide) (hts (.fieldLink RX1 26 "OptimaWorks$Model" "kept" "[I") (by decide +kernel)) (fun _ h9 => h9) rfl dX1_rightSide_1 ?_
  refine lv_iload_n hx hb dX1_rightSide_4 rfl (lv_at hl 1 rfl) ?_
  refine lv_iconst (v := 3) hx hb dX1_rightSide_5 (by decide) ?_
  refine lv_imul hx hb dX1_rightSide_6 ?_
  refine lv_topi (fun y1 hy1 => ?_)
  obtain rfl : (iI (p1.toInt * 3)) = y1 := (hy1.trans (iI_mul2 (iI_of _) (by decide : (3 : Int32) = iI 3))).symm
  refine lv_iload_n hx hb dX1_rightSide_7 rfl (lv_at hl 2 rfl) ?_
  refine lv_iadd hx hb dX1_rightSide_8 ?_
  refine lv_topi (fun y2 hy2 => ?_)
  obtain rfl : (iI ((p1.toInt * 3) + p2.toInt)) = y2 := (hy2.trans (iI_add2 rfl (iI_of _))).symm
  refine lv_bipush (v := 10) hx hb dX1_rightSide_9 (by decide) ?_
  refine lv_imul hx hb dX1_rightSide_11 ?_
  refine lv_topi (fun y3 hy3 => ?_)
  obtain rfl : (iI (((p1.toInt * 3) + p2.toInt) * 10)) = y3 := (hy3.trans (iI_mul2 rfl (by decide : (10 : Int32) = iI 10))).symm
  refine lv_bipush (v := 8) hx hb dX1_rightSide_12 (by decide) ?_
  refine lv_iadd hx hb dX1_rightSide_14 ?_
  refine lv_topi (fun y4 hy4 => ?_)
  obtain rfl : (iI ((((p1.toInt * 3) + p2.toInt) * 10) + 8)) = y4 := (hy4.trans (iI_add2 rfl (by decide : (8 : Int32) = iI 8))).symm
  refine va_iald (cA := kM 5) (n := 360) (f := fM_kept) hx hb hK hP 6 5 rfl rfl (vp_iI (Int.le_trans (by decide) (Int.add_le_add (Int.mul_le_mul_of_nonneg_right (Int.add_le_add (Int.mul_le_mul_of_nonneg_right (b_p1.1) (by decide)) (b_p2.1)) (by decide)) (Int.le_refl _))) (Int.lt_of_le_of_lt (Int.add_le_add (Int.mul_le_mul_of_nonneg_right (Int.add_le_add (Int.mul_le_mul_of_nonneg_right (b_p1.2) (by decide)) (b_p2.2)) (by decide)) (Int.le_refl _)) (by decide)) (by decide)) dX1_rightSide_15 ?_
  refine lv_topi (fun v5 hv5 => ?_)
  clear hv5
  refine W.widen (k := 0) (n := 0) (by decide +kernel) (by decide +kernel) ?_
  exact W.iret (v := v5) hx hb hr (fun t9_ ht hW => ⟨⟨v5, (), rfl, trivial, by rw [ht]; exact hP, hD⟩, hS.F ht⟩) hS.2.2 dX1_rightSide_16
theorem dX1_sign_0 : decode cX1_sign 0 = .ok (.aload_n 0, 1) := dk_42 (by decide +kernel)
theorem dX1_sign_1 : decode cX1_sign 1 = .ok (.getfield 26, 3) := dk_180 (by decide +kernel)
theorem dX1_sign_4 : decode cX1_sign 4 = .ok (.iload_n 1, 1) := dk_27 (by decide +kernel)
theorem dX1_sign_5 : decode cX1_sign 5 = .ok (.iconst 3, 1) := dk_6 (by decide +kernel)
theorem dX1_sign_6 : decode cX1_sign 6 = .ok (.imul, 1) := dk_104 (by decide +kernel)
theorem dX1_sign_7 : decode cX1_sign 7 = .ok (.iload_n 2, 1) := dk_28 (by decide +kernel)
theorem dX1_sign_8 : decode cX1_sign 8 = .ok (.iadd, 1) := dk_96 (by decide +kernel)
theorem dX1_sign_9 : decode cX1_sign 9 = .ok (.bipush 10, 2) := dk_16 (by decide +kernel)
theorem dX1_sign_11 : decode cX1_sign 11 = .ok (.imul, 1) := dk_104 (by decide +kernel)
theorem dX1_sign_12 : decode cX1_sign 12 = .ok (.bipush 9, 2) := dk_16 (by decide +kernel)
theorem dX1_sign_14 : decode cX1_sign 14 = .ok (.iadd, 1) := dk_96 (by decide +kernel)
theorem dX1_sign_15 : decode cX1_sign 15 = .ok (.iaload, 1) := dk_46 (by decide +kernel)
theorem dX1_sign_16 : decode cX1_sign 16 = .ok (.ireturn, 1) := dk_172 (by decide +kernel)
def wsMX1_sign : List Cond := .code yX1_sign cX1_sign 3 (some .int) :: ([.fieldLink RX1 26 "OptimaWorks$Model" "kept" "[I"] ++ wsX10)
theorem iwsMX1_sign_in1 : ∀ w ∈ wsX10, w ∈ wsMX1_sign := fun _ h => List.mem_cons_of_mem _ (List.mem_append_right _ h)
theorem gdwsMX1_sign : wsMX1_sign.all goodWord = true := gdC rfl (gdA (by decide +kernel : ([.fieldLink RX1 26 "OptimaWorks$Model" "kept" "[I"] : List Cond).all goodWord = true) gdwsX10)
set_option maxHeartbeats 4000000 in
set_option maxRecDepth 100000 in
/-- the sign -/
theorem m_X1_sign (l : Launch) (dC : Nat → ClassId) (dI : Nat → Nat → Nat) (hM : Nat → Nat) (aM : Nat → Nat) (kM : Nat → ClassId) (iM_stands : Int32) (iM_variables : Int32) (iM_rows : Int32) (iM_goals : Int32) (iM_differents : Int32) (iM_cases : Int32) (fM_from : Nat → Int32) (fM_to : Nat → Int32) (fM_whole : Nat → Int32) (fM_ways : Nat → Int32) (iM_plainRows : Int32) (fM_plainRow : Nat → Int32) (fM_kept : Nat → Int32) (fM_goalOver : Nat → Int32) (fM_goalUnder : Nat → Int32) (fM_goalMax : Nat → Int32) (fM_different : Nat → Int32) (p1 : Int32) (p2 : Int32) (b_iM_stands : 0 ≤ iM_stands.toInt ∧ iM_stands.toInt ≤ 1) (b_iM_variables : 0 ≤ iM_variables.toInt ∧ iM_variables.toInt ≤ 8) (b_iM_rows : 0 ≤ iM_rows.toInt ∧ iM_rows.toInt ≤ 12) (b_iM_goals : 0 ≤ iM_goals.toInt ∧ iM_goals.toInt ≤ 3) (b_iM_differents : 0 ≤ iM_differents.toInt ∧ iM_differents.toInt ≤ 8) (b_iM_cases : 0 ≤ iM_cases.toInt ∧ iM_cases.toInt ≤ 200000) (b_fM_ways : ∀ q : Nat, 0 ≤ (fM_ways q).toInt ∧ (fM_ways q).toInt ≤ 3) (b_iM_plainRows : 0 ≤ iM_plainRows.toInt ∧ iM_plainRows.toInt ≤ 12) (b_fM_plainRow : ∀ q : Nat, 0 ≤ (fM_plainRow q).toInt ∧ (fM_plainRow q).toInt ≤ 11) (b_pr : iM_plainRows.toInt ≤ iM_rows.toInt) (b_p1 : 0 ≤ p1.toInt ∧ p1.toInt ≤ 11) (b_p2 : 0 ≤ p2.toInt ∧ p2.toInt ≤ 2) (sz : Nat) : Met l yX1_sign wsMX1_sign ({ frames := 0, cells := 0, slots := 0, locals := 0 }) (va_Pc [.ref (hM 0), .int p1, .int p2] (fun U => U.heap.size = sz ∧ va_P (dC, dI) vwCl (WM hM aM kM iM_stands iM_variables iM_rows iM_goals iM_differents iM_cases fM_from fM_to fM_whole fM_ways iM_plainRows fM_plainRow fM_kept fM_goalOver fM_goalUnder fM_goalMax fM_different) U.heap ∧ va_K (dC, dI) vwCl (tM kM) U ∧ va_D (fun _ => True) (WM hM aM kM iM_stands iM_variables iM_rows iM_goals iM_differents iM_cases fM_from fM_to fM_whole fM_ways iM_plainRows fM_plainRow fM_kept fM_goalOver fM_goalUnder fM_goalMax fM_different))) (va_Qi (fun (r : Int32) (u : Unit) => True) (fun (u : Unit) t => va_P (dC, dI) vwCl (WM hM aM kM iM_stands iM_variables iM_rows iM_goals iM_differents iM_cases fM_from fM_to fM_whole fM_ways iM_plainRows fM_plainRow fM_kept fM_goalOver fM_goalUnder fM_goalMax fM_different) t.heap ∧ va_D (va_A (WM hM aM kM iM_stands iM_variables iM_rows iM_goals iM_differents iM_cases fM_from fM_to fM_whole fM_ways iM_plainRows fM_plainRow fM_kept fM_goalOver fM_goalUnder fM_goalMax fM_different) sz) (WM hM aM kM iM_stands iM_variables iM_rows iM_goals iM_differents iM_cases fM_from fM_to fM_whole fM_ways iM_plainRows fM_plainRow fM_kept fM_goalOver fM_goalUnder fM_goalMax fM_different)) (va_A (WM hM aM kM iM_stands iM_variables iM_rows iM_goals iM_differents iM_cases fM_from fM_to fM_whole fM_ways iM_plainRows fM_plainRow fM_kept fM_goalOver fM_goalUnder fM_goalMax fM_different) sz)) 0 0 (va_A (WM hM aM kM iM_stands iM_variables iM_rows iM_goals iM_differents iM_cases fM_from fM_to fM_whole fM_ways iM_plainRows fM_plainRow fM_kept fM_goalOver fM_goalUnder fM_goalMax fM_different) sz) := by
  refine Met.ofW (cc := cX1_sign) (maxL := 3) (ret := (some .int)) (by decide) rfl ?_
  intro p e s m args below meth c s₁ B hml hv
  obtain ⟨rfl, hsz, hP, hK, hD0⟩ := hv
  have hx := B.exec
  have hb := B.bytes
  have hr := B.returns
  have hts := atoms_spec (ws := wsMX1_sign) B.pre
  have hown : s.vm.findClass RX1 = some m.cls := findClass_of_methodNamed B.named
  have hlocks := B.notSynchronized
  subst hsz
  have hD := hD0.self (sz := s.heap.size)
  generalize hAe : va_A (WM hM aM kM iM_stands iM_variables iM_rows iM_goals iM_differents iM_cases fM_from fM_to fM_whole fM_ways iM_plainRows fM_plainRow fM_kept fM_goalOver fM_goalUnder fM_goalMax fM_different) s.heap.size = A at hD ⊢
  have hA : ∀ q : Nat, s.heap.size ≤ q → A q := fun q h => by rw [← hAe]; exact Or.inr h
  have hS : va_S A s.heap s.heap [] := va_S.rf
  have hl := lv_entry ([.ref (hM 0), .int p1, .int p2]) (n := 3) (Nat.le_of_ble_eq_true rfl)
  rw [lg_entry_eq]
  generalize (lg_sl ([.ref (hM 0), .int p1, .int p2]) ++ List.replicate (3 - (lg_sl ([.ref (hM 0), .int p1, .int p2])).length) Slot.unset).toArray = ls at hl ⊢
  have hl : lv_has ls 3 [(0, .ref (hM 0)), (1, .int p1), (2, .int p2)] := hl
  refine lv_aload_n hx hb dX1_sign_0 rfl (lv_at hl 0 rfl) ?_
  refine va_get (D := (dC, dI)) (ci := 1) (v := .ref (aM 5)) (C := RX1) (T := TX1) (N := 17) hx hb hts iwsMX1_sign_in1 hown hK hP 0 rfl rfl 12 (by decide) (hts (.fieldLink RX1 26 "OptimaWorks$Model" "kept" "[I") (by decide +kernel)) (fun _ h9 => h9) rfl dX1_sign_1 ?_
  refine lv_iload_n hx hb dX1_sign_4 rfl (lv_at hl 1 rfl) ?_
  refine lv_iconst (v := 3) hx hb dX1_sign_5 (by decide) ?_
  refine lv_imul hx hb dX1_sign_6 ?_
  refine lv_topi (fun y1 hy1 => ?_)
  obtain rfl : (iI (p1.toInt * 3)) = y1 := (hy1.trans (iI_mul2 (iI_of _) (by decide : (3 : Int32) = iI 3))).symm
  refine lv_iload_n hx hb dX1_sign_7 rfl (lv_at hl 2 rfl) ?_
  refine lv_iadd hx hb dX1_sign_8 ?_
  refine lv_topi (fun y2 hy2 => ?_)
  obtain rfl : (iI ((p1.toInt * 3) + p2.toInt)) = y2 := (hy2.trans (iI_add2 rfl (iI_of _))).symm
  refine lv_bipush (v := 10) hx hb dX1_sign_9 (by decide) ?_
  refine lv_imul hx hb dX1_sign_11 ?_
  refine lv_topi (fun y3 hy3 => ?_)
  obtain rfl : (iI (((p1.toInt * 3) + p2.toInt) * 10)) = y3 := (hy3.trans (iI_mul2 rfl (by decide : (10 : Int32) = iI 10))).symm
  refine lv_bipush (v := 9) hx hb dX1_sign_12 (by decide) ?_
  refine lv_iadd hx hb dX1_sign_14 ?_
  refine lv_topi (fun y4 hy4 => ?_)
  obtain rfl : (iI ((((p1.toInt * 3) + p2.toInt) * 10) + 9)) = y4 := (hy4.trans (iI_add2 rfl (by decide : (9 : Int32) = iI 9))).symm
  refine va_iald (cA := kM 5) (n := 360) (f := fM_kept) hx hb hK hP 6 5 rfl rfl (vp_iI (Int.le_trans (by decide) (Int.add_le_add (Int.mul_le_mul_of_nonneg_right (Int.add_le_add (Int.mul_le_mul_of_nonneg_right (b_p1.1) (by decide)) (b_p2.1)) (by decide)) (Int.le_refl _))) (Int.lt_of_le_of_lt (Int.add_le_add (Int.mul_le_mul_of_nonneg_right (Int.add_le_add (Int.mul_le_mul_of_nonneg_right (b_p1.2) (by decide)) (b_p2.2)) (by decide)) (Int.le_refl _)) (by decide)) (by decide)) dX1_sign_15 ?_
  refine lv_topi (fun v5 hv5 => ?_)
  clear hv5
  refine W.widen (k := 0) (n := 0) (by decide +kernel) (by decide +kernel) ?_
  exact W.iret (v := v5) hx hb hr (fun t9_ ht hW => ⟨⟨v5, (), rfl, trivial, by rw [ht]; exact hP, hD⟩, hS.F ht⟩) hS.2.2 dX1_sign_16
theorem dX1_clearWay_0 : decode cX1_clearWay 0 = .ok (.iload_n 1, 1) := dk_27 (by decide +kernel)
theorem dX1_clearWay_1 : decode cX1_clearWay 1 = .ok (.iconst 3, 1) := dk_6 (by decide +kernel)
theorem dX1_clearWay_2 : decode cX1_clearWay 2 = .ok (.imul, 1) := dk_104 (by decide +kernel)
theorem dX1_clearWay_3 : decode cX1_clearWay 3 = .ok (.iload_n 2, 1) := dk_28 (by decide +kernel)
theorem dX1_clearWay_4 : decode cX1_clearWay 4 = .ok (.iadd, 1) := dk_96 (by decide +kernel)
theorem dX1_clearWay_5 : decode cX1_clearWay 5 = .ok (.bipush 10, 2) := dk_16 (by decide +kernel)
theorem dX1_clearWay_7 : decode cX1_clearWay 7 = .ok (.imul, 1) := dk_104 (by decide +kernel)
theorem dX1_clearWay_8 : decode cX1_clearWay 8 = .ok (.istore_n 3, 1) := dk_62 (by decide +kernel)
theorem dX1_clearWay_9 : decode cX1_clearWay 9 = .ok (.iload_n 3, 1) := dk_29 (by decide +kernel)
theorem dX1_clearWay_10 : decode cX1_clearWay 10 = .ok (.istore 4, 2) := dk_54 (by decide +kernel)
theorem dX1_clearWay_12 : decode cX1_clearWay 12 = .ok (.iload 4, 2) := dk_21 (by decide +kernel)
theorem dX1_clearWay_14 : decode cX1_clearWay 14 = .ok (.iload_n 3, 1) := dk_29 (by decide +kernel)
theorem dX1_clearWay_15 : decode cX1_clearWay 15 = .ok (.bipush 10, 2) := dk_16 (by decide +kernel)
theorem dX1_clearWay_17 : decode cX1_clearWay 17 = .ok (.iadd, 1) := dk_96 (by decide +kernel)
theorem dX1_clearWay_18 : decode cX1_clearWay 18 = .ok (.if_icmp .ge 17, 3) := dk_162 (by decide +kernel)
theorem dX1_clearWay_21 : decode cX1_clearWay 21 = .ok (.aload_n 0, 1) := dk_42 (by decide +kernel)
theorem dX1_clearWay_22 : decode cX1_clearWay 22 = .ok (.getfield 26, 3) := dk_180 (by decide +kernel)
theorem dX1_clearWay_25 : decode cX1_clearWay 25 = .ok (.iload 4, 2) := dk_21 (by decide +kernel)
theorem dX1_clearWay_27 : decode cX1_clearWay 27 = .ok (.iconst 0, 1) := dk_3 (by decide +kernel)
theorem dX1_clearWay_28 : decode cX1_clearWay 28 = .ok (.iastore, 1) := dk_79 (by decide +kernel)
theorem dX1_clearWay_29 : decode cX1_clearWay 29 = .ok (.iinc 4 1, 3) := dk_132 (by decide +kernel)
theorem dX1_clearWay_32 : decode cX1_clearWay 32 = .ok (.goto (-20), 3) := dk_167 (by decide +kernel)
theorem dX1_clearWay_35 : decode cX1_clearWay 35 = .ok (.return_, 1) := dk_177 (by decide +kernel)
def wsMX1_clearWay : List Cond := .code yX1_clearWay cX1_clearWay 5 none :: ([.fieldLink RX1 26 "OptimaWorks$Model" "kept" "[I"] ++ wsX10)
theorem iwsMX1_clearWay_in1 : ∀ w ∈ wsX10, w ∈ wsMX1_clearWay := fun _ h => List.mem_cons_of_mem _ (List.mem_append_right _ h)
theorem gdwsMX1_clearWay : wsMX1_clearWay.all goodWord = true := gdC rfl (gdA (by decide +kernel : ([.fieldLink RX1 26 "OptimaWorks$Model" "kept" "[I"] : List Cond).all goodWord = true) gdwsX10)
set_option maxHeartbeats 4000000 in
set_option maxRecDepth 100000 in
/-- a way of noughts -/
theorem m_X1_clearWay (l : Launch) (dC : Nat → ClassId) (dI : Nat → Nat → Nat) (hM : Nat → Nat) (aM : Nat → Nat) (kM : Nat → ClassId) (iM_stands : Int32) (iM_variables : Int32) (iM_rows : Int32) (iM_goals : Int32) (iM_differents : Int32) (iM_cases : Int32) (fM_from : Nat → Int32) (fM_to : Nat → Int32) (fM_whole : Nat → Int32) (fM_ways : Nat → Int32) (iM_plainRows : Int32) (fM_plainRow : Nat → Int32) (fM_kept : Nat → Int32) (fM_goalOver : Nat → Int32) (fM_goalUnder : Nat → Int32) (fM_goalMax : Nat → Int32) (fM_different : Nat → Int32) (p1 : Int32) (p2 : Int32) (b_iM_stands : 0 ≤ iM_stands.toInt ∧ iM_stands.toInt ≤ 1) (b_iM_variables : 0 ≤ iM_variables.toInt ∧ iM_variables.toInt ≤ 8) (b_iM_rows : 0 ≤ iM_rows.toInt ∧ iM_rows.toInt ≤ 12) (b_iM_goals : 0 ≤ iM_goals.toInt ∧ iM_goals.toInt ≤ 3) (b_iM_differents : 0 ≤ iM_differents.toInt ∧ iM_differents.toInt ≤ 8) (b_iM_cases : 0 ≤ iM_cases.toInt ∧ iM_cases.toInt ≤ 200000) (b_fM_ways : ∀ q : Nat, 0 ≤ (fM_ways q).toInt ∧ (fM_ways q).toInt ≤ 3) (b_iM_plainRows : 0 ≤ iM_plainRows.toInt ∧ iM_plainRows.toInt ≤ 12) (b_fM_plainRow : ∀ q : Nat, 0 ≤ (fM_plainRow q).toInt ∧ (fM_plainRow q).toInt ≤ 11) (b_pr : iM_plainRows.toInt ≤ iM_rows.toInt) (b_p1 : 0 ≤ p1.toInt ∧ p1.toInt ≤ 11) (b_p2 : 0 ≤ p2.toInt ∧ p2.toInt ≤ 2) (sz : Nat) : Met l yX1_clearWay wsMX1_clearWay ({ frames := 0, cells := 0, slots := 0, locals := 0 }) (va_Pc [.ref (hM 0), .int p1, .int p2] (fun U => U.heap.size = sz ∧ va_P (dC, dI) vwCl (WM hM aM kM iM_stands iM_variables iM_rows iM_goals iM_differents iM_cases fM_from fM_to fM_whole fM_ways iM_plainRows fM_plainRow fM_kept fM_goalOver fM_goalUnder fM_goalMax fM_different) U.heap ∧ va_K (dC, dI) vwCl (tM kM) U ∧ va_D (fun _ => True) (WM hM aM kM iM_stands iM_variables iM_rows iM_goals iM_differents iM_cases fM_from fM_to fM_whole fM_ways iM_plainRows fM_plainRow fM_kept fM_goalOver fM_goalUnder fM_goalMax fM_different))) (va_Qv (fun (u : Nat → Int32) => True) (fun (u : Nat → Int32) t => va_P (dC, dI) vwCl (WM hM aM kM iM_stands iM_variables iM_rows iM_goals iM_differents iM_cases fM_from fM_to fM_whole fM_ways iM_plainRows fM_plainRow u fM_goalOver fM_goalUnder fM_goalMax fM_different) t.heap ∧ va_D (va_A (WM hM aM kM iM_stands iM_variables iM_rows iM_goals iM_differents iM_cases fM_from fM_to fM_whole fM_ways iM_plainRows fM_plainRow fM_kept fM_goalOver fM_goalUnder fM_goalMax fM_different) sz) (WM hM aM kM iM_stands iM_variables iM_rows iM_goals iM_differents iM_cases fM_from fM_to fM_whole fM_ways iM_plainRows fM_plainRow u fM_goalOver fM_goalUnder fM_goalMax fM_different)) (va_A (WM hM aM kM iM_stands iM_variables iM_rows iM_goals iM_differents iM_cases fM_from fM_to fM_whole fM_ways iM_plainRows fM_plainRow fM_kept fM_goalOver fM_goalUnder fM_goalMax fM_different) sz)) 0 0 (va_A (WM hM aM kM iM_stands iM_variables iM_rows iM_goals iM_differents iM_cases fM_from fM_to fM_whole fM_ways iM_plainRows fM_plainRow fM_kept fM_goalOver fM_goalUnder fM_goalMax fM_different) sz) := by
  refine Met.ofW (cc := cX1_clearWay) (maxL := 5) (ret := none) (by decide) rfl ?_
  intro p e s m args below meth c s₁ B hml hv
  obtain ⟨rfl, hsz, hP, hK, hD0⟩ := hv
  have hx := B.exec
  have hb := B.bytes
  have hr := B.returns
  have hts := atoms_spec (ws := wsMX1_clearWay) B.pre
  have hown : s.vm.findClass RX1 = some m.cls := findClass_of_methodNamed B.named
  have hlocks := B.notSynchronized
  subst hsz
  have hD := hD0.self (sz := s.heap.size)
  generalize hAe : va_A (WM hM aM kM iM_stands iM_variables iM_rows iM_goals iM_differents iM_cases fM_from fM_to fM_whole fM_ways iM_plainRows fM_plainRow fM_kept fM_goalOver fM_goalUnder fM_goalMax fM_different) s.heap.size = A at hD ⊢
  have hA : ∀ q : Nat, s.heap.size ≤ q → A q := fun q h => by rw [← hAe]; exact Or.inr h
  have hS : va_S A s.heap s.heap [] := va_S.rf
  have hl := lv_entry ([.ref (hM 0), .int p1, .int p2]) (n := 5) (Nat.le_of_ble_eq_true rfl)
  rw [lg_entry_eq]
  generalize (lg_sl ([.ref (hM 0), .int p1, .int p2]) ++ List.replicate (5 - (lg_sl ([.ref (hM 0), .int p1, .int p2])).length) Slot.unset).toArray = ls at hl ⊢
  have hl : lv_has ls 5 [(0, .ref (hM 0)), (1, .int p1), (2, .int p2)] := hl
  refine lv_iload_n hx hb dX1_clearWay_0 rfl (lv_at hl 1 rfl) ?_
  refine lv_iconst (v := 3) hx hb dX1_clearWay_1 (by decide) ?_
  refine lv_imul hx hb dX1_clearWay_2 ?_
  refine lv_topi (fun y1 hy1 => ?_)
  obtain rfl : (iI (p1.toInt * 3)) = y1 := (hy1.trans (iI_mul2 (iI_of _) (by decide : (3 : Int32) = iI 3))).symm
  refine lv_iload_n hx hb dX1_clearWay_3 rfl (lv_at hl 2 rfl) ?_
  refine lv_iadd hx hb dX1_clearWay_4 ?_
  refine lv_topi (fun y2 hy2 => ?_)
  obtain rfl : (iI ((p1.toInt * 3) + p2.toInt)) = y2 := (hy2.trans (iI_add2 rfl (iI_of _))).symm
  refine lv_bipush (v := 10) hx hb dX1_clearWay_5 (by decide) ?_
  refine lv_imul hx hb dX1_clearWay_7 ?_
  refine lv_topi (fun y3 hy3 => ?_)
  obtain rfl : (iI (((p1.toInt * 3) + p2.toInt) * 10)) = y3 := (hy3.trans (iI_mul2 rfl (by decide : (10 : Int32) = iI 10))).symm
  refine lv_istore_n hx hb dX1_clearWay_8 rfl hl (by decide) rfl (fun ls (hl : lv_has ls _ ([(3, .int (iI (((p1.toInt * 3) + p2.toInt) * 10))), (0, .ref (hM 0)), (1, .int p1), (2, .int p2)])) => ?_)
  refine lv_iload_n hx hb dX1_clearWay_9 rfl (lv_at hl 0 rfl) ?_
  refine lv_istore hx hb dX1_clearWay_10 hl (by decide) rfl (fun ls (hl : lv_has ls _ ([(4, .int (iI (((p1.toInt * 3) + p2.toInt) * 10))), (3, .int (iI (((p1.toInt * 3) + p2.toInt) * 10))), (0, .ref (hM 0)), (1, .int p1), (2, .int p2)])) => ?_)
  have hl : lv_has _ _ ([(4, .int (iI (((p1.toInt * 3) + p2.toInt) * 10))), (3, .int (iI (((p1.toInt * 3) + p2.toInt) * 10))), (0, .ref (hM 0)), (1, .int p1), (2, .int p2)]) := lv_sub hl [0, 1, 2, 3, 4] rfl
  refine (fun (loop : ∀ (n9 : Nat) (fM_kept_x12 : Nat → Int32) (l4_x12 : Int32) (H : Heap) (locs : List Loc) (ls : Array Slot), (0 ≤ l4_x12.toInt ∧ l4_x12.toInt ≤ 360) → (360 - l4_x12.toInt < ((n9 : Nat) : Int)) → va_P (dC, dI) vwCl (WM hM aM kM iM_stands iM_variables iM_rows iM_goals iM_differents iM_cases fM_from fM_to fM_whole fM_ways iM_plainRows fM_plainRow fM_kept_x12 fM_goalOver fM_goalUnder fM_goalMax fM_different) H → va_D A (WM hM aM kM iM_stands iM_variables iM_rows iM_goals iM_differents iM_cases fM_from fM_to fM_whole fM_ways iM_plainRows fM_plainRow fM_kept_x12 fM_goalOver fM_goalUnder fM_goalMax fM_different) → va_S A s.heap H locs → lv_has ls 5 [(4, .int l4_x12), (3, .int (iI (((p1.toInt * 3) + p2.toInt) * 10))), (0, .ref (hM 0)), (1, .int p1), (2, .int p2)] → W p l e _ s m _ below meth c H locs 0 0 _ (F0 m 12 ls [])) => loop (361) fM_kept (iI (((p1.toInt * 3) + p2.toInt) * 10)) _ _ _ (iI_rng (Int.le_trans (by decide) (Int.mul_le_mul_of_nonneg_right (Int.add_le_add (Int.mul_le_mul_of_nonneg_right (b_p1.1) (by decide)) (b_p2.1)) (by decide))) (Int.le_trans (Int.mul_le_mul_of_nonneg_right (Int.add_le_add (Int.mul_le_mul_of_nonneg_right (b_p1.2) (by decide)) (b_p2.2)) (by decide)) (by decide)) (by decide) (by decide)) ((by have e9 : ((iI (((p1.toInt * 3) + p2.toInt) * 10))).toInt = (((p1.toInt * 3) + p2.toInt) * 10) := (iI_t (Int.le_trans (by decide) (Int.mul_le_mul_of_nonneg_right (Int.add_le_add (Int.mul_le_mul_of_nonneg_right (b_p1.1) (by decide)) (b_p2.1)) (by decide))) (Int.le_trans (Int.mul_le_mul_of_nonneg_right (Int.add_le_add (Int.mul_le_mul_of_nonneg_right (b_p1.2) (by decide)) (b_p2.2)) (by decide)) (by decide))); omega)) hP hD hS hl) ?_
  intro n9
  induction n9 with
  | zero => intro fM_kept_x12 l4_x12 H locs ls b_l4_x12 hf9; exact False.elim (by omega)
  | succ n9 ihx12 =>
    intro fM_kept_x12 l4_x12 H locs ls b_l4_x12 hfx12 hP hD hS hl
    refine lv_iload hx hb dX1_clearWay_12 (lv_at hl 0 rfl) ?_
    refine lv_iload_n hx hb dX1_clearWay_14 rfl (lv_at hl 1 rfl) ?_
    refine lv_bipush (v := 10) hx hb dX1_clearWay_15 (by decide) ?_
    refine lv_iadd hx hb dX1_clearWay_17 ?_
    refine lv_topi (fun y10 hy10 => ?_)
    obtain rfl : (iI ((((p1.toInt * 3) + p2.toInt) * 10) + 10)) = y10 := (hy10.trans (iI_add2 rfl (by decide : (10 : Int32) = iI 10))).symm
    refine lv_icmp_ge (tgt := 35) hx hb dX1_clearWay_18 (by decide) (fun c_18 => ?_) (fun c_18 => ?_)
    · have t_18 : l4_x12.toInt ≥ ((((p1.toInt * 3) + p2.toInt) * 10) + 10) := toI_ge c_18 rfl (iI_t (Int.le_trans (by decide) (Int.add_le_add (Int.mul_le_mul_of_nonneg_right (Int.add_le_add (Int.mul_le_mul_of_nonneg_right (b_p1.1) (by decide)) (b_p2.1)) (by decide)) (Int.le_refl _))) (Int.le_trans (Int.add_le_add (Int.mul_le_mul_of_nonneg_right (Int.add_le_add (Int.mul_le_mul_of_nonneg_right (b_p1.2) (by decide)) (b_p2.2)) (by decide)) (Int.le_refl _)) (by decide)))
      refine W.widen (k := 0) (n := 0) (by decide +kernel) (by decide +kernel) ?_
      exact W.vret hx hb hr (fun t9_ ht hW => ⟨⟨fM_kept_x12, rfl, trivial, by rw [ht]; exact hP, hD⟩, hS.F ht⟩) hS.2.2 dX1_clearWay_35
    · have t_18 : ¬ l4_x12.toInt ≥ ((((p1.toInt * 3) + p2.toInt) * 10) + 10) := toI_nge c_18 rfl (iI_t (Int.le_trans (by decide) (Int.add_le_add (Int.mul_le_mul_of_nonneg_right (Int.add_le_add (Int.mul_le_mul_of_nonneg_right (b_p1.1) (by decide)) (b_p2.1)) (by decide)) (Int.le_refl _))) (Int.le_trans (Int.add_le_add (Int.mul_le_mul_of_nonneg_right (Int.add_le_add (Int.mul_le_mul_of_nonneg_right (b_p1.2) (by decide)) (b_p2.2)) (by decide)) (Int.le_refl _)) (by decide)))
      refine lv_aload_n hx hb dX1_clearWay_21 rfl (lv_at hl 2 rfl) ?_
      refine va_get (D := (dC, dI)) (ci := 1) (v := .ref (aM 5)) (C := RX1) (T := TX1) (N := 17) hx hb hts iwsMX1_clearWay_in1 hown hK hP 0 rfl rfl 12 (by decide) (hts (.fieldLink RX1 26 "OptimaWorks$Model" "kept" "[I") (by decide +kernel)) (fun _ h9 => h9) rfl dX1_clearWay_22 ?_
      refine lv_iload hx hb dX1_clearWay_25 (lv_at hl 0 rfl) ?_
      refine lv_iconst (v := 0) hx hb dX1_clearWay_27 (by decide) ?_
      refine va_iast (cA := kM 5) (n := 360) (f := fM_kept_x12) hx hb hK hP hD hS 6 5 rfl rfl (vp_in_iff.mpr ⟨b_l4_x12.1, (by omega)⟩) dX1_clearWay_28 (fun H locs hP hD hS => ?_)
      obtain ⟨u12, hu12⟩ : ∃ f9, f9 = upd fM_kept_x12 (l4_x12).toNatClampNeg (0 : Int32) := ⟨_, rfl⟩
      have hP : va_P (dC, dI) vwCl (WM hM aM kM iM_stands iM_variables iM_rows iM_goals iM_differents iM_cases fM_from fM_to fM_whole fM_ways iM_plainRows fM_plainRow u12 fM_goalOver fM_goalUnder fM_goalMax fM_different) H := by rw [hu12]; exact hP
      have hD : va_D A (WM hM aM kM iM_stands iM_variables iM_rows iM_goals iM_differents iM_cases fM_from fM_to fM_whole fM_ways iM_plainRows fM_plainRow u12 fM_goalOver fM_goalUnder fM_goalMax fM_different) := by rw [hu12]; exact hD
      clear hu12
      refine lv_iinc (v := (iI (l4_x12.toInt + 1))) hx hb dX1_clearWay_29 hl (k := 0) rfl (iI_add2 (iI_of _) (by decide : (1 : Int32) = iI 1)) (by decide) rfl (fun ls (hl : lv_has ls _ ([(4, .int (iI (l4_x12.toInt + 1))), (3, .int (iI (((p1.toInt * 3) + p2.toInt) * 10))), (0, .ref (hM 0)), (1, .int p1), (2, .int p2)])) => ?_)
      refine lv_goto (tgt := 12) hx hb dX1_clearWay_32 (by decide) ?_
      have hl : lv_has _ _ ([(4, .int (iI (l4_x12.toInt + 1))), (3, .int (iI (((p1.toInt * 3) + p2.toInt) * 10))), (0, .ref (hM 0)), (1, .int p1), (2, .int p2)]) := lv_sub hl [0, 1, 2, 3, 4] rfl
      exact ihx12 u12 (iI (l4_x12.toInt + 1)) _ _ _ (iI_rng (Int.le_trans (by decide) (Int.add_le_add (b_l4_x12.1) (Int.le_refl _))) (by omega) (by decide) (by decide)) (by have e9 : ((iI (l4_x12.toInt + 1))).toInt = (l4_x12.toInt + 1) := (iI_t (Int.le_trans (by decide) (Int.add_le_add (b_l4_x12.1) (Int.le_refl _))) (Int.le_trans (Int.add_le_add (b_l4_x12.2) (Int.le_refl _)) (by decide))); omega) hP hD hS hl
theorem dX1_keepNumber_0 : decode cX1_keepNumber 0 = .ok (.aload_n 0, 1) := dk_42 (by decide +kernel)
theorem dX1_keepNumber_1 : decode cX1_keepNumber 1 = .ok (.getfield 26, 3) := dk_180 (by decide +kernel)
theorem dX1_keepNumber_4 : decode cX1_keepNumber 4 = .ok (.iload_n 1, 1) := dk_27 (by decide +kernel)
theorem dX1_keepNumber_5 : decode cX1_keepNumber 5 = .ok (.iconst 3, 1) := dk_6 (by decide +kernel)
theorem dX1_keepNumber_6 : decode cX1_keepNumber 6 = .ok (.imul, 1) := dk_104 (by decide +kernel)
theorem dX1_keepNumber_7 : decode cX1_keepNumber 7 = .ok (.iload_n 2, 1) := dk_28 (by decide +kernel)
theorem dX1_keepNumber_8 : decode cX1_keepNumber 8 = .ok (.iadd, 1) := dk_96 (by decide +kernel)
theorem dX1_keepNumber_9 : decode cX1_keepNumber 9 = .ok (.bipush 10, 2) := dk_16 (by decide +kernel)
theorem dX1_keepNumber_11 : decode cX1_keepNumber 11 = .ok (.imul, 1) := dk_104 (by decide +kernel)
theorem dX1_keepNumber_12 : decode cX1_keepNumber 12 = .ok (.iload_n 3, 1) := dk_29 (by decide +kernel)
theorem dX1_keepNumber_13 : decode cX1_keepNumber 13 = .ok (.iadd, 1) := dk_96 (by decide +kernel)
theorem dX1_keepNumber_14 : decode cX1_keepNumber 14 = .ok (.iload 4, 2) := dk_21 (by decide +kernel)
theorem dX1_keepNumber_16 : decode cX1_keepNumber 16 = .ok (.iastore, 1) := dk_79 (by decide +kernel)
theorem dX1_keepNumber_17 : decode cX1_keepNumber 17 = .ok (.return_, 1) := dk_177 (by decide +kernel)
def wsMX1_keepNumber : List Cond := .code yX1_keepNumber cX1_keepNumber 5 none :: ([.fieldLink RX1 26 "OptimaWorks$Model" "kept" "[I"] ++ wsX10)
theorem iwsMX1_keepNumber_in1 : ∀ w ∈ wsX10, w ∈ wsMX1_keepNumber := fun _ h => List.mem_cons_of_mem _ (List.mem_append_right _ h)
theorem gdwsMX1_keepNumber : wsMX1_keepNumber.all goodWord = true := gdC rfl (gdA (by decide +kernel : ([.fieldLink RX1 26 "OptimaWorks$Model" "kept" "[I"] : List Cond).all goodWord = true) gdwsX10)
set_option maxHeartbeats 4000000 in
set_option maxRecDepth 100000 in
/-- a number is kept -/
theorem m_X1_keepNumber (l : Launch) (dC : Nat → ClassId) (dI : Nat → Nat → Nat) (hM : Nat → Nat) (aM : Nat → Nat) (kM : Nat → ClassId) (iM_stands : Int32) (iM_variables : Int32) (iM_rows : Int32) (iM_goals : Int32) (iM_differents : Int32) (iM_cases : Int32) (fM_from : Nat → Int32) (fM_to : Nat → Int32) (fM_whole : Nat → Int32) (fM_ways : Nat → Int32) (iM_plainRows : Int32) (fM_plainRow : Nat → Int32) (fM_kept : Nat → Int32) (fM_goalOver : Nat → Int32) (fM_goalUnder : Nat → Int32) (fM_goalMax : Nat → Int32) (fM_different : Nat → Int32) (p1 : Int32) (p2 : Int32) (p3 : Int32) (p4 : Int32) (b_iM_stands : 0 ≤ iM_stands.toInt ∧ iM_stands.toInt ≤ 1) (b_iM_variables : 0 ≤ iM_variables.toInt ∧ iM_variables.toInt ≤ 8) (b_iM_rows : 0 ≤ iM_rows.toInt ∧ iM_rows.toInt ≤ 12) (b_iM_goals : 0 ≤ iM_goals.toInt ∧ iM_goals.toInt ≤ 3) (b_iM_differents : 0 ≤ iM_differents.toInt ∧ iM_differents.toInt ≤ 8) (b_iM_cases : 0 ≤ iM_cases.toInt ∧ iM_cases.toInt ≤ 200000) (b_fM_ways : ∀ q : Nat, 0 ≤ (fM_ways q).toInt ∧ (fM_ways q).toInt ≤ 3) (b_iM_plainRows : 0 ≤ iM_plainRows.toInt ∧ iM_plainRows.toInt ≤ 12) (b_fM_plainRow : ∀ q : Nat, 0 ≤ (fM_plainRow q).toInt ∧ (fM_plainRow q).toInt ≤ 11) (b_pr : iM_plainRows.toInt ≤ iM_rows.toInt) (b_p1 : 0 ≤ p1.toInt ∧ p1.toInt ≤ 11) (b_p2 : 0 ≤ p2.toInt ∧ p2.toInt ≤ 2) (b_p3 : 0 ≤ p3.toInt ∧ p3.toInt ≤ 8) (sz : Nat) : Met l yX1_keepNumber wsMX1_keepNumber ({ frames := 0, cells := 0, slots := 0, locals := 0 }) (va_Pc [.ref (hM 0), .int p1, .int p2, .int p3, .int p4] (fun U => U.heap.size = sz ∧ va_P (dC, dI) vwCl (WM hM aM kM iM_stands iM_variables iM_rows iM_goals iM_differents iM_cases fM_from fM_to fM_whole fM_ways iM_plainRows fM_plainRow fM_kept fM_goalOver fM_goalUnder fM_goalMax fM_different) U.heap ∧ va_K (dC, dI) vwCl (tM kM) U ∧ va_D (fun _ => True) (WM hM aM kM iM_stands iM_variables iM_rows iM_goals iM_differents iM_cases fM_from fM_to fM_whole fM_ways iM_plainRows fM_plainRow fM_kept fM_goalOver fM_goalUnder fM_goalMax fM_different))) (va_Qv (fun (u : Nat → Int32) => True) (fun (u : Nat → Int32) t => va_P (dC, dI) vwCl (WM hM aM kM iM_stands iM_variables iM_rows iM_goals iM_differents iM_cases fM_from fM_to fM_whole fM_ways iM_plainRows fM_plainRow u fM_goalOver fM_goalUnder fM_goalMax fM_different) t.heap ∧ va_D (va_A (WM hM aM kM iM_stands iM_variables iM_rows iM_goals iM_differents iM_cases fM_from fM_to fM_whole fM_ways iM_plainRows fM_plainRow fM_kept fM_goalOver fM_goalUnder fM_goalMax fM_different) sz) (WM hM aM kM iM_stands iM_variables iM_rows iM_goals iM_differents iM_cases fM_from fM_to fM_whole fM_ways iM_plainRows fM_plainRow u fM_goalOver fM_goalUnder fM_goalMax fM_different)) (va_A (WM hM aM kM iM_stands iM_variables iM_rows iM_goals iM_differents iM_cases fM_from fM_to fM_whole fM_ways iM_plainRows fM_plainRow fM_kept fM_goalOver fM_goalUnder fM_goalMax fM_different) sz)) 0 0 (va_A (WM hM aM kM iM_stands iM_variables iM_rows iM_goals iM_differents iM_cases fM_from fM_to fM_whole fM_ways iM_plainRows fM_plainRow fM_kept fM_goalOver fM_goalUnder fM_goalMax fM_different) sz) := by
  refine Met.ofW (cc := cX1_keepNumber) (maxL := 5) (ret := none) (by decide) rfl ?_
  intro p e s m args below meth c s₁ B hml hv
  obtain ⟨rfl, hsz, hP, hK, hD0⟩ := hv
  have hx := B.exec
  have hb := B.bytes
  have hr := B.returns
  have hts := atoms_spec (ws := wsMX1_keepNumber) B.pre
  have hown : s.vm.findClass RX1 = some m.cls := findClass_of_methodNamed B.named
  have hlocks := B.notSynchronized
  subst hsz
  have hD := hD0.self (sz := s.heap.size)
  generalize hAe : va_A (WM hM aM kM iM_stands iM_variables iM_rows iM_goals iM_differents iM_cases fM_from fM_to fM_whole fM_ways iM_plainRows fM_plainRow fM_kept fM_goalOver fM_goalUnder fM_goalMax fM_different) s.heap.size = A at hD ⊢
  have hA : ∀ q : Nat, s.heap.size ≤ q → A q := fun q h => by rw [← hAe]; exact Or.inr h
  have hS : va_S A s.heap s.heap [] := va_S.rf
  have hl := lv_entry ([.ref (hM 0), .int p1, .int p2, .int p3, .int p4]) (n := 5) (Nat.le_of_ble_eq_true rfl)
  rw [lg_entry_eq]
  generalize (lg_sl ([.ref (hM 0), .int p1, .int p2, .int p3, .int p4]) ++ List.replicate (5 - (lg_sl ([.ref (hM 0), .int p1, .int p2, .int p3, .int p4])).length) Slot.unset).toArray = ls at hl ⊢
  have hl : lv_has ls 5 [(0, .ref (hM 0)), (1, .int p1), (2, .int p2), (3, .int p3), (4, .int p4)] := hl
  refine lv_aload_n hx hb dX1_keepNumber_0 rfl (lv_at hl 0 rfl) ?_
  refine va_get (D := (dC, dI)) (ci := 1) (v := .ref (aM 5)) (C := RX1) (T := TX1) (N := 17) hx hb hts iwsMX1_keepNumber_in1 hown hK hP 0 rfl rfl 12 (by decide) (hts (.fieldLink RX1 26 "OptimaWorks$Model" "kept" "[I") (by decide +kernel)) (fun _ h9 => h9) rfl dX1_keepNumber_1 ?_
  refine lv_iload_n hx hb dX1_keepNumber_4 rfl (lv_at hl 1 rfl) ?_
  refine lv_iconst (v := 3) hx hb dX1_keepNumber_5 (by decide) ?_
  refine lv_imul hx hb dX1_keepNumber_6 ?_
  refine lv_topi (fun y1 hy1 => ?_)
  obtain rfl : (iI (p1.toInt * 3)) = y1 := (hy1.trans (iI_mul2 (iI_of _) (by decide : (3 : Int32) = iI 3))).symm
  refine lv_iload_n hx hb dX1_keepNumber_7 rfl (lv_at hl 2 rfl) ?_
  refine lv_iadd hx hb dX1_keepNumber_8 ?_
  refine lv_topi (fun y2 hy2 => ?_)
  obtain rfl : (iI ((p1.toInt * 3) + p2.toInt)) = y2 := (hy2.trans (iI_add2 rfl (iI_of _))).symm
  refine lv_bipush (v := 10) hx hb dX1_keepNumber_9 (by decide) ?_
  refine lv_imul hx hb dX1_keepNumber_11 ?_
  refine lv_topi (fun y3 hy3 => ?_)
  obtain rfl : (iI (((p1.toInt * 3) + p2.toInt) * 10)) = y3 := (hy3.trans (iI_mul2 rfl (by decide : (10 : Int32) = iI 10))).symm
  refine lv_iload_n hx hb dX1_keepNumber_12 rfl (lv_at hl 3 rfl) ?_
  refine lv_iadd hx hb dX1_keepNumber_13 ?_
  refine lv_topi (fun y4 hy4 => ?_)
  obtain rfl : (iI ((((p1.toInt * 3) + p2.toInt) * 10) + p3.toInt)) = y4 := (hy4.trans (iI_add2 rfl (iI_of _))).symm
  refine lv_iload hx hb dX1_keepNumber_14 (lv_at hl 4 rfl) ?_
  refine va_iast (cA := kM 5) (n := 360) (f := fM_kept) hx hb hK hP hD hS 6 5 rfl rfl (vp_iI (Int.le_trans (by decide) (Int.add_le_add (Int.mul_le_mul_of_nonneg_right (Int.add_le_add (Int.mul_le_mul_of_nonneg_right (b_p1.1) (by decide)) (b_p2.1)) (by decide)) (b_p3.1))) (Int.lt_of_le_of_lt (Int.add_le_add (Int.mul_le_mul_of_nonneg_right (Int.add_le_add (Int.mul_le_mul_of_nonneg_right (b_p1.2) (by decide)) (b_p2.2)) (by decide)) (b_p3.2)) (by decide)) (by decide)) dX1_keepNumber_16 (fun H locs hP hD hS => ?_)
  obtain ⟨u5, hu5⟩ : ∃ f9, f9 = upd fM_kept ((iI ((((p1.toInt * 3) + p2.toInt) * 10) + p3.toInt))).toNatClampNeg p4 := ⟨_, rfl⟩
  have hP : va_P (dC, dI) vwCl (WM hM aM kM iM_stands iM_variables iM_rows iM_goals iM_differents iM_cases fM_from fM_to fM_whole fM_ways iM_plainRows fM_plainRow u5 fM_goalOver fM_goalUnder fM_goalMax fM_different) H := by rw [hu5]; exact hP
  have hD : va_D A (WM hM aM kM iM_stands iM_variables iM_rows iM_goals iM_differents iM_cases fM_from fM_to fM_whole fM_ways iM_plainRows fM_plainRow u5 fM_goalOver fM_goalUnder fM_goalMax fM_different) := by rw [hu5]; exact hD
  clear hu5
  refine W.widen (k := 0) (n := 0) (by decide +kernel) (by decide +kernel) ?_
  exact W.vret hx hb hr (fun t9_ ht hW => ⟨⟨u5, rfl, trivial, by rw [ht]; exact hP, hD⟩, hS.F ht⟩) hS.2.2 dX1_keepNumber_17
theorem dX1_keepRight_0 : decode cX1_keepRight 0 = .ok (.iload_n 1, 1) := dk_27 (by decide +kernel)
theorem dX1_keepRight_1 : decode cX1_keepRight 1 = .ok (.iconst 3, 1) := dk_6 (by decide +kernel)
theorem dX1_keepRight_2 : decode cX1_keepRight 2 = .ok (.imul, 1) := dk_104 (by decide +kernel)
theorem dX1_keepRight_3 : decode cX1_keepRight 3 = .ok (.iload_n 2, 1) := dk_28 (by decide +kernel)
theorem dX1_keepRight_4 : decode cX1_keepRight 4 = .ok (.iadd, 1) := dk_96 (by decide +kernel)
theorem dX1_keepRight_5 : decode cX1_keepRight 5 = .ok (.bipush 10, 2) := dk_16 (by decide +kernel)
theorem dX1_keepRight_7 : decode cX1_keepRight 7 = .ok (.imul, 1) := dk_104 (by decide +kernel)
theorem dX1_keepRight_8 : decode cX1_keepRight 8 = .ok (.istore 5, 2) := dk_54 (by decide +kernel)
theorem dX1_keepRight_10 : decode cX1_keepRight 10 = .ok (.aload_n 0, 1) := dk_42 (by decide +kernel)
theorem dX1_keepRight_11 : decode cX1_keepRight 11 = .ok (.getfield 26, 3) := dk_180 (by decide +kernel)
theorem dX1_keepRight_14 : decode cX1_keepRight 14 = .ok (.iload 5, 2) := dk_21 (by decide +kernel)
theorem dX1_keepRight_16 : decode cX1_keepRight 16 = .ok (.bipush 8, 2) := dk_16 (by decide +kernel)
theorem dX1_keepRight_18 : decode cX1_keepRight 18 = .ok (.iadd, 1) := dk_96 (by decide +kernel)
theorem dX1_keepRight_19 : decode cX1_keepRight 19 = .ok (.iload_n 3, 1) := dk_29 (by decide +kernel)
theorem dX1_keepRight_20 : decode cX1_keepRight 20 = .ok (.iastore, 1) := dk_79 (by decide +kernel)
theorem dX1_keepRight_21 : decode cX1_keepRight 21 = .ok (.aload_n 0, 1) := dk_42 (by decide +kernel)
theorem dX1_keepRight_22 : decode cX1_keepRight 22 = .ok (.getfield 26, 3) := dk_180 (by decide +kernel)
theorem dX1_keepRight_25 : decode cX1_keepRight 25 = .ok (.iload 5, 2) := dk_21 (by decide +kernel)
theorem dX1_keepRight_27 : decode cX1_keepRight 27 = .ok (.bipush 9, 2) := dk_16 (by decide +kernel)
theorem dX1_keepRight_29 : decode cX1_keepRight 29 = .ok (.iadd, 1) := dk_96 (by decide +kernel)
theorem dX1_keepRight_30 : decode cX1_keepRight 30 = .ok (.iload 4, 2) := dk_21 (by decide +kernel)
theorem dX1_keepRight_32 : decode cX1_keepRight 32 = .ok (.iastore, 1) := dk_79 (by decide +kernel)
theorem dX1_keepRight_33 : decode cX1_keepRight 33 = .ok (.return_, 1) := dk_177 (by decide +kernel)
def wsMX1_keepRight : List Cond := .code yX1_keepRight cX1_keepRight 6 none :: ([.fieldLink RX1 26 "OptimaWorks$Model" "kept" "[I"] ++ wsX10)
theorem iwsMX1_keepRight_in1 : ∀ w ∈ wsX10, w ∈ wsMX1_keepRight := fun _ h => List.mem_cons_of_mem _ (List.mem_append_right _ h)
theorem gdwsMX1_keepRight : wsMX1_keepRight.all goodWord = true := gdC rfl (gdA (by decide +kernel : ([.fieldLink RX1 26 "OptimaWorks$Model" "kept" "[I"] : List Cond).all goodWord = true) gdwsX10)
theorem hm_m_X1_keepRight_0 : (.fieldLink RX1 26 "OptimaWorks$Model" "kept" "[I" : Cond) ∈ wsMX1_keepRight := by decide +kernel
set_option maxHeartbeats 4000000 in
set_option maxRecDepth 100000 in
/-- a right side is kept -/
theorem m_X1_keepRight (l : Launch) (dC : Nat → ClassId) (dI : Nat → Nat → Nat) (hM : Nat → Nat) (aM : Nat → Nat) (kM : Nat → ClassId) (iM_stands : Int32) (iM_variables : Int32) (iM_rows : Int32) (iM_goals : Int32) (iM_differents : Int32) (iM_cases : Int32) (fM_from : Nat → Int32) (fM_to : Nat → Int32) (fM_whole : Nat → Int32) (fM_ways : Nat → Int32) (iM_plainRows : Int32) (fM_plainRow : Nat → Int32) (fM_kept : Nat → Int32) (fM_goalOver : Nat → Int32) (fM_goalUnder : Nat → Int32) (fM_goalMax : Nat → Int32) (fM_different : Nat → Int32) (p1 : Int32) (p2 : Int32) (p3 : Int32) (p4 : Int32) (b_iM_stands : 0 ≤ iM_stands.toInt ∧ iM_stands.toInt ≤ 1) (b_iM_variables : 0 ≤ iM_variables.toInt ∧ iM_variables.toInt ≤ 8) (b_iM_rows : 0 ≤ iM_rows.toInt ∧ iM_rows.toInt ≤ 12) (b_iM_goals : 0 ≤ iM_goals.toInt ∧ iM_goals.toInt ≤ 3) (b_iM_differents : 0 ≤ iM_differents.toInt ∧ iM_differents.toInt ≤ 8) (b_iM_cases : 0 ≤ iM_cases.toInt ∧ iM_cases.toInt ≤ 200000) (b_fM_ways : ∀ q : Nat, 0 ≤ (fM_ways q).toInt ∧ (fM_ways q).toInt ≤ 3) (b_iM_plainRows : 0 ≤ iM_plainRows.toInt ∧ iM_plainRows.toInt ≤ 12) (b_fM_plainRow : ∀ q : Nat, 0 ≤ (fM_plainRow q).toInt ∧ (fM_plainRow q).toInt ≤ 11) (b_pr : iM_plainRows.toInt ≤ iM_rows.toInt) (b_p1 : 0 ≤ p1.toInt ∧ p1.toInt ≤ 11) (b_p2 : 0 ≤ p2.toInt ∧ p2.toInt ≤ 2) (sz : Nat) : Met l yX1_keepRight wsMX1_keepRight ({ frames := 0, cells := 0, slots := 0, locals := 0 }) (va_Pc [.ref (hM 0), .int p1, .int p2, .int p3, .int p4] (fun U => U.heap.size = sz ∧ va_P (dC, dI) vwCl (WM hM aM kM iM_stands iM_variables iM_rows iM_goals iM_differents iM_cases fM_from fM_to fM_whole fM_ways iM_plainRows fM_plainRow fM_kept fM_goalOver fM_goalUnder fM_goalMax fM_different) U.heap ∧ va_K (dC, dI) vwCl (tM kM) U ∧ va_D (fun _ => True) (WM hM aM kM iM_stands iM_variables iM_rows iM_goals iM_differents iM_cases fM_from fM_to fM_whole fM_ways iM_plainRows fM_plainRow fM_kept fM_goalOver fM_goalUnder fM_goalMax fM_different))) (va_Qv (fun (u : Nat → Int32) => True) (fun (u : Nat → Int32) t => va_P (dC, dI) vwCl (WM hM aM kM iM_stands iM_variables iM_rows iM_goals iM_differents iM_cases fM_from fM_to fM_whole fM_ways iM_plainRows fM_plainRow u fM_goalOver fM_goalUnder fM_goalMax fM_different) t.heap ∧ va_D (va_A (WM hM aM kM iM_stands iM_variables iM_rows iM_goals iM_differents iM_cases fM_from fM_to fM_whole fM_ways iM_plainRows fM_plainRow fM_kept fM_goalOver fM_goalUnder fM_goalMax fM_different) sz) (WM hM aM kM iM_stands iM_variables iM_rows iM_goals iM_differents iM_cases fM_from fM_to fM_whole fM_ways iM_plainRows fM_plainRow u fM_goalOver fM_goalUnder fM_goalMax fM_different)) (va_A (WM hM aM kM iM_stands iM_variables iM_rows iM_goals iM_differents iM_cases fM_from fM_to fM_whole fM_ways iM_plainRows fM_plainRow fM_kept fM_goalOver fM_goalUnder fM_goalMax fM_different) sz)) 0 0 (va_A (WM hM aM kM iM_stands iM_variables iM_rows iM_goals iM_differents iM_cases fM_from fM_to fM_whole fM_ways iM_plainRows fM_plainRow fM_kept fM_goalOver fM_goalUnder fM_goalMax fM_different) sz) := by
  refine Met.ofW (cc := cX1_keepRight) (maxL := 6) (ret := none) (by decide) rfl ?_
  intro p e s m args below meth c s₁ B hml hv
  obtain ⟨rfl, hsz, hP, hK, hD0⟩ := hv
  have hx := B.exec
  have hb := B.bytes
  have hr := B.returns
  have hts := atoms_spec (ws := wsMX1_keepRight) B.pre
  have hown : s.vm.findClass RX1 = some m.cls := findClass_of_methodNamed B.named
  have hlocks := B.notSynchronized
  subst hsz
  have hD := hD0.self (sz := s.heap.size)
  generalize hAe : va_A (WM hM aM kM iM_stands iM_variables iM_rows iM_goals iM_differents iM_cases fM_from fM_to fM_whole fM_ways iM_plainRows fM_plainRow fM_kept fM_goalOver fM_goalUnder fM_goalMax fM_different) s.heap.size = A at hD ⊢
  have hA : ∀ q : Nat, s.heap.size ≤ q → A q := fun q h => by rw [← hAe]; exact Or.inr h
  have hS : va_S A s.heap s.heap [] := va_S.rf
  have hl := lv_entry ([.ref (hM 0), .int p1, .int p2, .int p3, .int p4]) (n := 6) (Nat.le_of_ble_eq_true rfl)
  rw [lg_entry_eq]
  generalize (lg_sl ([.ref (hM 0), .int p1, .int p2, .int p3, .int p4]) ++ List.replicate (6 - (lg_sl ([.ref (hM 0), .int p1, .int p2, .int p3, .int p4])).length) Slot.unset).toArray = ls at hl ⊢
  have hl : lv_has ls 6 [(0, .ref (hM 0)), (1, .int p1), (2, .int p2), (3, .int p3), (4, .int p4)] := hl
  refine lv_iload_n hx hb dX1_keepRight_0 rfl (lv_at hl 1 rfl) ?_
  refine lv_iconst (v := 3) hx hb dX1_keepRight_1 (by decide) ?_
  refine lv_imul hx hb dX1_keepRight_2 ?_
  refine lv_topi (fun y1 hy1 => ?_)
  obtain rfl : (iI (p1.toInt * 3)) = y1 := (hy1.trans (iI_mul2 (iI_of _) (by decide : (3 : Int32) = iI 3))).symm
  refine lv_iload_n hx hb dX1_keepRight_3 rfl (lv_at hl 2 rfl) ?_
  refine lv_iadd hx hb dX1_keepRight_4 ?_
  refine lv_topi (fun y2 hy2 => ?_)
  obtain rfl : (iI ((p1.toInt * 3) + p2.toInt)) = y2 := (hy2.trans (iI_add2 rfl (iI_of _))).symm
  refine lv_bipush (v := 10) hx hb dX1_keepRight_5 (by decide) ?_
  refine lv_imul hx hb dX1_keepRight_7 ?_
  refine lv_topi (fun y3 hy3 => ?_)
  obtain rfl : (iI (((p1.toInt * 3) + p2.toInt) * 10)) = y3 := (hy3.trans (iI_mul2 rfl (by decide : (10 : Int32) = iI 10))).symm
  refine lv_istore hx hb dX1_keepRight_8 hl (by decide) rfl (fun ls (hl : lv_has ls _ ([(5, .int (iI (((p1.toInt * 3) + p2.toInt) * 10))), (0, .ref (hM 0)), (1, .int p1), (2, .int p2), (3, .int p3), (4, .int p4)])) => ?_)
  refine lv_aload_n hx hb dX1_keepRight_10 rfl (lv_at hl 1 rfl) ?_
  refine va_get (D := (dC, dI)) (ci := 1) (v := .ref (aM 5)) (C := RX1) (T := TX1) (N := 17) hx hb hts iwsMX1_keepRight_in1 hown hK hP 0 rfl rfl 12 (by decide) (hts _ hm_m_X1_keepRight_0) (fun _ h9 => h9) rfl dX1_keepRight_11 ?_
  refine lv_iload hx hb dX1_keepRight_14 (lv_at hl 0 rfl) ?_
  refine lv_bipush (v := 8) hx hb dX1_keepRight_16 (by decide) ?_
  refine lv_iadd hx hb dX1_keepRight_18 ?_
  refine lv_topi (fun y4 hy4 => ?_)
  obtain rfl : (iI ((((p1.toInt * 3) + p2.toInt) * 10) + 8)) = y4 := (hy4.trans (iI_add2 rfl (by decide : (8 : Int32) = iI 8))).symm
  refine lv_iload_n hx hb dX1_keepRight_19 rfl (lv_at hl 4 rfl) ?_
  refine va_iast (cA := kM 5) (n := 360) (f := fM_kept) hx hb hK hP hD hS 6 5 rfl rfl (vp_iI (Int.le_trans (by decide) (Int.add_le_add (Int.mul_le_mul_of_nonneg_right (Int.add_le_add (Int.mul_le_mul_of_nonneg_right (b_p1.1) (by decide)) (b_p2.1)) (by decide)) (Int.le_refl _))) (Int.lt_of_le_of_lt (Int.add_le_add (Int.mul_le_mul_of_nonneg_right (Int.add_le_add (Int.mul_le_mul_of_nonneg_right (b_p1.2) (by decide)) (b_p2.2)) (by decide)) (Int.le_refl _)) (by decide)) (by decide)) dX1_keepRight_20 (fun H locs hP hD hS => ?_)
  obtain ⟨u5, hu5⟩ : ∃ f9, f9 = upd fM_kept ((iI ((((p1.toInt * 3) + p2.toInt) * 10) + 8))).toNatClampNeg p3 := ⟨_, rfl⟩
  have hP : va_P (dC, dI) vwCl (WM hM aM kM iM_stands iM_variables iM_rows iM_goals iM_differents iM_cases fM_from fM_to fM_whole fM_ways iM_plainRows fM_plainRow u5 fM_goalOver fM_goalUnder fM_goalMax fM_different) H := by rw [hu5]; exact hP
  have hD : va_D A (WM hM aM kM iM_stands iM_variables iM_rows iM_goals iM_differents iM_cases fM_from fM_to fM_whole fM_ways iM_plainRows fM_plainRow u5 fM_goalOver fM_goalUnder fM_goalMax fM_different) := by rw [hu5]; exact hD
  clear hu5
  refine lv_aload_n hx hb dX1_keepRight_21 rfl (lv_at hl 1 rfl) ?_
  refine va_get (D := (dC, dI)) (ci := 1) (v := .ref (aM 5)) (C := RX1) (T := TX1) (N := 17) hx hb hts iwsMX1_keepRight_in1 hown hK hP 0 rfl rfl 12 (by decide) (hts _ hm_m_X1_keepRight_0) (fun _ h9 => h9) rfl dX1_keepRight_22 ?_
  refine lv_iload hx hb dX1_keepRight_25 (lv_at hl 0 rfl) ?_
  refine lv_bipush (v := 9) hx hb dX1_keepRight_27 (by decide) ?_
  refine lv_iadd hx hb dX1_keepRight_29 ?_
  refine lv_topi (fun y6 hy6 => ?_)
  obtain rfl : (iI ((((p1.toInt * 3) + p2.toInt) * 10) + 9)) = y6 := (hy6.trans (iI_add2 rfl (by decide : (9 : Int32) = iI 9))).symm
  refine lv_iload hx hb dX1_keepRight_30 (lv_at hl 5 rfl) ?_
  refine va_iast (cA := kM 5) (n := 360) (f := u5) hx hb hK hP hD hS 6 5 rfl rfl (vp_iI (Int.le_trans (by decide) (Int.add_le_add (Int.mul_le_mul_of_nonneg_right (Int.add_le_add (Int.mul_le_mul_of_nonneg_right (b_p1.1) (by decide)) (b_p2.1)) (by decide)) (Int.le_refl _))) (Int.lt_of_le_of_lt (Int.add_le_add (Int.mul_le_mul_of_nonneg_right (Int.add_le_add (Int.mul_le_mul_of_nonneg_right (b_p1.2) (by decide)) (b_p2.2)) (by decide)) (Int.le_refl _)) (by decide)) (by decide)) dX1_keepRight_32 (fun H locs hP hD hS => ?_)
  obtain ⟨u7, hu7⟩ : ∃ f9, f9 = upd u5 ((iI ((((p1.toInt * 3) + p2.toInt) * 10) + 9))).toNatClampNeg p4 := ⟨_, rfl⟩
  have hP : va_P (dC, dI) vwCl (WM hM aM kM iM_stands iM_variables iM_rows iM_goals iM_differents iM_cases fM_from fM_to fM_whole fM_ways iM_plainRows fM_plainRow u7 fM_goalOver fM_goalUnder fM_goalMax fM_different) H := by rw [hu7]; exact hP
  have hD : va_D A (WM hM aM kM iM_stands iM_variables iM_rows iM_goals iM_differents iM_cases fM_from fM_to fM_whole fM_ways iM_plainRows fM_plainRow u7 fM_goalOver fM_goalUnder fM_goalMax fM_different) := by rw [hu7]; exact hD
  clear hu7
  refine W.widen (k := 0) (n := 0) (by decide +kernel) (by decide +kernel) ?_
  exact W.vret hx hb hr (fun t9_ ht hW => ⟨⟨u7, rfl, trivial, by rw [ht]; exact hP, hD⟩, hS.F ht⟩) hS.2.2 dX1_keepRight_33
theorem dX1_range_0 : decode cX1_range 0 = .ok (.aload_n 0, 1) := dk_42 (by decide +kernel)
theorem dX1_range_1 : decode cX1_range 1 = .ok (.getfield 13, 3) := dk_180 (by decide +kernel)
theorem dX1_range_4 : decode cX1_range 4 = .ok (.iload_n 1, 1) := dk_27 (by decide +kernel)
theorem dX1_range_5 : decode cX1_range 5 = .ok (.iaload, 1) := dk_46 (by decide +kernel)
theorem dX1_range_6 : decode cX1_range 6 = .ok (.aload_n 0, 1) := dk_42 (by decide +kernel)
theorem dX1_range_7 : decode cX1_range 7 = .ok (.getfield 9, 3) := dk_180 (by decide +kernel)
theorem dX1_range_10 : decode cX1_range 10 = .ok (.iload_n 1, 1) := dk_27 (by decide +kernel)
theorem dX1_range_11 : decode cX1_range 11 = .ok (.iaload, 1) := dk_46 (by decide +kernel)
theorem dX1_range_12 : decode cX1_range 12 = .ok (.isub, 1) := dk_100 (by decide +kernel)
theorem dX1_range_13 : decode cX1_range 13 = .ok (.iconst 1, 1) := dk_4 (by decide +kernel)
theorem dX1_range_14 : decode cX1_range 14 = .ok (.iadd, 1) := dk_96 (by decide +kernel)
theorem dX1_range_15 : decode cX1_range 15 = .ok (.ireturn, 1) := dk_172 (by decide +kernel)
def wsMX1_range : List Cond := .code yX1_range cX1_range 2 (some .int) :: ([.fieldLink RX1 13 "OptimaWorks$Model" "to" "[I", .fieldLink RX1 9 "OptimaWorks$Model" "from" "[I"] ++ wsX10)
theorem iwsMX1_range_in1 : ∀ w ∈ wsX10, w ∈ wsMX1_range := fun _ h => List.mem_cons_of_mem _ (List.mem_append_right _ h)
theorem gdwsMX1_range : wsMX1_range.all goodWord = true := gdC rfl (gdA (by decide +kernel : ([.fieldLink RX1 13 "OptimaWorks$Model" "to" "[I", .fieldLink RX1 9 "OptimaWorks$Model" "from" "[I"] : List Cond).all goodWord = true) gdwsX10)
set_option maxHeartbeats 4000000 in
set_option maxRecDepth 100000 in
/-- how many values -/
theorem m_X1_range (l : Launch) (dC : Nat → ClassId) (dI : Nat → Nat → Nat) (hM : Nat → Nat) (aM : Nat → Nat) (kM : Nat → ClassId) (iM_stands : Int32) (iM_variables : Int32) (iM_rows : Int32) (iM_goals : Int32) (iM_differents : Int32) (iM_cases : Int32) (fM_from : Nat → Int32) (fM_to : Nat → Int32) (fM_whole : Nat → Int32) (fM_ways : Nat → Int32) (iM_plainRows : Int32) (fM_plainRow : Nat → Int32) (fM_kept : Nat → Int32) (fM_goalOver : Nat → Int32) (fM_goalUnder : Nat → Int32) (fM_goalMax : Nat → Int32) (fM_different : Nat → Int32) (p1 : Int32) (b_iM_stands : 0 ≤ iM_stands.toInt ∧ iM_stands.toInt ≤ 1) (b_iM_variables : 0 ≤ iM_variables.toInt ∧ iM_variables.toInt ≤ 8) (b_iM_rows : 0 ≤ iM_rows.toInt ∧ iM_rows.toInt ≤ 12) (b_iM_goals : 0 ≤ iM_goals.toInt ∧ iM_goals.toInt ≤ 3) (b_iM_differents : 0 ≤ iM_differents.toInt ∧ iM_differents.toInt ≤ 8) (b_iM_cases : 0 ≤ iM_cases.toInt ∧ iM_cases.toInt ≤ 200000) (b_fM_ways : ∀ q : Nat, 0 ≤ (fM_ways q).toInt ∧ (fM_ways q).toInt ≤ 3) (b_iM_plainRows : 0 ≤ iM_plainRows.toInt ∧ iM_plainRows.toInt ≤ 12) (b_fM_plainRow : ∀ q : Nat, 0 ≤ (fM_plainRow q).toInt ∧ (fM_plainRow q).toInt ≤ 11) (b_pr : iM_plainRows.toInt ≤ iM_rows.toInt) (b_p1 : 0 ≤ p1.toInt ∧ p1.toInt ≤ 7) (sz : Nat) : Met l yX1_range wsMX1_range ({ frames := 0, cells := 0, slots := 0, locals := 0 }) (va_Pc [.ref (hM 0), .int p1] (fun U => U.heap.size = sz ∧ va_P (dC, dI) vwCl (WM hM aM kM iM_stands iM_variables iM_rows iM_goals iM_differents iM_cases fM_from fM_to fM_whole fM_ways iM_plainRows fM_plainRow fM_kept fM_goalOver fM_goalUnder fM_goalMax fM_different) U.heap ∧ va_K (dC, dI) vwCl (tM kM) U ∧ va_D (fun _ => True) (WM hM aM kM iM_stands iM_variables iM_rows iM_goals iM_differents iM_cases fM_from fM_to fM_whole fM_ways iM_plainRows fM_plainRow fM_kept fM_goalOver fM_goalUnder fM_goalMax fM_different))) (va_Qi (fun (r : Int32) (u : Unit) => True) (fun (u : Unit) t => va_P (dC, dI) vwCl (WM hM aM kM iM_stands iM_variables iM_rows iM_goals iM_differents iM_cases fM_from fM_to fM_whole fM_ways iM_plainRows fM_plainRow fM_kept fM_goalOver fM_goalUnder fM_goalMax fM_different) t.heap ∧ va_D (va_A (WM hM aM kM iM_stands iM_variables iM_rows iM_goals iM_differents iM_cases fM_from fM_to fM_whole fM_ways iM_plainRows fM_plainRow fM_kept fM_goalOver fM_goalUnder fM_goalMax fM_different) sz) (WM hM aM kM iM_stands iM_variables iM_rows iM_goals iM_differents iM_cases fM_from fM_to fM_whole fM_ways iM_plainRows fM_plainRow fM_kept fM_goalOver fM_goalUnder fM_goalMax fM_different)) (va_A (WM hM aM kM iM_stands iM_variables iM_rows iM_goals iM_differents iM_cases fM_from fM_to fM_whole fM_ways iM_plainRows fM_plainRow fM_kept fM_goalOver fM_goalUnder fM_goalMax fM_different) sz)) 0 0 (va_A (WM hM aM kM iM_stands iM_variables iM_rows iM_goals iM_differents iM_cases fM_from fM_to fM_whole fM_ways iM_plainRows fM_plainRow fM_kept fM_goalOver fM_goalUnder fM_goalMax fM_different) sz) := by
  refine Met.ofW (cc := cX1_range) (maxL := 2) (ret := (some .int)) (by decide) rfl ?_
  intro p e s m args below meth c s₁ B hml hv
  obtain ⟨rfl, hsz, hP, hK, hD0⟩ := hv
  have hx := B.exec
  have hb := B.bytes
  have hr := B.returns
  have hts := atoms_spec (ws := wsMX1_range) B.pre
  have hown : s.vm.findClass RX1 = some m.cls := findClass_of_methodNamed B.named
  have hlocks := B.notSynchronized
  subst hsz
  have hD := hD0.self (sz := s.heap.size)
  generalize hAe : va_A (WM hM aM kM iM_stands iM_variables iM_rows iM_goals iM_differents iM_cases fM_from fM_to fM_whole fM_ways iM_plainRows fM_plainRow fM_kept fM_goalOver fM_goalUnder fM_goalMax fM_different) s.heap.size = A at hD ⊢
  have hA : ∀ q : Nat, s.heap.size ≤ q → A q := fun q h => by rw [← hAe]; exact Or.inr h
  have hS : va_S A s.heap s.heap [] := va_S.rf
  have hl := lv_entry ([.ref (hM 0), .int p1]) (n := 2) (Nat.le_of_ble_eq_true rfl)
  rw [lg_entry_eq]
  generalize (lg_sl ([.ref (hM 0), .int p1]) ++ List.replicate (2 - (lg_sl ([.ref (hM 0), .int p1])).length) Slot.unset).toArray = ls at hl ⊢
  have hl : lv_has ls 2 [(0, .ref (hM 0)), (1, .int p1)] := hl
  refine lv_aload_n hx hb dX1_range_0 rfl (lv_at hl 0 rfl) ?_
  refine va_get (D := (dC, dI)) (ci := 1) (v := .ref (aM 1)) (C := RX1) (T := TX1) (N := 17) hx hb hts iwsMX1_range_in1 hown hK hP 0 rfl rfl 7 (by decide) (hts (.fieldLink RX1 13 "OptimaWorks$Model" "to" "[I") (by decide +kernel)) (fun _ h9 => h9) rfl dX1_range_1 ?_
  refine lv_iload_n hx hb dX1_range_4 rfl (lv_at hl 1 rfl) ?_
  refine va_iald (cA := kM 1) (n := 8) (f := fM_to) hx hb hK hP 2 1 rfl rfl (vp_in_iff.mpr ⟨b_p1.1, (Int.lt_of_le_of_lt (b_p1.2) (by decide))⟩) dX1_range_5 ?_
  refine lv_topi (fun v1 hv1 => ?_)
  clear hv1
  refine lv_aload_n hx hb dX1_range_6 rfl (lv_at hl 0 rfl) ?_
  refine va_get (D := (dC, dI)) (ci := 1) (v := .ref (aM 0)) (C := RX1) (T := TX1) (N := 17) hx hb hts iwsMX1_range_in1 hown hK hP 0 rfl rfl 6 (by decide) (hts (.fieldLink RX1 9 "OptimaWorks$Model" "from" "[I") (by decide +kernel)) (fun _ h9 => h9) rfl dX1_range_7 ?_
  refine lv_iload_n hx hb dX1_range_10 rfl (lv_at hl 1 rfl) ?_
  refine va_iald (cA := kM 0) (n := 8) (f := fM_from) hx hb hK hP 1 0 rfl rfl (vp_in_iff.mpr ⟨b_p1.1, (Int.lt_of_le_of_lt (b_p1.2) (by decide))⟩) dX1_range_11 ?_
  refine lv_topi (fun v2 hv2 => ?_)
  clear hv2
  refine lv_isub hx hb dX1_range_12 ?_
  refine lv_topi (fun y3 hy3 => ?_)
  obtain rfl : (iI (v1.toInt - v2.toInt)) = y3 := (hy3.trans (iI_sub2 (iI_of _) (iI_of _))).symm
  refine lv_iconst (v := 1) hx hb dX1_range_13 (by decide) ?_
  refine lv_iadd hx hb dX1_range_14 ?_
  refine lv_topi (fun y4 hy4 => ?_)
  obtain rfl : (iI ((v1.toInt - v2.toInt) + 1)) = y4 := (hy4.trans (iI_add2 rfl (by decide : (1 : Int32) = iI 1))).symm
  refine W.widen (k := 0) (n := 0) (by decide +kernel) (by decide +kernel) ?_
  exact W.iret (v := (iI ((v1.toInt - v2.toInt) + 1))) hx hb hr (fun t9_ ht hW => ⟨⟨(iI ((v1.toInt - v2.toInt) + 1)), (), rfl, trivial, by rw [ht]; exact hP, hD⟩, hS.F ht⟩) hS.2.2 dX1_range_15
theorem dX1_addRow_0 : decode cX1_addRow 0 = .ok (.aload_n 0, 1) := dk_42 (by decide +kernel)
theorem dX1_addRow_1 : decode cX1_addRow 1 = .ok (.getfield 20, 3) := dk_180 (by decide +kernel)
theorem dX1_addRow_4 : decode cX1_addRow 4 = .ok (.aload_n 0, 1) := dk_42 (by decide +kernel)
theorem dX1_addRow_5 : decode cX1_addRow 5 = .ok (.getfield 49, 3) := dk_180 (by decide +kernel)
theorem dX1_addRow_8 : decode cX1_addRow 8 = .ok (.iload_n 1, 1) := dk_27 (by decide +kernel)
theorem dX1_addRow_9 : decode cX1_addRow 9 = .ok (.iastore, 1) := dk_79 (by decide +kernel)
theorem dX1_addRow_10 : decode cX1_addRow 10 = .ok (.iload_n 1, 1) := dk_27 (by decide +kernel)
theorem dX1_addRow_11 : decode cX1_addRow 11 = .ok (.iconst 1, 1) := dk_4 (by decide +kernel)
theorem dX1_addRow_12 : decode cX1_addRow 12 = .ok (.if_icmp .ne 26, 3) := dk_160 (by decide +kernel)
theorem dX1_addRow_15 : decode cX1_addRow 15 = .ok (.aload_n 0, 1) := dk_42 (by decide +kernel)
theorem dX1_addRow_16 : decode cX1_addRow 16 = .ok (.getfield 23, 3) := dk_180 (by decide +kernel)
theorem dX1_addRow_19 : decode cX1_addRow 19 = .ok (.aload_n 0, 1) := dk_42 (by decide +kernel)
theorem dX1_addRow_20 : decode cX1_addRow 20 = .ok (.getfield 52, 3) := dk_180 (by decide +kernel)
theorem dX1_addRow_23 : decode cX1_addRow 23 = .ok (.aload_n 0, 1) := dk_42 (by decide +kernel)
theorem dX1_addRow_24 : decode cX1_addRow 24 = .ok (.getfield 49, 3) := dk_180 (by decide +kernel)
theorem dX1_addRow_27 : decode cX1_addRow 27 = .ok (.iastore, 1) := dk_79 (by decide +kernel)
theorem dX1_addRow_28 : decode cX1_addRow 28 = .ok (.aload_n 0, 1) := dk_42 (by decide +kernel)
theorem dX1_addRow_29 : decode cX1_addRow 29 = .ok (.dup, 1) := dk_89 (by decide +kernel)
theorem dX1_addRow_30 : decode cX1_addRow 30 = .ok (.getfield 52, 3) := dk_180 (by decide +kernel)
theorem dX1_addRow_33 : decode cX1_addRow 33 = .ok (.iconst 1, 1) := dk_4 (by decide +kernel)
theorem dX1_addRow_34 : decode cX1_addRow 34 = .ok (.iadd, 1) := dk_96 (by decide +kernel)
theorem dX1_addRow_35 : decode cX1_addRow 35 = .ok (.putfield 52, 3) := dk_181 (by decide +kernel)
theorem dX1_addRow_38 : decode cX1_addRow 38 = .ok (.aload_n 0, 1) := dk_42 (by decide +kernel)
theorem dX1_addRow_39 : decode cX1_addRow 39 = .ok (.dup, 1) := dk_89 (by decide +kernel)
theorem dX1_addRow_40 : decode cX1_addRow 40 = .ok (.getfield 49, 3) := dk_180 (by decide +kernel)
theorem dX1_addRow_43 : decode cX1_addRow 43 = .ok (.iconst 1, 1) := dk_4 (by decide +kernel)
theorem dX1_addRow_44 : decode cX1_addRow 44 = .ok (.iadd, 1) := dk_96 (by decide +kernel)
theorem dX1_addRow_45 : decode cX1_addRow 45 = .ok (.putfield 49, 3) := dk_181 (by decide +kernel)
theorem dX1_addRow_48 : decode cX1_addRow 48 = .ok (.return_, 1) := dk_177 (by decide +kernel)
def wsMX1_addRow : List Cond := .code yX1_addRow cX1_addRow 2 none :: ([.fieldLink RX1 20 "OptimaWorks$Model" "ways" "[I", .fieldLink RX1 49 "OptimaWorks$Model" "rows" "I", .fieldLink RX1 23 "OptimaWorks$Model" "plainRow" "[I", .fieldLink RX1 52 "OptimaWorks$Model" "plainRows" "I"] ++ wsX10)
theorem iwsMX1_addRow_in1 : ∀ w ∈ wsX10, w ∈ wsMX1_addRow := fun _ h => List.mem_cons_of_mem _ (List.mem_append_right _ h)
theorem gdwsMX1_addRow : wsMX1_addRow.all goodWord = true := gdC rfl (gdA (by decide +kernel : ([.fieldLink RX1 20 "OptimaWorks$Model" "ways" "[I", .fieldLink RX1 49 "OptimaWorks$Model" "rows" "I", .fieldLink RX1 23 "OptimaWorks$Model" "plainRow" "[I", .fieldLink RX1 52 "OptimaWorks$Model" "plainRows" "I"] : List Cond).all goodWord = true) gdwsX10)
theorem hm_m_X1_addRow_0 : (.fieldLink RX1 49 "OptimaWorks$Model" "rows" "I" : Cond) ∈ wsMX1_addRow := by decide +kernel
theorem hm_m_X1_addRow_1 : (.fieldLink RX1 52 "OptimaWorks$Model" "plainRows" "I" : Cond) ∈ wsMX1_addRow := by decide +kernel
set_option maxHeartbeats 4000000 in
set_option maxRecDepth 100000 in
/-- a row more -/
theorem m_X1_addRow (l : Launch) (dC : Nat → ClassId) (dI : Nat → Nat → Nat) (hM : Nat → Nat) (aM : Nat → Nat) (kM : Nat → ClassId) (iM_stands : Int32) (iM_variables : Int32) (iM_rows : Int32) (iM_goals : Int32) (iM_differents : Int32) (iM_cases : Int32) (fM_from : Nat → Int32) (fM_to : Nat → Int32) (fM_whole : Nat → Int32) (fM_ways : Nat → Int32) (iM_plainRows : Int32) (fM_plainRow : Nat → Int32) (fM_kept : Nat → Int32) (fM_goalOver : Nat → Int32) (fM_goalUnder : Nat → Int32) (fM_goalMax : Nat → Int32) (fM_different : Nat → Int32) (p1 : Int32) (b_iM_stands : 0 ≤ iM_stands.toInt ∧ iM_stands.toInt ≤ 1) (b_iM_variables : 0 ≤ iM_variables.toInt ∧ iM_variables.toInt ≤ 8) (b_iM_rows : 0 ≤ iM_rows.toInt ∧ iM_rows.toInt ≤ 12) (b_iM_goals : 0 ≤ iM_goals.toInt ∧ iM_goals.toInt ≤ 3) (b_iM_differents : 0 ≤ iM_differents.toInt ∧ iM_differents.toInt ≤ 8) (b_iM_cases : 0 ≤ iM_cases.toInt ∧ iM_cases.toInt ≤ 200000) (b_fM_ways : ∀ q : Nat, 0 ≤ (fM_ways q).toInt ∧ (fM_ways q).toInt ≤ 3) (b_iM_plainRows : 0 ≤ iM_plainRows.toInt ∧ iM_plainRows.toInt ≤ 12) (b_fM_plainRow : ∀ q : Nat, 0 ≤ (fM_plainRow q).toInt ∧ (fM_plainRow q).toInt ≤ 11) (b_pr : iM_plainRows.toInt ≤ iM_rows.toInt) (b_p1 : 0 ≤ p1.toInt ∧ p1.toInt ≤ 3) (hlt : iM_rows.toInt < 12) (sz : Nat) : Met l yX1_addRow wsMX1_addRow ({ frames := 0, cells := 0, slots := 0, locals := 0 }) (va_Pc [.ref (hM 0), .int p1] (fun U => U.heap.size = sz ∧ va_P (dC, dI) vwCl (WM hM aM kM iM_stands iM_variables iM_rows iM_goals iM_differents iM_cases fM_from fM_to fM_whole fM_ways iM_plainRows fM_plainRow fM_kept fM_goalOver fM_goalUnder fM_goalMax fM_different) U.heap ∧ va_K (dC, dI) vwCl (tM kM) U ∧ va_D (fun _ => True) (WM hM aM kM iM_stands iM_variables iM_rows iM_goals iM_differents iM_cases fM_from fM_to fM_whole fM_ways iM_plainRows fM_plainRow fM_kept fM_goalOver fM_goalUnder fM_goalMax fM_different))) (va_Qv (fun (u : (Int32) × (Nat → Int32) × (Int32) × (Nat → Int32)) => (0 ≤ (u.1).toInt ∧ (u.1).toInt ≤ 12) ∧ (∀ q : Nat, 0 ≤ ((u.2.1) q).toInt ∧ ((u.2.1) q).toInt ≤ 3) ∧ (0 ≤ (u.2.2.1).toInt ∧ (u.2.2.1).toInt ≤ 12) ∧ (∀ q : Nat, 0 ≤ ((u.2.2.2) q).toInt ∧ ((u.2.2.2) q).toInt ≤ 11) ∧ ((u.2.2.1).toInt ≤ (u.1).toInt) ∧ ((u.1).toInt = iM_rows.toInt + 1)) (fun (u : (Int32) × (Nat → Int32) × (Int32) × (Nat → Int32)) t => va_P (dC, dI) vwCl (WM hM aM kM iM_stands iM_variables (u.1) iM_goals iM_differents iM_cases fM_from fM_to fM_whole (u.2.1) (u.2.2.1) (u.2.2.2) fM_kept fM_goalOver fM_goalUnder fM_goalMax fM_different) t.heap ∧ va_D (va_A (WM hM aM kM iM_stands iM_variables iM_rows iM_goals iM_differents iM_cases fM_from fM_to fM_whole fM_ways iM_plainRows fM_plainRow fM_kept fM_goalOver fM_goalUnder fM_goalMax fM_different) sz) (WM hM aM kM iM_stands iM_variables (u.1) iM_goals iM_differents iM_cases fM_from fM_to fM_whole (u.2.1) (u.2.2.1) (u.2.2.2) fM_kept fM_goalOver fM_goalUnder fM_goalMax fM_different)) (va_A (WM hM aM kM iM_stands iM_variables iM_rows iM_goals iM_differents iM_cases fM_from fM_to fM_whole fM_ways iM_plainRows fM_plainRow fM_kept fM_goalOver fM_goalUnder fM_goalMax fM_different) sz)) 0 0 (va_A (WM hM aM kM iM_stands iM_variables iM_rows iM_goals iM_differents iM_cases fM_from fM_to fM_whole fM_ways iM_plainRows fM_plainRow fM_kept fM_goalOver fM_goalUnder fM_goalMax fM_different) sz) := by
  refine Met.ofW (cc := cX1_addRow) (maxL := 2) (ret := none) (by decide) rfl ?_
  intro p e s m args below meth c s₁ B hml hv
  obtain ⟨rfl, hsz, hP, hK, hD0⟩ := hv
  have hx := B.exec
  have hb := B.bytes
  have hr := B.returns
  have hts := atoms_spec (ws := wsMX1_addRow) B.pre
  have hown : s.vm.findClass RX1 = some m.cls := findClass_of_methodNamed B.named
  have hlocks := B.notSynchronized
  subst hsz
  have hD := hD0.self (sz := s.heap.size)
  generalize hAe : va_A (WM hM aM kM iM_stands iM_variables iM_rows iM_goals iM_differents iM_cases fM_from fM_to fM_whole fM_ways iM_plainRows fM_plainRow fM_kept fM_goalOver fM_goalUnder fM_goalMax fM_different) s.heap.size = A at hD ⊢
  have hA : ∀ q : Nat, s.heap.size ≤ q → A q := fun q h => by rw [← hAe]; exact Or.inr h
  have hS : va_S A s.heap s.heap [] := va_S.rf
  have hl := lv_entry ([.ref (hM 0), .int p1]) (n := 2) (Nat.le_of_ble_eq_true rfl)
  rw [lg_entry_eq]
  generalize (lg_sl ([.ref (hM 0), .int p1]) ++ List.replicate (2 - (lg_sl ([.ref (hM 0), .int p1])).length) Slot.unset).toArray = ls at hl ⊢
  have hl : lv_has ls 2 [(0, .ref (hM 0)), (1, .int p1)] := hl
  refine lv_aload_n hx hb dX1_addRow_0 rfl (lv_at hl 0 rfl) ?_
  refine va_get (D := (dC, dI)) (ci := 1) (v := .ref (aM 3)) (C := RX1) (T := TX1) (N := 17) hx hb hts iwsMX1_addRow_in1 hown hK hP 0 rfl rfl 9 (by decide) (hts (.fieldLink RX1 20 "OptimaWorks$Model" "ways" "[I") (by decide +kernel)) (fun _ h9 => h9) rfl dX1_addRow_1 ?_
  refine lv_aload_n hx hb dX1_addRow_4 rfl (lv_at hl 0 rfl) ?_
  refine va_get (D := (dC, dI)) (ci := 1) (v := .int iM_rows) (C := RX1) (T := TX1) (N := 17) hx hb hts iwsMX1_addRow_in1 hown hK hP 0 rfl rfl 2 (by decide) (hts _ hm_m_X1_addRow_0) (fun _ h9 => h9) rfl dX1_addRow_5 ?_
  refine lv_iload_n hx hb dX1_addRow_8 rfl (lv_at hl 1 rfl) ?_
  refine va_iast (cA := kM 3) (n := 12) (f := fM_ways) hx hb hK hP hD hS 4 3 rfl rfl (vp_in_iff.mpr ⟨b_iM_rows.1, (by omega)⟩) dX1_addRow_9 (fun H locs hP hD hS => ?_)
  obtain ⟨u1, hu1⟩ : ∃ f9, f9 = upd fM_ways (iM_rows).toNatClampNeg p1 := ⟨_, rfl⟩
  have hP : va_P (dC, dI) vwCl (WM hM aM kM iM_stands iM_variables iM_rows iM_goals iM_differents iM_cases fM_from fM_to fM_whole u1 iM_plainRows fM_plainRow fM_kept fM_goalOver fM_goalUnder fM_goalMax fM_different) H := by rw [hu1]; exact hP
  have hD : va_D A (WM hM aM kM iM_stands iM_variables iM_rows iM_goals iM_differents iM_cases fM_from fM_to fM_whole u1 iM_plainRows fM_plainRow fM_kept fM_goalOver fM_goalUnder fM_goalMax fM_different) := by rw [hu1]; exact hD
  have b_u1 : ∀ q : Nat, 0 ≤ (u1 q).toInt ∧ (u1 q).toInt ≤ 3 := by rw [hu1]; exact upd_r b_fM_ways (b_p1)
  clear hu1
  refine lv_iload_n hx hb dX1_addRow_10 rfl (lv_at hl 1 rfl) ?_
  refine lv_iconst (v := 1) hx hb dX1_addRow_11 (by decide) ?_
  refine lv_icmp_ne (tgt := 38) hx hb dX1_addRow_12 (by decide) (fun c_12 => ?_) (fun c_12 => ?_)
  · have t_12 : p1.toInt ≠ 1 := toI_ne c_12 rfl (by decide : (1 : Int32).toInt = 1)
    refine lv_aload_n hx hb dX1_addRow_38 rfl (lv_at hl 0 rfl) ?_
    refine lv_dup hx hb dX1_addRow_39 rfl ?_
    refine va_get (D := (dC, dI)) (ci := 1) (v := .int iM_rows) (C := RX1) (T := TX1) (N := 17) hx hb hts iwsMX1_addRow_in1 hown hK hP 0 rfl rfl 2 (by decide) (hts _ hm_m_X1_addRow_0) (fun _ h9 => h9) rfl dX1_addRow_40 ?_
    refine lv_iconst (v := 1) hx hb dX1_addRow_43 (by decide) ?_
    refine lv_iadd hx hb dX1_addRow_44 ?_
    refine lv_topi (fun y2 hy2 => ?_)
    obtain rfl : (iI (iM_rows.toInt + 1)) = y2 := (hy2.trans (iI_add2 (iI_of _) (by decide : (1 : Int32) = iI 1))).symm
    refine va_put (D := (dC, dI)) (ci := 1) (v := .int (iI (iM_rows.toInt + 1))) (ty := .int) (C := RX1) (T := TX1) (N := 17) hx hb hts iwsMX1_addRow_in1 tyX1 tyX1_ok nmX1 hown hK hP hD hS 0 rfl rfl 2 (by decide) (hts _ hm_m_X1_addRow_0) (fun _ h9 => h9) rfl (by decide +kernel) rfl rfl (Nat.le_of_ble_eq_true rfl) dX1_addRow_45 (fun H locs hP hD hS => ?_)
    have hP : va_P (dC, dI) vwCl (WM hM aM kM iM_stands iM_variables (iI (iM_rows.toInt + 1)) iM_goals iM_differents iM_cases fM_from fM_to fM_whole u1 iM_plainRows fM_plainRow fM_kept fM_goalOver fM_goalUnder fM_goalMax fM_different) H := hP
    have hD := fz_sd hP (hD) rfl
    refine W.widen (k := 0) (n := 0) (by decide +kernel) (by decide +kernel) ?_
    exact W.vret hx hb hr (fun t9_ ht hW => ⟨⟨((iI (iM_rows.toInt + 1)), u1, iM_plainRows, fM_plainRow), rfl, ⟨(by (try dsimp only); exact (iI_rng (Int.le_trans (by decide) (Int.add_le_add (b_iM_rows.1) (Int.le_refl _))) (by omega) (by decide) (by decide))), b_u1, b_iM_plainRows, b_fM_plainRow, (by (try dsimp only); exact (by first | (rw [iI_t (by omega) (by omega), iI_t (by omega) (by omega)]; omega) | (rw [iI_t (by omega) (by omega)]; omega))), (by (try dsimp only); exact (iI_t (by omega) (by omega)))⟩, by rw [ht]; exact hP, hD⟩, hS.F ht⟩) hS.2.2 dX1_addRow_48
  · have t_12 : p1.toInt = 1 := toI_nne c_12 rfl (by decide : (1 : Int32).toInt = 1)
    refine lv_aload_n hx hb dX1_addRow_15 rfl (lv_at hl 0 rfl) ?_
    refine va_get (D := (dC, dI)) (ci := 1) (v := .ref (aM 4)) (C := RX1) (T := TX1) (N := 17) hx hb hts iwsMX1_addRow_in1 hown hK hP 0 rfl rfl 11 (by decide) (hts (.fieldLink RX1 23 "OptimaWorks$Model" "plainRow" "[I") (by decide +kernel)) (fun _ h9 => h9) rfl dX1_addRow_16 ?_
    refine lv_aload_n hx hb dX1_addRow_19 rfl (lv_at hl 0 rfl) ?_
    refine va_get (D := (dC, dI)) (ci := 1) (v := .int iM_plainRows) (C := RX1) (T := TX1) (N := 17) hx hb hts iwsMX1_addRow_in1 hown hK hP 0 rfl rfl 10 (by decide) (hts _ hm_m_X1_addRow_1) (fun _ h9 => h9) rfl dX1_addRow_20 ?_
    refine lv_aload_n hx hb dX1_addRow_23 rfl (lv_at hl 0 rfl) ?_
    refine va_get (D := (dC, dI)) (ci := 1) (v := .int iM_rows) (C := RX1) (T := TX1) (N := 17) hx hb hts iwsMX1_addRow_in1 hown hK hP 0 rfl rfl 2 (by decide) (hts _ hm_m_X1_addRow_0) (fun _ h9 => h9) rfl dX1_addRow_24 ?_
    refine va_iast (cA := kM 4) (n := 12) (f := fM_plainRow) hx hb hK hP hD hS 5 4 rfl rfl (vp_in_iff.mpr ⟨b_iM_plainRows.1, (by omega)⟩) dX1_addRow_27 (fun H locs hP hD hS => ?_)
    obtain ⟨u3, hu3⟩ : ∃ f9, f9 = upd fM_plainRow (iM_plainRows).toNatClampNeg iM_rows := ⟨_, rfl⟩
    have hP : va_P (dC, dI) vwCl (WM hM aM kM iM_stands iM_variables iM_rows iM_goals iM_differents iM_cases fM_from fM_to fM_whole u1 iM_plainRows u3 fM_kept fM_goalOver fM_goalUnder fM_goalMax fM_different) H := by rw [hu3]; exact hP
    have hD : va_D A (WM hM aM kM iM_stands iM_variables iM_rows iM_goals iM_differents iM_cases fM_from fM_to fM_whole u1 iM_plainRows u3 fM_kept fM_goalOver fM_goalUnder fM_goalMax fM_different) := by rw [hu3]; exact hD
    have b_u3 : ∀ q : Nat, 0 ≤ (u3 q).toInt ∧ (u3 q).toInt ≤ 11 := by rw [hu3]; exact upd_r b_fM_plainRow (by first | exact b_iM_rows | with_reducible assumption | exact ⟨by omega, by omega⟩ | assumption)
    clear hu3
    refine lv_aload_n hx hb dX1_addRow_28 rfl (lv_at hl 0 rfl) ?_
    refine lv_dup hx hb dX1_addRow_29 rfl ?_
    refine va_get (D := (dC, dI)) (ci := 1) (v := .int iM_plainRows) (C := RX1) (T := TX1) (N := 17) hx hb hts iwsMX1_addRow_in1 hown hK hP 0 rfl rfl 10 (by decide) (hts _ hm_m_X1_addRow_1) (fun _ h9 => h9) rfl dX1_addRow_30 ?_
    refine lv_iconst (v := 1) hx hb dX1_addRow_33 (by decide) ?_
    refine lv_iadd hx hb dX1_addRow_34 ?_
    refine lv_topi (fun y4 hy4 => ?_)
    obtain rfl : (iI (iM_plainRows.toInt + 1)) = y4 := (hy4.trans (iI_add2 (iI_of _) (by decide : (1 : Int32) = iI 1))).symm
    refine va_put (D := (dC, dI)) (ci := 1) (v := .int (iI (iM_plainRows.toInt + 1))) (ty := .int) (C := RX1) (T := TX1) (N := 17) hx hb hts iwsMX1_addRow_in1 tyX1 tyX1_ok nmX1 hown hK hP hD hS 0 rfl rfl 10 (by decide) (hts _ hm_m_X1_addRow_1) (fun _ h9 => h9) rfl (by decide +kernel) rfl rfl (Nat.le_of_ble_eq_true rfl) dX1_addRow_35 (fun H locs hP hD hS => ?_)
    have hP : va_P (dC, dI) vwCl (WM hM aM kM iM_stands iM_variables iM_rows iM_goals iM_differents iM_cases fM_from fM_to fM_whole u1 (iI (iM_plainRows.toInt + 1)) u3 fM_kept fM_goalOver fM_goalUnder fM_goalMax fM_different) H := hP
    have hD := fz_sd hP (hD) rfl
    refine lv_aload_n hx hb dX1_addRow_38 rfl (lv_at hl 0 rfl) ?_
    refine lv_dup hx hb dX1_addRow_39 rfl ?_
    refine va_get (D := (dC, dI)) (ci := 1) (v := .int iM_rows) (C := RX1) (T := TX1) (N := 17) hx hb hts iwsMX1_addRow_in1 hown hK hP 0 rfl rfl 2 (by decide) (hts _ hm_m_X1_addRow_0) (fun _ h9 => h9) rfl dX1_addRow_40 ?_
    refine lv_iconst (v := 1) hx hb dX1_addRow_43 (by decide) ?_
    refine lv_iadd hx hb dX1_addRow_44 ?_
    refine lv_topi (fun y5 hy5 => ?_)
    obtain rfl : (iI (iM_rows.toInt + 1)) = y5 := (hy5.trans (iI_add2 (iI_of _) (by decide : (1 : Int32) = iI 1))).symm
    refine va_put (D := (dC, dI)) (ci := 1) (v := .int (iI (iM_rows.toInt + 1))) (ty := .int) (C := RX1) (T := TX1) (N := 17) hx hb hts iwsMX1_addRow_in1 tyX1 tyX1_ok nmX1 hown hK hP hD hS 0 rfl rfl 2 (by decide) (hts _ hm_m_X1_addRow_0) (fun _ h9 => h9) rfl (by decide +kernel) rfl rfl (Nat.le_of_ble_eq_true rfl) dX1_addRow_45 (fun H locs hP hD hS => ?_)
    have hP : va_P (dC, dI) vwCl (WM hM aM kM iM_stands iM_variables (iI (iM_rows.toInt + 1)) iM_goals iM_differents iM_cases fM_from fM_to fM_whole u1 (iI (iM_plainRows.toInt + 1)) u3 fM_kept fM_goalOver fM_goalUnder fM_goalMax fM_different) H := hP
    have hD := fz_sd hP (hD) rfl
    refine W.widen (k := 0) (n := 0) (by decide +kernel) (by decide +kernel) ?_
    exact W.vret hx hb hr (fun t9_ ht hW => ⟨⟨((iI (iM_rows.toInt + 1)), u1, (iI (iM_plainRows.toInt + 1)), u3), rfl, ⟨(by (try dsimp only); exact (iI_rng (Int.le_trans (by decide) (Int.add_le_add (b_iM_rows.1) (Int.le_refl _))) (by omega) (by decide) (by decide))), b_u1, (by (try dsimp only); exact (iI_rng (Int.le_trans (by decide) (Int.add_le_add (b_iM_plainRows.1) (Int.le_refl _))) (by omega) (by decide) (by decide))), b_u3, (by (try dsimp only); exact (by first | (rw [iI_t (by omega) (by omega), iI_t (by omega) (by omega)]; omega) | (rw [iI_t (by omega) (by omega)]; omega))), (by (try dsimp only); exact (iI_t (by omega) (by omega)))⟩, by rw [ht]; exact hP, hD⟩, hS.F ht⟩) hS.2.2 dX1_addRow_48
theorem dX1_needs_0 : decode cX1_needs 0 = .ok (.aload_n 0, 1) := dk_42 (by decide +kernel)
theorem dX1_needs_1 : decode cX1_needs 1 = .ok (.getfield 52, 3) := dk_180 (by decide +kernel)
theorem dX1_needs_4 : decode cX1_needs 4 = .ok (.iconst 2, 1) := dk_5 (by decide +kernel)
theorem dX1_needs_5 : decode cX1_needs 5 = .ok (.aload_n 0, 1) := dk_42 (by decide +kernel)
theorem dX1_needs_6 : decode cX1_needs 6 = .ok (.getfield 45, 3) := dk_180 (by decide +kernel)
theorem dX1_needs_9 : decode cX1_needs 9 = .ok (.imul, 1) := dk_104 (by decide +kernel)
theorem dX1_needs_10 : decode cX1_needs 10 = .ok (.iadd, 1) := dk_96 (by decide +kernel)
theorem dX1_needs_11 : decode cX1_needs 11 = .ok (.ireturn, 1) := dk_172 (by decide +kernel)
def wsMX1_needs : List Cond := .code yX1_needs cX1_needs 1 (some .int) :: ([.fieldLink RX1 52 "OptimaWorks$Model" "plainRows" "I", .fieldLink RX1 45 "OptimaWorks$Model" "variables" "I"] ++ wsX10)
theorem iwsMX1_needs_in1 : ∀ w ∈ wsX10, w ∈ wsMX1_needs := fun _ h => List.mem_cons_of_mem _ (List.mem_append_right _ h)
theorem gdwsMX1_needs : wsMX1_needs.all goodWord = true := gdC rfl (gdA (by decide +kernel : ([.fieldLink RX1 52 "OptimaWorks$Model" "plainRows" "I", .fieldLink RX1 45 "OptimaWorks$Model" "variables" "I"] : List Cond).all goodWord = true) gdwsX10)
set_option maxHeartbeats 4000000 in
set_option maxRecDepth 100000 in
/-- how many needs -/
theorem m_X1_needs (l : Launch) (dC : Nat → ClassId) (dI : Nat → Nat → Nat) (hM : Nat → Nat) (aM : Nat → Nat) (kM : Nat → ClassId) (iM_stands : Int32) (iM_variables : Int32) (iM_rows : Int32) (iM_goals : Int32) (iM_differents : Int32) (iM_cases : Int32) (fM_from : Nat → Int32) (fM_to : Nat → Int32) (fM_whole : Nat → Int32) (fM_ways : Nat → Int32) (iM_plainRows : Int32) (fM_plainRow : Nat → Int32) (fM_kept : Nat → Int32) (fM_goalOver : Nat → Int32) (fM_goalUnder : Nat → Int32) (fM_goalMax : Nat → Int32) (fM_different : Nat → Int32) (b_iM_stands : 0 ≤ iM_stands.toInt ∧ iM_stands.toInt ≤ 1) (b_iM_variables : 0 ≤ iM_variables.toInt ∧ iM_variables.toInt ≤ 8) (b_iM_rows : 0 ≤ iM_rows.toInt ∧ iM_rows.toInt ≤ 12) (b_iM_goals : 0 ≤ iM_goals.toInt ∧ iM_goals.toInt ≤ 3) (b_iM_differents : 0 ≤ iM_differents.toInt ∧ iM_differents.toInt ≤ 8) (b_iM_cases : 0 ≤ iM_cases.toInt ∧ iM_cases.toInt ≤ 200000) (b_fM_ways : ∀ q : Nat, 0 ≤ (fM_ways q).toInt ∧ (fM_ways q).toInt ≤ 3) (b_iM_plainRows : 0 ≤ iM_plainRows.toInt ∧ iM_plainRows.toInt ≤ 12) (b_fM_plainRow : ∀ q : Nat, 0 ≤ (fM_plainRow q).toInt ∧ (fM_plainRow q).toInt ≤ 11) (b_pr : iM_plainRows.toInt ≤ iM_rows.toInt) (sz : Nat) : Met l yX1_needs wsMX1_needs ({ frames := 0, cells := 0, slots := 0, locals := 0 }) (va_Pc [.ref (hM 0)] (fun U => U.heap.size = sz ∧ va_P (dC, dI) vwCl (WM hM aM kM iM_stands iM_variables iM_rows iM_goals iM_differents iM_cases fM_from fM_to fM_whole fM_ways iM_plainRows fM_plainRow fM_kept fM_goalOver fM_goalUnder fM_goalMax fM_different) U.heap ∧ va_K (dC, dI) vwCl (tM kM) U ∧ va_D (fun _ => True) (WM hM aM kM iM_stands iM_variables iM_rows iM_goals iM_differents iM_cases fM_from fM_to fM_whole fM_ways iM_plainRows fM_plainRow fM_kept fM_goalOver fM_goalUnder fM_goalMax fM_different))) (va_Qi (fun (r : Int32) (u : Unit) => (0 ≤ r.toInt ∧ r.toInt ≤ 28) ∧ (r.toInt = iM_plainRows.toInt + 2 * iM_variables.toInt)) (fun (u : Unit) t => va_P (dC, dI) vwCl (WM hM aM kM iM_stands iM_variables iM_rows iM_goals iM_differents iM_cases fM_from fM_to fM_whole fM_ways iM_plainRows fM_plainRow fM_kept fM_goalOver fM_goalUnder fM_goalMax fM_different) t.heap ∧ va_D (va_A (WM hM aM kM iM_stands iM_variables iM_rows iM_goals iM_differents iM_cases fM_from fM_to fM_whole fM_ways iM_plainRows fM_plainRow fM_kept fM_goalOver fM_goalUnder fM_goalMax fM_different) sz) (WM hM aM kM iM_stands iM_variables iM_rows iM_goals iM_differents iM_cases fM_from fM_to fM_whole fM_ways iM_plainRows fM_plainRow fM_kept fM_goalOver fM_goalUnder fM_goalMax fM_different)) (va_A (WM hM aM kM iM_stands iM_variables iM_rows iM_goals iM_differents iM_cases fM_from fM_to fM_whole fM_ways iM_plainRows fM_plainRow fM_kept fM_goalOver fM_goalUnder fM_goalMax fM_different) sz)) 0 0 (va_A (WM hM aM kM iM_stands iM_variables iM_rows iM_goals iM_differents iM_cases fM_from fM_to fM_whole fM_ways iM_plainRows fM_plainRow fM_kept fM_goalOver fM_goalUnder fM_goalMax fM_different) sz) := by
  refine Met.ofW (cc := cX1_needs) (maxL := 1) (ret := (some .int)) (by decide) rfl ?_
  intro p e s m args below meth c s₁ B hml hv
  obtain ⟨rfl, hsz, hP, hK, hD0⟩ := hv
  have hx := B.exec
  have hb := B.bytes
  have hr := B.returns
  have hts := atoms_spec (ws := wsMX1_needs) B.pre
  have hown : s.vm.findClass RX1 = some m.cls := findClass_of_methodNamed B.named
  have hlocks := B.notSynchronized
  subst hsz
  have hD := hD0.self (sz := s.heap.size)
  generalize hAe : va_A (WM hM aM kM iM_stands iM_variables iM_rows iM_goals iM_differents iM_cases fM_from fM_to fM_whole fM_ways iM_plainRows fM_plainRow fM_kept fM_goalOver fM_goalUnder fM_goalMax fM_different) s.heap.size = A at hD ⊢
  have hA : ∀ q : Nat, s.heap.size ≤ q → A q := fun q h => by rw [← hAe]; exact Or.inr h
  have hS : va_S A s.heap s.heap [] := va_S.rf
  have hl := lv_entry ([.ref (hM 0)]) (n := 1) (Nat.le_of_ble_eq_true rfl)
  rw [lg_entry_eq]
  generalize (lg_sl ([.ref (hM 0)]) ++ List.replicate (1 - (lg_sl ([.ref (hM 0)])).length) Slot.unset).toArray = ls at hl ⊢
  have hl : lv_has ls 1 [(0, .ref (hM 0))] := hl
  refine lv_aload_n hx hb dX1_needs_0 rfl (lv_at hl 0 rfl) ?_
  refine va_get (D := (dC, dI)) (ci := 1) (v := .int iM_plainRows) (C := RX1) (T := TX1) (N := 17) hx hb hts iwsMX1_needs_in1 hown hK hP 0 rfl rfl 10 (by decide) (hts (.fieldLink RX1 52 "OptimaWorks$Model" "plainRows" "I") (by decide +kernel)) (fun _ h9 => h9) rfl dX1_needs_1 ?_
  refine lv_iconst (v := 2) hx hb dX1_needs_4 (by decide) ?_
  refine lv_aload_n hx hb dX1_needs_5 rfl (lv_at hl 0 rfl) ?_
  refine va_get (D := (dC, dI)) (ci := 1) (v := .int iM_variables) (C := RX1) (T := TX1) (N := 17) hx hb hts iwsMX1_needs_in1 hown hK hP 0 rfl rfl 1 (by decide) (hts (.fieldLink RX1 45 "OptimaWorks$Model" "variables" "I") (by decide +kernel)) (fun _ h9 => h9) rfl dX1_needs_6 ?_
  refine lv_imul hx hb dX1_needs_9 ?_
  refine lv_topi (fun y1 hy1 => ?_)
  obtain rfl : (iI (2 * iM_variables.toInt)) = y1 := (hy1.trans (iI_mul2 (by decide : (2 : Int32) = iI 2) (iI_of _))).symm
  refine lv_iadd hx hb dX1_needs_10 ?_
  refine lv_topi (fun y2 hy2 => ?_)
  obtain rfl : (iI (iM_plainRows.toInt + (2 * iM_variables.toInt))) = y2 := (hy2.trans (iI_add2 (iI_of _) rfl)).symm
  refine W.widen (k := 0) (n := 0) (by decide +kernel) (by decide +kernel) ?_
  exact W.iret (v := (iI (iM_plainRows.toInt + (2 * iM_variables.toInt)))) hx hb hr (fun t9_ ht hW => ⟨⟨(iI (iM_plainRows.toInt + (2 * iM_variables.toInt))), (), rfl, ⟨(iI_rng (Int.le_trans (by decide) (Int.add_le_add (b_iM_plainRows.1) (Int.mul_le_mul_of_nonneg_left (b_iM_variables.1) (by decide)))) (Int.le_trans (Int.add_le_add (b_iM_plainRows.2) (Int.mul_le_mul_of_nonneg_left (b_iM_variables.2) (by decide))) (by decide)) (by decide) (by decide)), (by (try dsimp only); exact (iI_t (by omega) (by omega)))⟩, by rw [ht]; exact hP, hD⟩, hS.F ht⟩) hS.2.2 dX1_needs_11
theorem dX1_needKind_0 : decode cX1_needKind 0 = .ok (.iload_n 1, 1) := dk_27 (by decide +kernel)
theorem dX1_needKind_1 : decode cX1_needKind 1 = .ok (.aload_n 0, 1) := dk_42 (by decide +kernel)
theorem dX1_needKind_2 : decode cX1_needKind 2 = .ok (.getfield 52, 3) := dk_180 (by decide +kernel)
theorem dX1_needKind_5 : decode cX1_needKind 5 = .ok (.isub, 1) := dk_100 (by decide +kernel)
theorem dX1_needKind_6 : decode cX1_needKind 6 = .ok (.istore_n 2, 1) := dk_61 (by decide +kernel)
theorem dX1_needKind_7 : decode cX1_needKind 7 = .ok (.iload_n 2, 1) := dk_28 (by decide +kernel)
theorem dX1_needKind_8 : decode cX1_needKind 8 = .ok (.ifCond .ge 7, 3) := dk_156 (by decide +kernel)
theorem dX1_needKind_11 : decode cX1_needKind 11 = .ok (.iconst 0, 1) := dk_3 (by decide +kernel)
theorem dX1_needKind_12 : decode cX1_needKind 12 = .ok (.goto 16, 3) := dk_167 (by decide +kernel)
theorem dX1_needKind_15 : decode cX1_needKind 15 = .ok (.iload_n 2, 1) := dk_28 (by decide +kernel)
theorem dX1_needKind_16 : decode cX1_needKind 16 = .ok (.aload_n 0, 1) := dk_42 (by decide +kernel)
theorem dX1_needKind_17 : decode cX1_needKind 17 = .ok (.getfield 45, 3) := dk_180 (by decide +kernel)
theorem dX1_needKind_20 : decode cX1_needKind 20 = .ok (.if_icmp .ge 7, 3) := dk_162 (by decide +kernel)
theorem dX1_needKind_23 : decode cX1_needKind 23 = .ok (.iconst 1, 1) := dk_4 (by decide +kernel)
theorem dX1_needKind_24 : decode cX1_needKind 24 = .ok (.goto 4, 3) := dk_167 (by decide +kernel)
theorem dX1_needKind_27 : decode cX1_needKind 27 = .ok (.iconst 2, 1) := dk_5 (by decide +kernel)
theorem dX1_needKind_28 : decode cX1_needKind 28 = .ok (.ireturn, 1) := dk_172 (by decide +kernel)
def wsMX1_needKind : List Cond := .code yX1_needKind cX1_needKind 3 (some .int) :: ([.fieldLink RX1 52 "OptimaWorks$Model" "plainRows" "I", .fieldLink RX1 45 "OptimaWorks$Model" "variables" "I"] ++ wsX10)
theorem iwsMX1_needKind_in1 : ∀ w ∈ wsX10, w ∈ wsMX1_needKind := fun _ h => List.mem_cons_of_mem _ (List.mem_append_right _ h)
theorem gdwsMX1_needKind : wsMX1_needKind.all goodWord = true := gdC rfl (gdA (by decide +kernel : ([.fieldLink RX1 52 "OptimaWorks$Model" "plainRows" "I", .fieldLink RX1 45 "OptimaWorks$Model" "variables" "I"] : List Cond).all goodWord = true) gdwsX10)
set_option maxHeartbeats 4000000 in
set_option maxRecDepth 100000 in
/-- the kind of a need -/
theorem m_X1_needKind (l : Launch) (dC : Nat → ClassId) (dI : Nat → Nat → Nat) (hM : Nat → Nat) (aM : Nat → Nat) (kM : Nat → ClassId) (iM_stands : Int32) (iM_variables : Int32) (iM_rows : Int32) (iM_goals : Int32) (iM_differents : Int32) (iM_cases : Int32) (fM_from : Nat → Int32) (fM_to : Nat → Int32) (fM_whole : Nat → Int32) (fM_ways : Nat → Int32) (iM_plainRows : Int32) (fM_plainRow : Nat → Int32) (fM_kept : Nat → Int32) (fM_goalOver : Nat → Int32) (fM_goalUnder : Nat → Int32) (fM_goalMax : Nat → Int32) (fM_different : Nat → Int32) (p1 : Int32) (b_iM_stands : 0 ≤ iM_stands.toInt ∧ iM_stands.toInt ≤ 1) (b_iM_variables : 0 ≤ iM_variables.toInt ∧ iM_variables.toInt ≤ 8) (b_iM_rows : 0 ≤ iM_rows.toInt ∧ iM_rows.toInt ≤ 12) (b_iM_goals : 0 ≤ iM_goals.toInt ∧ iM_goals.toInt ≤ 3) (b_iM_differents : 0 ≤ iM_differents.toInt ∧ iM_differents.toInt ≤ 8) (b_iM_cases : 0 ≤ iM_cases.toInt ∧ iM_cases.toInt ≤ 200000) (b_fM_ways : ∀ q : Nat, 0 ≤ (fM_ways q).toInt ∧ (fM_ways q).toInt ≤ 3) (b_iM_plainRows : 0 ≤ iM_plainRows.toInt ∧ iM_plainRows.toInt ≤ 12) (b_fM_plainRow : ∀ q : Nat, 0 ≤ (fM_plainRow q).toInt ∧ (fM_plainRow q).toInt ≤ 11) (b_pr : iM_plainRows.toInt ≤ iM_rows.toInt) (b_p1 : 0 ≤ p1.toInt ∧ p1.toInt ≤ 27) (hni : p1.toInt < iM_plainRows.toInt + 2 * iM_variables.toInt) (sz : Nat) : Met l yX1_needKind wsMX1_needKind ({ frames := 0, cells := 0, slots := 0, locals := 0 }) (va_Pc [.ref (hM 0), .int p1] (fun U => U.heap.size = sz ∧ va_P (dC, dI) vwCl (WM hM aM kM iM_stands iM_variables iM_rows iM_goals iM_differents iM_cases fM_from fM_to fM_whole fM_ways iM_plainRows fM_plainRow fM_kept fM_goalOver fM_goalUnder fM_goalMax fM_different) U.heap ∧ va_K (dC, dI) vwCl (tM kM) U ∧ va_D (fun _ => True) (WM hM aM kM iM_stands iM_variables iM_rows iM_goals iM_differents iM_cases fM_from fM_to fM_whole fM_ways iM_plainRows fM_plainRow fM_kept fM_goalOver fM_goalUnder fM_goalMax fM_different))) (va_Qi (fun (r : Int32) (u : Unit) => (0 ≤ r.toInt ∧ r.toInt ≤ 2) ∧ ((r.toInt = 0 ∧ p1.toInt < iM_plainRows.toInt) ∨ (¬ r.toInt = 0 ∧ iM_plainRows.toInt ≤ p1.toInt))) (fun (u : Unit) t => va_P (dC, dI) vwCl (WM hM aM kM iM_stands iM_variables iM_rows iM_goals iM_differents iM_cases fM_from fM_to fM_whole fM_ways iM_plainRows fM_plainRow fM_kept fM_goalOver fM_goalUnder fM_goalMax fM_different) t.heap ∧ va_D (va_A (WM hM aM kM iM_stands iM_variables iM_rows iM_goals iM_differents iM_cases fM_from fM_to fM_whole fM_ways iM_plainRows fM_plainRow fM_kept fM_goalOver fM_goalUnder fM_goalMax fM_different) sz) (WM hM aM kM iM_stands iM_variables iM_rows iM_goals iM_differents iM_cases fM_from fM_to fM_whole fM_ways iM_plainRows fM_plainRow fM_kept fM_goalOver fM_goalUnder fM_goalMax fM_different)) (va_A (WM hM aM kM iM_stands iM_variables iM_rows iM_goals iM_differents iM_cases fM_from fM_to fM_whole fM_ways iM_plainRows fM_plainRow fM_kept fM_goalOver fM_goalUnder fM_goalMax fM_different) sz)) 0 0 (va_A (WM hM aM kM iM_stands iM_variables iM_rows iM_goals iM_differents iM_cases fM_from fM_to fM_whole fM_ways iM_plainRows fM_plainRow fM_kept fM_goalOver fM_goalUnder fM_goalMax fM_different) sz) := by
  refine Met.ofW (cc := cX1_needKind) (maxL := 3) (ret := (some .int)) (by decide) rfl ?_
  intro p e s m args below meth c s₁ B hml hv
  obtain ⟨rfl, hsz, hP, hK, hD0⟩ := hv
  have hx := B.exec
  have hb := B.bytes
  have hr := B.returns
  have hts := atoms_spec (ws := wsMX1_needKind) B.pre
  have hown : s.vm.findClass RX1 = some m.cls := findClass_of_methodNamed B.named
  have hlocks := B.notSynchronized
  subst hsz
  have hD := hD0.self (sz := s.heap.size)
  generalize hAe : va_A (WM hM aM kM iM_stands iM_variables iM_rows iM_goals iM_differents iM_cases fM_from fM_to fM_whole fM_ways iM_plainRows fM_plainRow fM_kept fM_goalOver fM_goalUnder fM_goalMax fM_different) s.heap.size = A at hD ⊢
  have hA : ∀ q : Nat, s.heap.size ≤ q → A q := fun q h => by rw [← hAe]; exact Or.inr h
  have hS : va_S A s.heap s.heap [] := va_S.rf
  have hl := lv_entry ([.ref (hM 0), .int p1]) (n := 3) (Nat.le_of_ble_eq_true rfl)
  rw [lg_entry_eq]
  generalize (lg_sl ([.ref (hM 0), .int p1]) ++ List.replicate (3 - (lg_sl ([.ref (hM 0), .int p1])).length) Slot.unset).toArray = ls at hl ⊢
  have hl : lv_has ls 3 [(0, .ref (hM 0)), (1, .int p1)] := hl
  refine lv_iload_n hx hb dX1_needKind_0 rfl (lv_at hl 1 rfl) ?_
  refine lv_aload_n hx hb dX1_needKind_1 rfl (lv_at hl 0 rfl) ?_
  refine va_get (D := (dC, dI)) (ci := 1) (v := .int iM_plainRows) (C := RX1) (T := TX1) (N := 17) hx hb hts iwsMX1_needKind_in1 hown hK hP 0 rfl rfl 10 (by decide) (hts (.fieldLink RX1 52 "OptimaWorks$Model" "plainRows" "I") (by decide +kernel)) (fun _ h9 => h9) rfl dX1_needKind_2 ?_
  refine lv_isub hx hb dX1_needKind_5 ?_
  refine lv_topi (fun y1 hy1 => ?_)
  obtain rfl : (iI (p1.toInt - iM_plainRows.toInt)) = y1 := (hy1.trans (iI_sub2 (iI_of _) (iI_of _))).symm
  refine lv_istore_n hx hb dX1_needKind_6 rfl hl (by decide) rfl (fun ls (hl : lv_has ls _ ([(2, .int (iI (p1.toInt - iM_plainRows.toInt))), (0, .ref (hM 0)), (1, .int p1)])) => ?_)
  refine lv_iload_n hx hb dX1_needKind_7 rfl (lv_at hl 0 rfl) ?_
  refine lv_if_ge (tgt := 15) hx hb dX1_needKind_8 (by decide) (fun c_8 => ?_) (fun c_8 => ?_)
  · have t_8 : (p1.toInt - iM_plainRows.toInt) ≥ 0 := toI_ge c_8 (iI_t (Int.le_trans (by decide) (Int.sub_le_sub (b_p1.1) (b_iM_plainRows.2))) (Int.le_trans (Int.sub_le_sub (b_p1.2) (b_iM_plainRows.1)) (by decide))) (by decide : (0 : Int32).toInt = 0)
    refine lv_iload_n hx hb dX1_needKind_15 rfl (lv_at hl 0 rfl) ?_
    refine lv_aload_n hx hb dX1_needKind_16 rfl (lv_at hl 1 rfl) ?_
    refine va_get (D := (dC, dI)) (ci := 1) (v := .int iM_variables) (C := RX1) (T := TX1) (N := 17) hx hb hts iwsMX1_needKind_in1 hown hK hP 0 rfl rfl 1 (by decide) (hts (.fieldLink RX1 45 "OptimaWorks$Model" "variables" "I") (by decide +kernel)) (fun _ h9 => h9) rfl dX1_needKind_17 ?_
    refine lv_icmp_ge (tgt := 27) hx hb dX1_needKind_20 (by decide) (fun c_20 => ?_) (fun c_20 => ?_)
    · have t_20 : (p1.toInt - iM_plainRows.toInt) ≥ iM_variables.toInt := toI_ge c_20 (iI_t (Int.le_trans (by decide) (Int.sub_le_sub (b_p1.1) (b_iM_plainRows.2))) (Int.le_trans (Int.sub_le_sub (b_p1.2) (b_iM_plainRows.1)) (by decide))) rfl
      refine lv_iconst (v := 2) hx hb dX1_needKind_27 (by decide) ?_
      refine W.widen (k := 0) (n := 0) (by decide +kernel) (by decide +kernel) ?_
      exact W.iret (v := 2) hx hb hr (fun t9_ ht hW => ⟨⟨(2 : Int32), (), rfl, ⟨(show 0 ≤ (2 : Int32).toInt ∧ (2 : Int32).toInt ≤ 2 from by decide), (by (try dsimp only); first | (left; refine ⟨by decide, ?_⟩; omega) | (right; refine ⟨by decide, ?_⟩; omega) | omega)⟩, by rw [ht]; exact hP, hD⟩, hS.F ht⟩) hS.2.2 dX1_needKind_28
    · have t_20 : ¬ (p1.toInt - iM_plainRows.toInt) ≥ iM_variables.toInt := toI_nge c_20 (iI_t (Int.le_trans (by decide) (Int.sub_le_sub (b_p1.1) (b_iM_plainRows.2))) (Int.le_trans (Int.sub_le_sub (b_p1.2) (b_iM_plainRows.1)) (by decide))) rfl
      refine lv_iconst (v := 1) hx hb dX1_needKind_23 (by decide) ?_
      refine lv_goto (tgt := 28) hx hb dX1_needKind_24 (by decide) ?_
      refine W.widen (k := 0) (n := 0) (by decide +kernel) (by decide +kernel) ?_
      exact W.iret (v := 1) hx hb hr (fun t9_ ht hW => ⟨⟨(1 : Int32), (), rfl, ⟨(show 0 ≤ (1 : Int32).toInt ∧ (1 : Int32).toInt ≤ 2 from by decide), (by (try dsimp only); first | (left; refine ⟨by decide, ?_⟩; omega) | (right; refine ⟨by decide, ?_⟩; omega) | omega)⟩, by rw [ht]; exact hP, hD⟩, hS.F ht⟩) hS.2.2 dX1_needKind_28
  · have t_8 : ¬ (p1.toInt - iM_plainRows.toInt) ≥ 0 := toI_nge c_8 (iI_t (Int.le_trans (by decide) (Int.sub_le_sub (b_p1.1) (b_iM_plainRows.2))) (Int.le_trans (Int.sub_le_sub (b_p1.2) (b_iM_plainRows.1)) (by decide))) (by decide : (0 : Int32).toInt = 0)
    refine lv_iconst (v := 0) hx hb dX1_needKind_11 (by decide) ?_
    refine lv_goto (tgt := 28) hx hb dX1_needKind_12 (by decide) ?_
    refine W.widen (k := 0) (n := 0) (by decide +kernel) (by decide +kernel) ?_
    exact W.iret (v := 0) hx hb hr (fun t9_ ht hW => ⟨⟨(0 : Int32), (), rfl, ⟨(show 0 ≤ (0 : Int32).toInt ∧ (0 : Int32).toInt ≤ 2 from by decide), (by (try dsimp only); first | (left; refine ⟨by decide, ?_⟩; omega) | (right; refine ⟨by decide, ?_⟩; omega) | omega)⟩, by rw [ht]; exact hP, hD⟩, hS.F ht⟩) hS.2.2 dX1_needKind_28
theorem dX1_needOf_0 : decode cX1_needOf 0 = .ok (.iload_n 1, 1) := dk_27 (by decide +kernel)
theorem dX1_needOf_1 : decode cX1_needOf 1 = .ok (.aload_n 0, 1) := dk_42 (by decide +kernel)
theorem dX1_needOf_2 : decode cX1_needOf 2 = .ok (.getfield 52, 3) := dk_180 (by decide +kernel)
theorem dX1_needOf_5 : decode cX1_needOf 5 = .ok (.isub, 1) := dk_100 (by decide +kernel)
theorem dX1_needOf_6 : decode cX1_needOf 6 = .ok (.istore_n 2, 1) := dk_61 (by decide +kernel)
theorem dX1_needOf_7 : decode cX1_needOf 7 = .ok (.iload_n 2, 1) := dk_28 (by decide +kernel)
theorem dX1_needOf_8 : decode cX1_needOf 8 = .ok (.ifCond .ge 12, 3) := dk_156 (by decide +kernel)
theorem dX1_needOf_11 : decode cX1_needOf 11 = .ok (.aload_n 0, 1) := dk_42 (by decide +kernel)
theorem dX1_needOf_12 : decode cX1_needOf 12 = .ok (.getfield 23, 3) := dk_180 (by decide +kernel)
theorem dX1_needOf_15 : decode cX1_needOf 15 = .ok (.iload_n 1, 1) := dk_27 (by decide +kernel)
theorem dX1_needOf_16 : decode cX1_needOf 16 = .ok (.iaload, 1) := dk_46 (by decide +kernel)
theorem dX1_needOf_17 : decode cX1_needOf 17 = .ok (.goto 21, 3) := dk_167 (by decide +kernel)
theorem dX1_needOf_20 : decode cX1_needOf 20 = .ok (.iload_n 2, 1) := dk_28 (by decide +kernel)
theorem dX1_needOf_21 : decode cX1_needOf 21 = .ok (.aload_n 0, 1) := dk_42 (by decide +kernel)
theorem dX1_needOf_22 : decode cX1_needOf 22 = .ok (.getfield 45, 3) := dk_180 (by decide +kernel)
theorem dX1_needOf_25 : decode cX1_needOf 25 = .ok (.if_icmp .ge 7, 3) := dk_162 (by decide +kernel)
theorem dX1_needOf_28 : decode cX1_needOf 28 = .ok (.iload_n 2, 1) := dk_28 (by decide +kernel)
theorem dX1_needOf_29 : decode cX1_needOf 29 = .ok (.goto 9, 3) := dk_167 (by decide +kernel)
theorem dX1_needOf_32 : decode cX1_needOf 32 = .ok (.iload_n 2, 1) := dk_28 (by decide +kernel)
theorem dX1_needOf_33 : decode cX1_needOf 33 = .ok (.aload_n 0, 1) := dk_42 (by decide +kernel)
theorem dX1_needOf_34 : decode cX1_needOf 34 = .ok (.getfield 45, 3) := dk_180 (by decide +kernel)
theorem dX1_needOf_37 : decode cX1_needOf 37 = .ok (.isub, 1) := dk_100 (by decide +kernel)
theorem dX1_needOf_38 : decode cX1_needOf 38 = .ok (.ireturn, 1) := dk_172 (by decide +kernel)
def wsMX1_needOf : List Cond := .code yX1_needOf cX1_needOf 3 (some .int) :: ([.fieldLink RX1 52 "OptimaWorks$Model" "plainRows" "I", .fieldLink RX1 45 "OptimaWorks$Model" "variables" "I", .fieldLink RX1 23 "OptimaWorks$Model" "plainRow" "[I"] ++ wsX10)
theorem iwsMX1_needOf_in1 : ∀ w ∈ wsX10, w ∈ wsMX1_needOf := fun _ h => List.mem_cons_of_mem _ (List.mem_append_right _ h)
theorem gdwsMX1_needOf : wsMX1_needOf.all goodWord = true := gdC rfl (gdA (by decide +kernel : ([.fieldLink RX1 52 "OptimaWorks$Model" "plainRows" "I", .fieldLink RX1 45 "OptimaWorks$Model" "variables" "I", .fieldLink RX1 23 "OptimaWorks$Model" "plainRow" "[I"] : List Cond).all goodWord = true) gdwsX10)
theorem hm_m_X1_needOf_0 : (.fieldLink RX1 45 "OptimaWorks$Model" "variables" "I" : Cond) ∈ wsMX1_needOf := by decide +kernel
set_option maxHeartbeats 4000000 in
set_option maxRecDepth 100000 in
/-- whose need -/
theorem m_X1_needOf (l : Launch) (dC : Nat → ClassId) (dI : Nat → Nat → Nat) (hM : Nat → Nat) (aM : Nat → Nat) (kM : Nat → ClassId) (iM_stands : Int32) (iM_variables : Int32) (iM_rows : Int32) (iM_goals : Int32) (iM_differents : Int32) (iM_cases : Int32) (fM_from : Nat → Int32) (fM_to : Nat → Int32) (fM_whole : Nat → Int32) (fM_ways : Nat → Int32) (iM_plainRows : Int32) (fM_plainRow : Nat → Int32) (fM_kept : Nat → Int32) (fM_goalOver : Nat → Int32) (fM_goalUnder : Nat → Int32) (fM_goalMax : Nat → Int32) (fM_different : Nat → Int32) (p1 : Int32) (b_iM_stands : 0 ≤ iM_stands.toInt ∧ iM_stands.toInt ≤ 1) (b_iM_variables : 0 ≤ iM_variables.toInt ∧ iM_variables.toInt ≤ 8) (b_iM_rows : 0 ≤ iM_rows.toInt ∧ iM_rows.toInt ≤ 12) (b_iM_goals : 0 ≤ iM_goals.toInt ∧ iM_goals.toInt ≤ 3) (b_iM_differents : 0 ≤ iM_differents.toInt ∧ iM_differents.toInt ≤ 8) (b_iM_cases : 0 ≤ iM_cases.toInt ∧ iM_cases.toInt ≤ 200000) (b_fM_ways : ∀ q : Nat, 0 ≤ (fM_ways q).toInt ∧ (fM_ways q).toInt ≤ 3) (b_iM_plainRows : 0 ≤ iM_plainRows.toInt ∧ iM_plainRows.toInt ≤ 12) (b_fM_plainRow : ∀ q : Nat, 0 ≤ (fM_plainRow q).toInt ∧ (fM_plainRow q).toInt ≤ 11) (b_pr : iM_plainRows.toInt ≤ iM_rows.toInt) (b_p1 : 0 ≤ p1.toInt ∧ p1.toInt ≤ 27) (hni : p1.toInt < iM_plainRows.toInt + 2 * iM_variables.toInt) (sz : Nat) : Met l yX1_needOf wsMX1_needOf ({ frames := 0, cells := 0, slots := 0, locals := 0 }) (va_Pc [.ref (hM 0), .int p1] (fun U => U.heap.size = sz ∧ va_P (dC, dI) vwCl (WM hM aM kM iM_stands iM_variables iM_rows iM_goals iM_differents iM_cases fM_from fM_to fM_whole fM_ways iM_plainRows fM_plainRow fM_kept fM_goalOver fM_goalUnder fM_goalMax fM_different) U.heap ∧ va_K (dC, dI) vwCl (tM kM) U ∧ va_D (fun _ => True) (WM hM aM kM iM_stands iM_variables iM_rows iM_goals iM_differents iM_cases fM_from fM_to fM_whole fM_ways iM_plainRows fM_plainRow fM_kept fM_goalOver fM_goalUnder fM_goalMax fM_different))) (va_Qi (fun (r : Int32) (u : Unit) => (0 ≤ r.toInt ∧ r.toInt ≤ 11) ∧ ((p1.toInt < iM_plainRows.toInt ∧ 0 ≤ r.toInt ∧ r.toInt ≤ 11) ∨ (iM_plainRows.toInt ≤ p1.toInt ∧ 0 ≤ r.toInt ∧ r.toInt ≤ 7))) (fun (u : Unit) t => va_P (dC, dI) vwCl (WM hM aM kM iM_stands iM_variables iM_rows iM_goals iM_differents iM_cases fM_from fM_to fM_whole fM_ways iM_plainRows fM_plainRow fM_kept fM_goalOver fM_goalUnder fM_goalMax fM_different) t.heap ∧ va_D (va_A (WM hM aM kM iM_stands iM_variables iM_rows iM_goals iM_differents iM_cases fM_from fM_to fM_whole fM_ways iM_plainRows fM_plainRow fM_kept fM_goalOver fM_goalUnder fM_goalMax fM_different) sz) (WM hM aM kM iM_stands iM_variables iM_rows iM_goals iM_differents iM_cases fM_from fM_to fM_whole fM_ways iM_plainRows fM_plainRow fM_kept fM_goalOver fM_goalUnder fM_goalMax fM_different)) (va_A (WM hM aM kM iM_stands iM_variables iM_rows iM_goals iM_differents iM_cases fM_from fM_to fM_whole fM_ways iM_plainRows fM_plainRow fM_kept fM_goalOver fM_goalUnder fM_goalMax fM_different) sz)) 0 0 (va_A (WM hM aM kM iM_stands iM_variables iM_rows iM_goals iM_differents iM_cases fM_from fM_to fM_whole fM_ways iM_plainRows fM_plainRow fM_kept fM_goalOver fM_goalUnder fM_goalMax fM_different) sz) := by
  refine Met.ofW (cc := cX1_needOf) (maxL := 3) (ret := (some .int)) (by decide) rfl ?_
  intro p e s m args below meth c s₁ B hml hv
  obtain ⟨rfl, hsz, hP, hK, hD0⟩ := hv
  have hx := B.exec
  have hb := B.bytes
  have hr := B.returns
  have hts := atoms_spec (ws := wsMX1_needOf) B.pre
  have hown : s.vm.findClass RX1 = some m.cls := findClass_of_methodNamed B.named
  have hlocks := B.notSynchronized
  subst hsz
  have hD := hD0.self (sz := s.heap.size)
  generalize hAe : va_A (WM hM aM kM iM_stands iM_variables iM_rows iM_goals iM_differents iM_cases fM_from fM_to fM_whole fM_ways iM_plainRows fM_plainRow fM_kept fM_goalOver fM_goalUnder fM_goalMax fM_different) s.heap.size = A at hD ⊢
  have hA : ∀ q : Nat, s.heap.size ≤ q → A q := fun q h => by rw [← hAe]; exact Or.inr h
  have hS : va_S A s.heap s.heap [] := va_S.rf
  have hl := lv_entry ([.ref (hM 0), .int p1]) (n := 3) (Nat.le_of_ble_eq_true rfl)
  rw [lg_entry_eq]
  generalize (lg_sl ([.ref (hM 0), .int p1]) ++ List.replicate (3 - (lg_sl ([.ref (hM 0), .int p1])).length) Slot.unset).toArray = ls at hl ⊢
  have hl : lv_has ls 3 [(0, .ref (hM 0)), (1, .int p1)] := hl
  refine lv_iload_n hx hb dX1_needOf_0 rfl (lv_at hl 1 rfl) ?_
  refine lv_aload_n hx hb dX1_needOf_1 rfl (lv_at hl 0 rfl) ?_
  refine va_get (D := (dC, dI)) (ci := 1) (v := .int iM_plainRows) (C := RX1) (T := TX1) (N := 17) hx hb hts iwsMX1_needOf_in1 hown hK hP 0 rfl rfl 10 (by decide) (hts (.fieldLink RX1 52 "OptimaWorks$Model" "plainRows" "I") (by decide +kernel)) (fun _ h9 => h9) rfl dX1_needOf_2 ?_
  refine lv_isub hx hb dX1_needOf_5 ?_
  refine lv_topi (fun y1 hy1 => ?_)
  obtain rfl : (iI (p1.toInt - iM_plainRows.toInt)) = y1 := (hy1.trans (iI_sub2 (iI_of _) (iI_of _))).symm
  refine lv_istore_n hx hb dX1_needOf_6 rfl hl (by decide) rfl (fun ls (hl : lv_has ls _ ([(2, .int (iI (p1.toInt - iM_plainRows.toInt))), (0, .ref (hM 0)), (1, .int p1)])) => ?_)
  refine lv_iload_n hx hb dX1_needOf_7 rfl (lv_at hl 0 rfl) ?_
  refine lv_if_ge (tgt := 20) hx hb dX1_needOf_8 (by decide) (fun c_8 => ?_) (fun c_8 => ?_)
  · have t_8 : (p1.toInt - iM_plainRows.toInt) ≥ 0 := toI_ge c_8 (iI_t (Int.le_trans (by decide) (Int.sub_le_sub (b_p1.1) (b_iM_plainRows.2))) (Int.le_trans (Int.sub_le_sub (b_p1.2) (b_iM_plainRows.1)) (by decide))) (by decide : (0 : Int32).toInt = 0)
    refine lv_iload_n hx hb dX1_needOf_20 rfl (lv_at hl 0 rfl) ?_
    refine lv_aload_n hx hb dX1_needOf_21 rfl (lv_at hl 1 rfl) ?_
    refine va_get (D := (dC, dI)) (ci := 1) (v := .int iM_variables) (C := RX1) (T := TX1) (N := 17) hx hb hts iwsMX1_needOf_in1 hown hK hP 0 rfl rfl 1 (by decide) (hts _ hm_m_X1_needOf_0) (fun _ h9 => h9) rfl dX1_needOf_22 ?_
    refine lv_icmp_ge (tgt := 32) hx hb dX1_needOf_25 (by decide) (fun c_25 => ?_) (fun c_25 => ?_)
    · have t_25 : (p1.toInt - iM_plainRows.toInt) ≥ iM_variables.toInt := toI_ge c_25 (iI_t (Int.le_trans (by decide) (Int.sub_le_sub (b_p1.1) (b_iM_plainRows.2))) (Int.le_trans (Int.sub_le_sub (b_p1.2) (b_iM_plainRows.1)) (by decide))) rfl
      refine lv_iload_n hx hb dX1_needOf_32 rfl (lv_at hl 0 rfl) ?_
      refine lv_aload_n hx hb dX1_needOf_33 rfl (lv_at hl 1 rfl) ?_
      refine va_get (D := (dC, dI)) (ci := 1) (v := .int iM_variables) (C := RX1) (T := TX1) (N := 17) hx hb hts iwsMX1_needOf_in1 hown hK hP 0 rfl rfl 1 (by decide) (hts _ hm_m_X1_needOf_0) (fun _ h9 => h9) rfl dX1_needOf_34 ?_
      refine lv_isub hx hb dX1_needOf_37 ?_
      refine lv_topi (fun y2 hy2 => ?_)
      obtain rfl : (iI ((p1.toInt - iM_plainRows.toInt) - iM_variables.toInt)) = y2 := (hy2.trans (iI_sub2 rfl (iI_of _))).symm
      refine W.widen (k := 0) (n := 0) (by decide +kernel) (by decide +kernel) ?_
      exact W.iret (v := (iI ((p1.toInt - iM_plainRows.toInt) - iM_variables.toInt))) hx hb hr (fun t9_ ht hW => ⟨⟨(iI ((p1.toInt - iM_plainRows.toInt) - iM_variables.toInt)), (), rfl, ⟨(iI_rng (by omega) (by omega) (by decide) (by decide)), (by (try dsimp only); (try rw [iI_t (by omega) (by omega)]); omega)⟩, by rw [ht]; exact hP, hD⟩, hS.F ht⟩) hS.2.2 dX1_needOf_38
    · have t_25 : ¬ (p1.toInt - iM_plainRows.toInt) ≥ iM_variables.toInt := toI_nge c_25 (iI_t (Int.le_trans (by decide) (Int.sub_le_sub (b_p1.1) (b_iM_plainRows.2))) (Int.le_trans (Int.sub_le_sub (b_p1.2) (b_iM_plainRows.1)) (by decide))) rfl
      refine lv_iload_n hx hb dX1_needOf_28 rfl (lv_at hl 0 rfl) ?_
      refine lv_goto (tgt := 38) hx hb dX1_needOf_29 (by decide) ?_
      refine W.widen (k := 0) (n := 0) (by decide +kernel) (by decide +kernel) ?_
      exact W.iret (v := (iI (p1.toInt - iM_plainRows.toInt))) hx hb hr (fun t9_ ht hW => ⟨⟨(iI (p1.toInt - iM_plainRows.toInt)), (), rfl, ⟨(iI_rng (by omega) (by omega) (by decide) (by decide)), (by (try dsimp only); (try rw [iI_t (by omega) (by omega)]); omega)⟩, by rw [ht]; exact hP, hD⟩, hS.F ht⟩) hS.2.2 dX1_needOf_38
  · have t_8 : ¬ (p1.toInt - iM_plainRows.toInt) ≥ 0 := toI_nge c_8 (iI_t (Int.le_trans (by decide) (Int.sub_le_sub (b_p1.1) (b_iM_plainRows.2))) (Int.le_trans (Int.sub_le_sub (b_p1.2) (b_iM_plainRows.1)) (by decide))) (by decide : (0 : Int32).toInt = 0)
    refine lv_aload_n hx hb dX1_needOf_11 rfl (lv_at hl 1 rfl) ?_
    refine va_get (D := (dC, dI)) (ci := 1) (v := .ref (aM 4)) (C := RX1) (T := TX1) (N := 17) hx hb hts iwsMX1_needOf_in1 hown hK hP 0 rfl rfl 11 (by decide) (hts (.fieldLink RX1 23 "OptimaWorks$Model" "plainRow" "[I") (by decide +kernel)) (fun _ h9 => h9) rfl dX1_needOf_12 ?_
    refine lv_iload_n hx hb dX1_needOf_15 rfl (lv_at hl 2 rfl) ?_
    refine va_iald (cA := kM 4) (n := 12) (f := fM_plainRow) hx hb hK hP 5 4 rfl rfl (vp_in_iff.mpr ⟨b_p1.1, (by omega)⟩) dX1_needOf_16 ?_
    refine lv_topi (fun v3 hv3 => ?_)
    have b_v3 : 0 ≤ v3.toInt ∧ v3.toInt ≤ 11 := by rw [hv3]; exact b_fM_plainRow _
    clear hv3
    refine lv_goto (tgt := 38) hx hb dX1_needOf_17 (by decide) ?_
    refine W.widen (k := 0) (n := 0) (by decide +kernel) (by decide +kernel) ?_
    exact W.iret (v := v3) hx hb hr (fun t9_ ht hW => ⟨⟨v3, (), rfl, ⟨(b_v3), (by (try dsimp only); (try rw [iI_t (by omega) (by omega)]); omega)⟩, by rw [ht]; exact hP, hD⟩, hS.F ht⟩) hS.2.2 dX1_needOf_38
theorem dX1_isEvenNeed_0 : decode cX1_isEvenNeed 0 = .ok (.aload_n 0, 1) := dk_42 (by decide +kernel)
theorem dX1_isEvenNeed_1 : decode cX1_isEvenNeed 1 = .ok (.iload_n 1, 1) := dk_27 (by decide +kernel)
theorem dX1_isEvenNeed_2 : decode cX1_isEvenNeed 2 = .ok (.invokevirtual 64, 3) := dk_182 (by decide +kernel)
theorem dX1_isEvenNeed_5 : decode cX1_isEvenNeed 5 = .ok (.ifCond .ne 21, 3) := dk_154 (by decide +kernel)
theorem dX1_isEvenNeed_8 : decode cX1_isEvenNeed 8 = .ok (.aload_n 0, 1) := dk_42 (by decide +kernel)
theorem dX1_isEvenNeed_9 : decode cX1_isEvenNeed 9 = .ok (.aload_n 0, 1) := dk_42 (by decide +kernel)
theorem dX1_isEvenNeed_10 : decode cX1_isEvenNeed 10 = .ok (.iload_n 1, 1) := dk_27 (by decide +kernel)
theorem dX1_isEvenNeed_11 : decode cX1_isEvenNeed 11 = .ok (.invokevirtual 68, 3) := dk_182 (by decide +kernel)
theorem dX1_isEvenNeed_14 : decode cX1_isEvenNeed 14 = .ok (.iconst 0, 1) := dk_3 (by decide +kernel)
theorem dX1_isEvenNeed_15 : decode cX1_isEvenNeed 15 = .ok (.invokevirtual 71, 3) := dk_182 (by decide +kernel)
theorem dX1_isEvenNeed_18 : decode cX1_isEvenNeed 18 = .ok (.iconst 2, 1) := dk_5 (by decide +kernel)
theorem dX1_isEvenNeed_19 : decode cX1_isEvenNeed 19 = .ok (.if_icmp .ne 7, 3) := dk_160 (by decide +kernel)
theorem dX1_isEvenNeed_22 : decode cX1_isEvenNeed 22 = .ok (.iconst 1, 1) := dk_4 (by decide +kernel)
theorem dX1_isEvenNeed_23 : decode cX1_isEvenNeed 23 = .ok (.goto 4, 3) := dk_167 (by decide +kernel)
theorem dX1_isEvenNeed_26 : decode cX1_isEvenNeed 26 = .ok (.iconst 0, 1) := dk_3 (by decide +kernel)
theorem dX1_isEvenNeed_27 : decode cX1_isEvenNeed 27 = .ok (.ireturn, 1) := dk_172 (by decide +kernel)
def wsMX1_isEvenNeed : List Cond := .code yX1_isEvenNeed cX1_isEvenNeed 2 (some .boolean) :: ([] ++ (wsV RX1 64 RX1 yX1_needKind wsMX1_needKind) ++ (wsV RX1 68 RX1 yX1_needOf wsMX1_needOf) ++ (wsV RX1 71 RX1 yX1_sign wsMX1_sign))
theorem gwsMX1_isEvenNeed_0 : GoodIn wsMX1_isEvenNeed (wsV RX1 64 RX1 yX1_needKind wsMX1_needKind) := goodIn_sub (fun _ h => List.mem_cons_of_mem _ (List.mem_append_left _ (List.mem_append_left _ (List.mem_append_right _ h)))) (gdV (by decide +kernel) gdwsMX1_needKind)
theorem gwsMX1_isEvenNeed_1 : GoodIn wsMX1_isEvenNeed (wsV RX1 68 RX1 yX1_needOf wsMX1_needOf) := goodIn_sub (fun _ h => List.mem_cons_of_mem _ (List.mem_append_left _ (List.mem_append_right _ h))) (gdV (by decide +kernel) gdwsMX1_needOf)
theorem gwsMX1_isEvenNeed_2 : GoodIn wsMX1_isEvenNeed (wsV RX1 71 RX1 yX1_sign wsMX1_sign) := goodIn_sub (fun _ h => List.mem_cons_of_mem _ (List.mem_append_right _ h)) (gdV (by decide +kernel) gdwsMX1_sign)
theorem gdwsMX1_isEvenNeed : wsMX1_isEvenNeed.all goodWord = true := gdC rfl (gdA (gdA (gdA (by decide +kernel : ([] : List Cond).all goodWord = true) (gdV (by decide +kernel) gdwsMX1_needKind)) (gdV (by decide +kernel) gdwsMX1_needOf)) (gdV (by decide +kernel) gdwsMX1_sign))
set_option maxHeartbeats 4000000 in
set_option maxRecDepth 100000 in
/-- both ways -/
theorem m_X1_isEvenNeed (l : Launch) (dC : Nat → ClassId) (dI : Nat → Nat → Nat) (hM : Nat → Nat) (aM : Nat → Nat) (kM : Nat → ClassId) (iM_stands : Int32) (iM_variables : Int32) (iM_rows : Int32) (iM_goals : Int32) (iM_differents : Int32) (iM_cases : Int32) (fM_from : Nat → Int32) (fM_to : Nat → Int32) (fM_whole : Nat → Int32) (fM_ways : Nat → Int32) (iM_plainRows : Int32) (fM_plainRow : Nat → Int32) (fM_kept : Nat → Int32) (fM_goalOver : Nat → Int32) (fM_goalUnder : Nat → Int32) (fM_goalMax : Nat → Int32) (fM_different : Nat → Int32) (p1 : Int32) (b_iM_stands : 0 ≤ iM_stands.toInt ∧ iM_stands.toInt ≤ 1) (b_iM_variables : 0 ≤ iM_variables.toInt ∧ iM_variables.toInt ≤ 8) (b_iM_rows : 0 ≤ iM_rows.toInt ∧ iM_rows.toInt ≤ 12) (b_iM_goals : 0 ≤ iM_goals.toInt ∧ iM_goals.toInt ≤ 3) (b_iM_differents : 0 ≤ iM_differents.toInt ∧ iM_differents.toInt ≤ 8) (b_iM_cases : 0 ≤ iM_cases.toInt ∧ iM_cases.toInt ≤ 200000) (b_fM_ways : ∀ q : Nat, 0 ≤ (fM_ways q).toInt ∧ (fM_ways q).toInt ≤ 3) (b_iM_plainRows : 0 ≤ iM_plainRows.toInt ∧ iM_plainRows.toInt ≤ 12) (b_fM_plainRow : ∀ q : Nat, 0 ≤ (fM_plainRow q).toInt ∧ (fM_plainRow q).toInt ≤ 11) (b_pr : iM_plainRows.toInt ≤ iM_rows.toInt) (b_p1 : 0 ≤ p1.toInt ∧ p1.toInt ≤ 27) (hni : p1.toInt < iM_plainRows.toInt + 2 * iM_variables.toInt) (sz : Nat) : Met l yX1_isEvenNeed wsMX1_isEvenNeed ({ frames := 1, cells := 0, slots := 0, locals := 22 }) (va_Pc [.ref (hM 0), .int p1] (fun U => U.heap.size = sz ∧ va_P (dC, dI) vwCl (WM hM aM kM iM_stands iM_variables iM_rows iM_goals iM_differents iM_cases fM_from fM_to fM_whole fM_ways iM_plainRows fM_plainRow fM_kept fM_goalOver fM_goalUnder fM_goalMax fM_different) U.heap ∧ va_K (dC, dI) vwCl (tM kM) U ∧ va_D (fun _ => True) (WM hM aM kM iM_stands iM_variables iM_rows iM_goals iM_differents iM_cases fM_from fM_to fM_whole fM_ways iM_plainRows fM_plainRow fM_kept fM_goalOver fM_goalUnder fM_goalMax fM_different))) (va_Qi (fun (r : Int32) (u : Unit) => (0 ≤ r.toInt ∧ r.toInt ≤ 1) ∧ (r.toInt ≠ 0 → p1.toInt < iM_plainRows.toInt)) (fun (u : Unit) t => va_P (dC, dI) vwCl (WM hM aM kM iM_stands iM_variables iM_rows iM_goals iM_differents iM_cases fM_from fM_to fM_whole fM_ways iM_plainRows fM_plainRow fM_kept fM_goalOver fM_goalUnder fM_goalMax fM_different) t.heap ∧ va_D (va_A (WM hM aM kM iM_stands iM_variables iM_rows iM_goals iM_differents iM_cases fM_from fM_to fM_whole fM_ways iM_plainRows fM_plainRow fM_kept fM_goalOver fM_goalUnder fM_goalMax fM_different) sz) (WM hM aM kM iM_stands iM_variables iM_rows iM_goals iM_differents iM_cases fM_from fM_to fM_whole fM_ways iM_plainRows fM_plainRow fM_kept fM_goalOver fM_goalUnder fM_goalMax fM_different)) (va_A (WM hM aM kM iM_stands iM_variables iM_rows iM_goals iM_differents iM_cases fM_from fM_to fM_whole fM_ways iM_plainRows fM_plainRow fM_kept fM_goalOver fM_goalUnder fM_goalMax fM_different) sz)) 0 0 (va_A (WM hM aM kM iM_stands iM_variables iM_rows iM_goals iM_differents iM_cases fM_from fM_to fM_whole fM_ways iM_plainRows fM_plainRow fM_kept fM_goalOver fM_goalUnder fM_goalMax fM_different) sz) := by
  refine Met.ofW (cc := cX1_isEvenNeed) (maxL := 2) (ret := (some .boolean)) (by decide) rfl ?_
  intro p e s m args below meth c s₁ B hml hv
  obtain ⟨rfl, hsz, hP, hK, hD0⟩ := hv
  have hx := B.exec
  have hb := B.bytes
  have hr := B.returns
  have hts := atoms_spec (ws := wsMX1_isEvenNeed) B.pre
  have hown : s.vm.findClass RX1 = some m.cls := findClass_of_methodNamed B.named
  have hlocks := B.notSynchronized
  subst hsz
  have hD := hD0.self (sz := s.heap.size)
  generalize hAe : va_A (WM hM aM kM iM_stands iM_variables iM_rows iM_goals iM_differents iM_cases fM_from fM_to fM_whole fM_ways iM_plainRows fM_plainRow fM_kept fM_goalOver fM_goalUnder fM_goalMax fM_different) s.heap.size = A at hD ⊢
  have hA : ∀ q : Nat, s.heap.size ≤ q → A q := fun q h => by rw [← hAe]; exact Or.inr h
  have hS : va_S A s.heap s.heap [] := va_S.rf
  have hl := lv_entry ([.ref (hM 0), .int p1]) (n := 2) (Nat.le_of_ble_eq_true rfl)
  rw [lg_entry_eq]
  generalize (lg_sl ([.ref (hM 0), .int p1]) ++ List.replicate (2 - (lg_sl ([.ref (hM 0), .int p1])).length) Slot.unset).toArray = ls at hl ⊢
  have hl : lv_has ls 2 [(0, .ref (hM 0)), (1, .int p1)] := hl
  refine lv_aload_n hx hb dX1_isEvenNeed_0 rfl (lv_at hl 0 rfl) ?_
  refine lv_iload_n hx hb dX1_isEvenNeed_1 rfl (lv_at hl 1 rfl) ?_
  have hFc := allFree hD hS hA
  refine va_calli (va_runV (As := [.int p1]) (rest := []) ⟨hx, hb, hml, hown, hts⟩ (m_X1_needKind l dC dI hM aM kM iM_stands iM_variables iM_rows iM_goals iM_differents iM_cases fM_from fM_to fM_whole fM_ways iM_plainRows fM_plainRow fM_kept fM_goalOver fM_goalUnder fM_goalMax fM_different p1 (b_iM_stands) (b_iM_variables) (b_iM_rows) (b_iM_goals) (b_iM_differents) (b_iM_cases) b_fM_ways (b_iM_plainRows) b_fM_plainRow (by first | with_reducible assumption | omega | assumption) (b_p1) (by first | with_reducible assumption | omega | (rw [iI_t (by omega) (by omega)]; omega) | decide | assumption) s.heap.size) (cwV 1 hts gwsMX1_isEvenNeed_0 rfl rfl rfl hd_yX1_needKind_RX1 (by decide +kernel)) (fz_pre (va_recv hK hP (ci := 1) (q0 := 0) rfl rfl) hP hK hD) rfl rfl hl.1 rfl (lv_room (Nat.le_of_ble_eq_true rfl)) dX1_isEvenNeed_2 (by decide +kernel)) hS (fun q _ h => hFc q h) hFc (fun r1 u t9_ H locs ht hvm hw9 hB9 hz1 hk1 hS => ?_)
  revert hw9
  refine fz_a2 ?_
  intro b_r1 f1_0
  have hP : va_P (dC, dI) vwCl (WM hM aM kM iM_stands iM_variables iM_rows iM_goals iM_differents iM_cases fM_from fM_to fM_whole fM_ways iM_plainRows fM_plainRow fM_kept fM_goalOver fM_goalUnder fM_goalMax fM_different) H := fz_P ht hB9.1
  have hD := fz_sd hP (hB9.2.weaken (fun _ q _ h => hFc q.1 h)) rfl
  refine W.cut (pc := 27) (fun H locs ls stk => ∃ (k0_j2 : Int32), (0 ≤ k0_j2.toInt ∧ k0_j2.toInt ≤ 1) ∧ (k0_j2.toInt ≠ 0 → p1.toInt < iM_plainRows.toInt) ∧  stk = [.int k0_j2] ∧ va_P (dC, dI) vwCl (WM hM aM kM iM_stands iM_variables iM_rows iM_goals iM_differents iM_cases fM_from fM_to fM_whole fM_ways iM_plainRows fM_plainRow fM_kept fM_goalOver fM_goalUnder fM_goalMax fM_different) H ∧ va_D A (WM hM aM kM iM_stands iM_variables iM_rows iM_goals iM_differents iM_cases fM_from fM_to fM_whole fM_ways iM_plainRows fM_plainRow fM_kept fM_goalOver fM_goalUnder fM_goalMax fM_different) ∧ va_S A s.heap H locs ∧ lv_has ls 2 [(0, .ref (hM 0)), (1, .int p1)]) (fun join2 => ?_) ?_
  · refine lv_if_ne (tgt := 26) hx hb dX1_isEvenNeed_5 (by decide) (fun c_5 => ?_) (fun c_5 => ?_)
    · have t_5 : r1.toInt ≠ 0 := toI_ne c_5 rfl (by decide : (0 : Int32).toInt = 0)
      refine lv_iconst (v := 0) hx hb dX1_isEvenNeed_26 (by decide) ?_
      have hl : lv_has _ _ ([(0, .ref (hM 0)), (1, .int p1)]) := lv_sub hl [0, 1] rfl
      exact join2 _ _ _ _ ⟨0, (show 0 ≤ (0 : Int32).toInt ∧ (0 : Int32).toInt ≤ 1 from by decide), (show (0 : Int32).toInt ≠ 0 → p1.toInt < iM_plainRows.toInt from by first | (intro h9; exact absurd (by decide) h9) | (intro h9; omega)), rfl, hP, hD, hS, hl⟩
    · have t_5 : r1.toInt = 0 := toI_nne c_5 rfl (by decide : (0 : Int32).toInt = 0)
      refine lv_aload_n hx hb dX1_isEvenNeed_8 rfl (lv_at hl 0 rfl) ?_
      refine lv_aload_n hx hb dX1_isEvenNeed_9 rfl (lv_at hl 0 rfl) ?_
      refine lv_iload_n hx hb dX1_isEvenNeed_10 rfl (lv_at hl 1 rfl) ?_
      have hFc := allFree hD hS hA
      refine va_calli (va_runV (As := [.int p1]) (rest := [.ref (hM 0)]) ⟨hx, hb, hml, hown, hts⟩ (m_X1_needOf l dC dI hM aM kM iM_stands iM_variables iM_rows iM_goals iM_differents iM_cases fM_from fM_to fM_whole fM_ways iM_plainRows fM_plainRow fM_kept fM_goalOver fM_goalUnder fM_goalMax fM_different p1 (b_iM_stands) (b_iM_variables) (b_iM_rows) (b_iM_goals) (b_iM_differents) (b_iM_cases) b_fM_ways (b_iM_plainRows) b_fM_plainRow (by first | with_reducible assumption | omega | assumption) (b_p1) (by first | with_reducible assumption | omega | (rw [iI_t (by omega) (by omega)]; omega) | decide | assumption) H.size) (cwV 1 hts gwsMX1_isEvenNeed_1 rfl rfl rfl hd_yX1_needOf_RX1 (by decide +kernel)) (fz_pre (va_recv hK hP (ci := 1) (q0 := 0) rfl rfl) hP hK hD) rfl rfl hl.1 rfl (lv_room (Nat.le_of_ble_eq_true rfl)) dX1_isEvenNeed_11 (by decide +kernel)) hS (fun q _ h => hFc q h) hFc (fun r4 u t9_ H locs ht hvm hw9 hB9 hz1 hk1 hS => ?_)
      revert hw9
      refine fz_a2 ?_
      intro b_r4 f4_0
      have hP : va_P (dC, dI) vwCl (WM hM aM kM iM_stands iM_variables iM_rows iM_goals iM_differents iM_cases fM_from fM_to fM_whole fM_ways iM_plainRows fM_plainRow fM_kept fM_goalOver fM_goalUnder fM_goalMax fM_different) H := fz_P ht hB9.1
      have hD := fz_sd hP (hB9.2.weaken (fun _ q _ h => hFc q.1 h)) rfl
      refine lv_iconst (v := 0) hx hb dX1_isEvenNeed_14 (by decide) ?_
      have hFc := allFree hD hS hA
      refine va_calli (va_runV (As := [.int r4, .int 0]) (rest := []) ⟨hx, hb, hml, hown, hts⟩ (m_X1_sign l dC dI hM aM kM iM_stands iM_variables iM_rows iM_goals iM_differents iM_cases fM_from fM_to fM_whole fM_ways iM_plainRows fM_plainRow fM_kept fM_goalOver fM_goalUnder fM_goalMax fM_different r4 0 (b_iM_stands) (b_iM_variables) (b_iM_rows) (b_iM_goals) (b_iM_differents) (b_iM_cases) b_fM_ways (b_iM_plainRows) b_fM_plainRow (by first | with_reducible assumption | omega | assumption) (by first | exact b_r4 | with_reducible assumption | exact ⟨by omega, by omega⟩ | assumption) (show 0 ≤ (0 : Int32).toInt ∧ (0 : Int32).toInt ≤ 2 from by decide) H.size) (cwV 2 hts gwsMX1_isEvenNeed_2 rfl rfl rfl hd_yX1_sign_RX1 (by decide +kernel)) (fz_pre (va_recv hK hP (ci := 1) (q0 := 0) rfl rfl) hP hK hD) rfl rfl hl.1 rfl (lv_room (Nat.le_of_ble_eq_true rfl)) dX1_isEvenNeed_15 (by decide +kernel)) hS (fun q _ h => hFc q h) hFc (fun r5 u t9_ H locs ht hvm hw9 hB9 hz1 hk1 hS => ?_)
      clear hw9
      have hP : va_P (dC, dI) vwCl (WM hM aM kM iM_stands iM_variables iM_rows iM_goals iM_differents iM_cases fM_from fM_to fM_whole fM_ways iM_plainRows fM_plainRow fM_kept fM_goalOver fM_goalUnder fM_goalMax fM_different) H := fz_P ht hB9.1
      have hD := fz_sd hP (hB9.2.weaken (fun _ q _ h => hFc q.1 h)) rfl
      refine lv_iconst (v := 2) hx hb dX1_isEvenNeed_18 (by decide) ?_
      refine lv_icmp_ne (tgt := 26) hx hb dX1_isEvenNeed_19 (by decide) (fun c_19 => ?_) (fun c_19 => ?_)
      · have t_19 : r5.toInt ≠ 2 := toI_ne c_19 rfl (by decide : (2 : Int32).toInt = 2)
        refine lv_iconst (v := 0) hx hb dX1_isEvenNeed_26 (by decide) ?_
        have hl : lv_has _ _ ([(0, .ref (hM 0)), (1, .int p1)]) := lv_sub hl [0, 1] rfl
        exact join2 _ _ _ _ ⟨0, (show 0 ≤ (0 : Int32).toInt ∧ (0 : Int32).toInt ≤ 1 from by decide), (show (0 : Int32).toInt ≠ 0 → p1.toInt < iM_plainRows.toInt from by first | (intro h9; exact absurd (by decide) h9) | (intro h9; omega)), rfl, hP, hD, hS, hl⟩
      · have t_19 : r5.toInt = 2 := toI_nne c_19 rfl (by decide : (2 : Int32).toInt = 2)
        refine lv_iconst (v := 1) hx hb dX1_isEvenNeed_22 (by decide) ?_
        refine lv_goto (tgt := 27) hx hb dX1_isEvenNeed_23 (by decide) ?_
        have hl : lv_has _ _ ([(0, .ref (hM 0)), (1, .int p1)]) := lv_sub hl [0, 1] rfl
        exact join2 _ _ _ _ ⟨1, (show 0 ≤ (1 : Int32).toInt ∧ (1 : Int32).toInt ≤ 1 from by decide), (show (1 : Int32).toInt ≠ 0 → p1.toInt < iM_plainRows.toInt from by first | (intro h9; exact absurd (by decide) h9) | (intro h9; omega)), rfl, hP, hD, hS, hl⟩
  · rintro H locs ls stk ⟨k0_j2, b_k0_j2, hev, rfl, hP, hD, hS, hl⟩
    refine W.widen (k := 0) (n := 0) (by decide +kernel) (by decide +kernel) ?_
    exact W.zret (v := k0_j2) hx hb hr (by rcases z01 (x := k0_j2) (b_k0_j2) with h9 | h9 <;> rw [h9] <;> rfl) (fun t9_ ht hW => ⟨⟨k0_j2, (), rfl, ⟨(b_k0_j2), (by (try dsimp only); exact (hev))⟩, by rw [ht]; exact hP, hD⟩, hS.F ht⟩) hS.2.2 dX1_isEvenNeed_27
theorem dX1_isTurned_0 : decode cX1_isTurned 0 = .ok (.aload_n 0, 1) := dk_42 (by decide +kernel)
theorem dX1_isTurned_1 : decode cX1_isTurned 1 = .ok (.iload_n 1, 1) := dk_27 (by decide +kernel)
theorem dX1_isTurned_2 : decode cX1_isTurned 2 = .ok (.invokevirtual 64, 3) := dk_182 (by decide +kernel)
theorem dX1_isTurned_5 : decode cX1_isTurned 5 = .ok (.istore_n 2, 1) := dk_61 (by decide +kernel)
theorem dX1_isTurned_6 : decode cX1_isTurned 6 = .ok (.iload_n 2, 1) := dk_28 (by decide +kernel)
theorem dX1_isTurned_7 : decode cX1_isTurned 7 = .ok (.iconst 2, 1) := dk_5 (by decide +kernel)
theorem dX1_isTurned_8 : decode cX1_isTurned 8 = .ok (.if_icmp .eq 20, 3) := dk_159 (by decide +kernel)
theorem dX1_isTurned_11 : decode cX1_isTurned 11 = .ok (.iload_n 2, 1) := dk_28 (by decide +kernel)
theorem dX1_isTurned_12 : decode cX1_isTurned 12 = .ok (.ifCond .ne 20, 3) := dk_154 (by decide +kernel)
theorem dX1_isTurned_15 : decode cX1_isTurned 15 = .ok (.aload_n 0, 1) := dk_42 (by decide +kernel)
theorem dX1_isTurned_16 : decode cX1_isTurned 16 = .ok (.aload_n 0, 1) := dk_42 (by decide +kernel)
theorem dX1_isTurned_17 : decode cX1_isTurned 17 = .ok (.iload_n 1, 1) := dk_27 (by decide +kernel)
theorem dX1_isTurned_18 : decode cX1_isTurned 18 = .ok (.invokevirtual 68, 3) := dk_182 (by decide +kernel)
theorem dX1_isTurned_21 : decode cX1_isTurned 21 = .ok (.iconst 0, 1) := dk_3 (by decide +kernel)
theorem dX1_isTurned_22 : decode cX1_isTurned 22 = .ok (.invokevirtual 71, 3) := dk_182 (by decide +kernel)
theorem dX1_isTurned_25 : decode cX1_isTurned 25 = .ok (.ifCond .ne 7, 3) := dk_154 (by decide +kernel)
theorem dX1_isTurned_28 : decode cX1_isTurned 28 = .ok (.iconst 1, 1) := dk_4 (by decide +kernel)
theorem dX1_isTurned_29 : decode cX1_isTurned 29 = .ok (.goto 4, 3) := dk_167 (by decide +kernel)
theorem dX1_isTurned_32 : decode cX1_isTurned 32 = .ok (.iconst 0, 1) := dk_3 (by decide +kernel)
theorem dX1_isTurned_33 : decode cX1_isTurned 33 = .ok (.ireturn, 1) := dk_172 (by decide +kernel)
def wsMX1_isTurned : List Cond := .code yX1_isTurned cX1_isTurned 3 (some .boolean) :: ([] ++ (wsV RX1 64 RX1 yX1_needKind wsMX1_needKind) ++ (wsV RX1 68 RX1 yX1_needOf wsMX1_needOf) ++ (wsV RX1 71 RX1 yX1_sign wsMX1_sign))
theorem gwsMX1_isTurned_0 : GoodIn wsMX1_isTurned (wsV RX1 64 RX1 yX1_needKind wsMX1_needKind) := goodIn_sub (fun _ h => List.mem_cons_of_mem _ (List.mem_append_left _ (List.mem_append_left _ (List.mem_append_right _ h)))) (gdV (by decide +kernel) gdwsMX1_needKind)
theorem gwsMX1_isTurned_1 : GoodIn wsMX1_isTurned (wsV RX1 68 RX1 yX1_needOf wsMX1_needOf) := goodIn_sub (fun _ h => List.mem_cons_of_mem _ (List.mem_append_left _ (List.mem_append_right _ h))) (gdV (by decide +kernel) gdwsMX1_needOf)
theorem gwsMX1_isTurned_2 : GoodIn wsMX1_isTurned (wsV RX1 71 RX1 yX1_sign wsMX1_sign) := goodIn_sub (fun _ h => List.mem_cons_of_mem _ (List.mem_append_right _ h)) (gdV (by decide +kernel) gdwsMX1_sign)
theorem gdwsMX1_isTurned : wsMX1_isTurned.all goodWord = true := gdC rfl (gdA (gdA (gdA (by decide +kernel : ([] : List Cond).all goodWord = true) (gdV (by decide +kernel) gdwsMX1_needKind)) (gdV (by decide +kernel) gdwsMX1_needOf)) (gdV (by decide +kernel) gdwsMX1_sign))
set_option maxHeartbeats 4000000 in
set_option maxRecDepth 100000 in
/-- turned -/
theorem m_X1_isTurned (l : Launch) (dC : Nat → ClassId) (dI : Nat → Nat → Nat) (hM : Nat → Nat) (aM : Nat → Nat) (kM : Nat → ClassId) (iM_stands : Int32) (iM_variables : Int32) (iM_rows : Int32) (iM_goals : Int32) (iM_differents : Int32) (iM_cases : Int32) (fM_from : Nat → Int32) (fM_to : Nat → Int32) (fM_whole : Nat → Int32) (fM_ways : Nat → Int32) (iM_plainRows : Int32) (fM_plainRow : Nat → Int32) (fM_kept : Nat → Int32) (fM_goalOver : Nat → Int32) (fM_goalUnder : Nat → Int32) (fM_goalMax : Nat → Int32) (fM_different : Nat → Int32) (p1 : Int32) (b_iM_stands : 0 ≤ iM_stands.toInt ∧ iM_stands.toInt ≤ 1) (b_iM_variables : 0 ≤ iM_variables.toInt ∧ iM_variables.toInt ≤ 8) (b_iM_rows : 0 ≤ iM_rows.toInt ∧ iM_rows.toInt ≤ 12) (b_iM_goals : 0 ≤ iM_goals.toInt ∧ iM_goals.toInt ≤ 3) (b_iM_differents : 0 ≤ iM_differents.toInt ∧ iM_differents.toInt ≤ 8) (b_iM_cases : 0 ≤ iM_cases.toInt ∧ iM_cases.toInt ≤ 200000) (b_fM_ways : ∀ q : Nat, 0 ≤ (fM_ways q).toInt ∧ (fM_ways q).toInt ≤ 3) (b_iM_plainRows : 0 ≤ iM_plainRows.toInt ∧ iM_plainRows.toInt ≤ 12) (b_fM_plainRow : ∀ q : Nat, 0 ≤ (fM_plainRow q).toInt ∧ (fM_plainRow q).toInt ≤ 11) (b_pr : iM_plainRows.toInt ≤ iM_rows.toInt) (b_p1 : 0 ≤ p1.toInt ∧ p1.toInt ≤ 27) (hni : p1.toInt < iM_plainRows.toInt + 2 * iM_variables.toInt) (sz : Nat) : Met l yX1_isTurned wsMX1_isTurned ({ frames := 1, cells := 0, slots := 0, locals := 22 }) (va_Pc [.ref (hM 0), .int p1] (fun U => U.heap.size = sz ∧ va_P (dC, dI) vwCl (WM hM aM kM iM_stands iM_variables iM_rows iM_goals iM_differents iM_cases fM_from fM_to fM_whole fM_ways iM_plainRows fM_plainRow fM_kept fM_goalOver fM_goalUnder fM_goalMax fM_different) U.heap ∧ va_K (dC, dI) vwCl (tM kM) U ∧ va_D (fun _ => True) (WM hM aM kM iM_stands iM_variables iM_rows iM_goals iM_differents iM_cases fM_from fM_to fM_whole fM_ways iM_plainRows fM_plainRow fM_kept fM_goalOver fM_goalUnder fM_goalMax fM_different))) (va_Qi (fun (r : Int32) (u : Unit) => (0 ≤ r.toInt ∧ r.toInt ≤ 1)) (fun (u : Unit) t => va_P (dC, dI) vwCl (WM hM aM kM iM_stands iM_variables iM_rows iM_goals iM_differents iM_cases fM_from fM_to fM_whole fM_ways iM_plainRows fM_plainRow fM_kept fM_goalOver fM_goalUnder fM_goalMax fM_different) t.heap ∧ va_D (va_A (WM hM aM kM iM_stands iM_variables iM_rows iM_goals iM_differents iM_cases fM_from fM_to fM_whole fM_ways iM_plainRows fM_plainRow fM_kept fM_goalOver fM_goalUnder fM_goalMax fM_different) sz) (WM hM aM kM iM_stands iM_variables iM_rows iM_goals iM_differents iM_cases fM_from fM_to fM_whole fM_ways iM_plainRows fM_plainRow fM_kept fM_goalOver fM_goalUnder fM_goalMax fM_different)) (va_A (WM hM aM kM iM_stands iM_variables iM_rows iM_goals iM_differents iM_cases fM_from fM_to fM_whole fM_ways iM_plainRows fM_plainRow fM_kept fM_goalOver fM_goalUnder fM_goalMax fM_different) sz)) 0 0 (va_A (WM hM aM kM iM_stands iM_variables iM_rows iM_goals iM_differents iM_cases fM_from fM_to fM_whole fM_ways iM_plainRows fM_plainRow fM_kept fM_goalOver fM_goalUnder fM_goalMax fM_different) sz) := by
  refine Met.ofW (cc := cX1_isTurned) (maxL := 3) (ret := (some .boolean)) (by decide) rfl ?_
  intro p e s m args below meth c s₁ B hml hv
  obtain ⟨rfl, hsz, hP, hK, hD0⟩ := hv
  have hx := B.exec
  have hb := B.bytes
  have hr := B.returns
  have hts := atoms_spec (ws := wsMX1_isTurned) B.pre
  have hown : s.vm.findClass RX1 = some m.cls := findClass_of_methodNamed B.named
  have hlocks := B.notSynchronized
  subst hsz
  have hD := hD0.self (sz := s.heap.size)
  generalize hAe : va_A (WM hM aM kM iM_stands iM_variables iM_rows iM_goals iM_differents iM_cases fM_from fM_to fM_whole fM_ways iM_plainRows fM_plainRow fM_kept fM_goalOver fM_goalUnder fM_goalMax fM_different) s.heap.size = A at hD ⊢
  have hA : ∀ q : Nat, s.heap.size ≤ q → A q := fun q h => by rw [← hAe]; exact Or.inr h
  have hS : va_S A s.heap s.heap [] := va_S.rf
  have hl := lv_entry ([.ref (hM 0), .int p1]) (n := 3) (Nat.le_of_ble_eq_true rfl)
  rw [lg_entry_eq]
  generalize (lg_sl ([.ref (hM 0), .int p1]) ++ List.replicate (3 - (lg_sl ([.ref (hM 0), .int p1])).length) Slot.unset).toArray = ls at hl ⊢
  have hl : lv_has ls 3 [(0, .ref (hM 0)), (1, .int p1)] := hl
  refine lv_aload_n hx hb dX1_isTurned_0 rfl (lv_at hl 0 rfl) ?_
  refine lv_iload_n hx hb dX1_isTurned_1 rfl (lv_at hl 1 rfl) ?_
  have hFc := allFree hD hS hA
  refine va_calli (va_runV (As := [.int p1]) (rest := []) ⟨hx, hb, hml, hown, hts⟩ (m_X1_needKind l dC dI hM aM kM iM_stands iM_variables iM_rows iM_goals iM_differents iM_cases fM_from fM_to fM_whole fM_ways iM_plainRows fM_plainRow fM_kept fM_goalOver fM_goalUnder fM_goalMax fM_different p1 (b_iM_stands) (b_iM_variables) (b_iM_rows) (b_iM_goals) (b_iM_differents) (b_iM_cases) b_fM_ways (b_iM_plainRows) b_fM_plainRow (by first | with_reducible assumption | omega | assumption) (b_p1) (by first | with_reducible assumption | omega | (rw [iI_t (by omega) (by omega)]; omega) | decide | assumption) s.heap.size) (cwV 1 hts gwsMX1_isTurned_0 rfl rfl rfl hd_yX1_needKind_RX1 (by decide +kernel)) (fz_pre (va_recv hK hP (ci := 1) (q0 := 0) rfl rfl) hP hK hD) rfl rfl hl.1 rfl (lv_room (Nat.le_of_ble_eq_true rfl)) dX1_isTurned_2 (by decide +kernel)) hS (fun q _ h => hFc q h) hFc (fun r1 u t9_ H locs ht hvm hw9 hB9 hz1 hk1 hS => ?_)
  revert hw9
  refine fz_a2 ?_
  intro b_r1 f1_0
  have hP : va_P (dC, dI) vwCl (WM hM aM kM iM_stands iM_variables iM_rows iM_goals iM_differents iM_cases fM_from fM_to fM_whole fM_ways iM_plainRows fM_plainRow fM_kept fM_goalOver fM_goalUnder fM_goalMax fM_different) H := fz_P ht hB9.1
  have hD := fz_sd hP (hB9.2.weaken (fun _ q _ h => hFc q.1 h)) rfl
  refine lv_istore_n hx hb dX1_isTurned_5 rfl hl (by decide) rfl (fun ls (hl : lv_has ls _ ([(2, .int r1), (0, .ref (hM 0)), (1, .int p1)])) => ?_)
  refine lv_iload_n hx hb dX1_isTurned_6 rfl (lv_at hl 0 rfl) ?_
  refine lv_iconst (v := 2) hx hb dX1_isTurned_7 (by decide) ?_
  refine W.cut (pc := 33) (fun H locs ls stk => ∃ (k0_j2 : Int32), (0 ≤ k0_j2.toInt ∧ k0_j2.toInt ≤ 1) ∧  stk = [.int k0_j2] ∧ va_P (dC, dI) vwCl (WM hM aM kM iM_stands iM_variables iM_rows iM_goals iM_differents iM_cases fM_from fM_to fM_whole fM_ways iM_plainRows fM_plainRow fM_kept fM_goalOver fM_goalUnder fM_goalMax fM_different) H ∧ va_D A (WM hM aM kM iM_stands iM_variables iM_rows iM_goals iM_differents iM_cases fM_from fM_to fM_whole fM_ways iM_plainRows fM_plainRow fM_kept fM_goalOver fM_goalUnder fM_goalMax fM_different) ∧ va_S A s.heap H locs ∧ lv_has ls 3 [(2, .int r1), (0, .ref (hM 0)), (1, .int p1)]) (fun join2 => ?_) ?_
  · refine lv_icmp_eq (tgt := 28) hx hb dX1_isTurned_8 (by decide) (fun c_8 => ?_) (fun c_8 => ?_)
    · have t_8 : r1.toInt = 2 := toI_eq c_8 rfl (by decide : (2 : Int32).toInt = 2)
      refine lv_iconst (v := 1) hx hb dX1_isTurned_28 (by decide) ?_
      refine lv_goto (tgt := 33) hx hb dX1_isTurned_29 (by decide) ?_
      have hl : lv_has _ _ ([(2, .int r1), (0, .ref (hM 0)), (1, .int p1)]) := lv_sub hl [0, 1, 2] rfl
      exact join2 _ _ _ _ ⟨1, (show 0 ≤ (1 : Int32).toInt ∧ (1 : Int32).toInt ≤ 1 from by decide), rfl, hP, hD, hS, hl⟩
    · have t_8 : ¬ r1.toInt = 2 := toI_neq c_8 rfl (by decide : (2 : Int32).toInt = 2)
      refine lv_iload_n hx hb dX1_isTurned_11 rfl (lv_at hl 0 rfl) ?_
      refine lv_if_ne (tgt := 32) hx hb dX1_isTurned_12 (by decide) (fun c_12 => ?_) (fun c_12 => ?_)
      · have t_12 : r1.toInt ≠ 0 := toI_ne c_12 rfl (by decide : (0 : Int32).toInt = 0)
        refine lv_iconst (v := 0) hx hb dX1_isTurned_32 (by decide) ?_
        have hl : lv_has _ _ ([(2, .int r1), (0, .ref (hM 0)), (1, .int p1)]) := lv_sub hl [0, 1, 2] rfl
        exact join2 _ _ _ _ ⟨0, (show 0 ≤ (0 : Int32).toInt ∧ (0 : Int32).toInt ≤ 1 from by decide), rfl, hP, hD, hS, hl⟩
      · have t_12 : r1.toInt = 0 := toI_nne c_12 rfl (by decide : (0 : Int32).toInt = 0)
        refine lv_aload_n hx hb dX1_isTurned_15 rfl (lv_at hl 1 rfl) ?_
        refine lv_aload_n hx hb dX1_isTurned_16 rfl (lv_at hl 1 rfl) ?_
        refine lv_iload_n hx hb dX1_isTurned_17 rfl (lv_at hl 2 rfl) ?_
        have hFc := allFree hD hS hA
        refine va_calli (va_runV (As := [.int p1]) (rest := [.ref (hM 0)]) ⟨hx, hb, hml, hown, hts⟩ (m_X1_needOf l dC dI hM aM kM iM_stands iM_variables iM_rows iM_goals iM_differents iM_cases fM_from fM_to fM_whole fM_ways iM_plainRows fM_plainRow fM_kept fM_goalOver fM_goalUnder fM_goalMax fM_different p1 (b_iM_stands) (b_iM_variables) (b_iM_rows) (b_iM_goals) (b_iM_differents) (b_iM_cases) b_fM_ways (b_iM_plainRows) b_fM_plainRow (by first | with_reducible assumption | omega | assumption) (b_p1) (by first | with_reducible assumption | omega | (rw [iI_t (by omega) (by omega)]; omega) | decide | assumption) H.size) (cwV 1 hts gwsMX1_isTurned_1 rfl rfl rfl hd_yX1_needOf_RX1 (by decide +kernel)) (fz_pre (va_recv hK hP (ci := 1) (q0 := 0) rfl rfl) hP hK hD) rfl rfl hl.1 rfl (lv_room (Nat.le_of_ble_eq_true rfl)) dX1_isTurned_18 (by decide +kernel)) hS (fun q _ h => hFc q h) hFc (fun r4 u t9_ H locs ht hvm hw9 hB9 hz1 hk1 hS => ?_)
        revert hw9
        refine fz_a2 ?_
        intro b_r4 f4_0
        have hP : va_P (dC, dI) vwCl (WM hM aM kM iM_stands iM_variables iM_rows iM_goals iM_differents iM_cases fM_from fM_to fM_whole fM_ways iM_plainRows fM_plainRow fM_kept fM_goalOver fM_goalUnder fM_goalMax fM_different) H := fz_P ht hB9.1
        have hD := fz_sd hP (hB9.2.weaken (fun _ q _ h => hFc q.1 h)) rfl
        refine lv_iconst (v := 0) hx hb dX1_isTurned_21 (by decide) ?_
        have hFc := allFree hD hS hA
        refine va_calli (va_runV (As := [.int r4, .int 0]) (rest := []) ⟨hx, hb, hml, hown, hts⟩ (m_X1_sign l dC dI hM aM kM iM_stands iM_variables iM_rows iM_goals iM_differents iM_cases fM_from fM_to fM_whole fM_ways iM_plainRows fM_plainRow fM_kept fM_goalOver fM_goalUnder fM_goalMax fM_different r4 0 (b_iM_stands) (b_iM_variables) (b_iM_rows) (b_iM_goals) (b_iM_differents) (b_iM_cases) b_fM_ways (b_iM_plainRows) b_fM_plainRow (by first | with_reducible assumption | omega | assumption) (by first | exact b_r4 | with_reducible assumption | exact ⟨by omega, by omega⟩ | assumption) (show 0 ≤ (0 : Int32).toInt ∧ (0 : Int32).toInt ≤ 2 from by decide) H.size) (cwV 2 hts gwsMX1_isTurned_2 rfl rfl rfl hd_yX1_sign_RX1 (by decide +kernel)) (fz_pre (va_recv hK hP (ci := 1) (q0 := 0) rfl rfl) hP hK hD) rfl rfl hl.1 rfl (lv_room (Nat.le_of_ble_eq_true rfl)) dX1_isTurned_22 (by decide +kernel)) hS (fun q _ h => hFc q h) hFc (fun r5 u t9_ H locs ht hvm hw9 hB9 hz1 hk1 hS => ?_)
        clear hw9
        have hP : va_P (dC, dI) vwCl (WM hM aM kM iM_stands iM_variables iM_rows iM_goals iM_differents iM_cases fM_from fM_to fM_whole fM_ways iM_plainRows fM_plainRow fM_kept fM_goalOver fM_goalUnder fM_goalMax fM_different) H := fz_P ht hB9.1
        have hD := fz_sd hP (hB9.2.weaken (fun _ q _ h => hFc q.1 h)) rfl
        refine lv_if_ne (tgt := 32) hx hb dX1_isTurned_25 (by decide) (fun c_25 => ?_) (fun c_25 => ?_)
        · have t_25 : r5.toInt ≠ 0 := toI_ne c_25 rfl (by decide : (0 : Int32).toInt = 0)
          refine lv_iconst (v := 0) hx hb dX1_isTurned_32 (by decide) ?_
          have hl : lv_has _ _ ([(2, .int r1), (0, .ref (hM 0)), (1, .int p1)]) := lv_sub hl [0, 1, 2] rfl
          exact join2 _ _ _ _ ⟨0, (show 0 ≤ (0 : Int32).toInt ∧ (0 : Int32).toInt ≤ 1 from by decide), rfl, hP, hD, hS, hl⟩
        · have t_25 : r5.toInt = 0 := toI_nne c_25 rfl (by decide : (0 : Int32).toInt = 0)
          refine lv_iconst (v := 1) hx hb dX1_isTurned_28 (by decide) ?_
          refine lv_goto (tgt := 33) hx hb dX1_isTurned_29 (by decide) ?_
          have hl : lv_has _ _ ([(2, .int r1), (0, .ref (hM 0)), (1, .int p1)]) := lv_sub hl [0, 1, 2] rfl
          exact join2 _ _ _ _ ⟨1, (show 0 ≤ (1 : Int32).toInt ∧ (1 : Int32).toInt ≤ 1 from by decide), rfl, hP, hD, hS, hl⟩
  · rintro H locs ls stk ⟨k0_j2, b_k0_j2, rfl, hP, hD, hS, hl⟩
    refine W.widen (k := 0) (n := 0) (by decide +kernel) (by decide +kernel) ?_
    exact W.zret (v := k0_j2) hx hb hr (by rcases z01 (x := k0_j2) (b_k0_j2) with h9 | h9 <;> rw [h9] <;> rfl) (fun t9_ ht hW => ⟨⟨k0_j2, (), rfl, (b_k0_j2), by rw [ht]; exact hP, hD⟩, hS.F ht⟩) hS.2.2 dX1_isTurned_33
theorem dX1_needNumber_0 : decode cX1_needNumber 0 = .ok (.aload_n 0, 1) := dk_42 (by decide +kernel)
theorem dX1_needNumber_1 : decode cX1_needNumber 1 = .ok (.iload_n 1, 1) := dk_27 (by decide +kernel)
theorem dX1_needNumber_2 : decode cX1_needNumber 2 = .ok (.invokevirtual 68, 3) := dk_182 (by decide +kernel)
theorem dX1_needNumber_5 : decode cX1_needNumber 5 = .ok (.istore_n 3, 1) := dk_62 (by decide +kernel)
theorem dX1_needNumber_6 : decode cX1_needNumber 6 = .ok (.aload_n 0, 1) := dk_42 (by decide +kernel)
theorem dX1_needNumber_7 : decode cX1_needNumber 7 = .ok (.iload_n 1, 1) := dk_27 (by decide +kernel)
theorem dX1_needNumber_8 : decode cX1_needNumber 8 = .ok (.invokevirtual 64, 3) := dk_182 (by decide +kernel)
theorem dX1_needNumber_11 : decode cX1_needNumber 11 = .ok (.ifCond .ne 13, 3) := dk_154 (by decide +kernel)
theorem dX1_needNumber_14 : decode cX1_needNumber 14 = .ok (.aload_n 0, 1) := dk_42 (by decide +kernel)
theorem dX1_needNumber_15 : decode cX1_needNumber 15 = .ok (.iload_n 3, 1) := dk_29 (by decide +kernel)
theorem dX1_needNumber_16 : decode cX1_needNumber 16 = .ok (.iconst 0, 1) := dk_3 (by decide +kernel)
theorem dX1_needNumber_17 : decode cX1_needNumber 17 = .ok (.iload_n 2, 1) := dk_28 (by decide +kernel)
theorem dX1_needNumber_18 : decode cX1_needNumber 18 = .ok (.invokevirtual 75, 3) := dk_182 (by decide +kernel)
theorem dX1_needNumber_21 : decode cX1_needNumber 21 = .ok (.goto 13, 3) := dk_167 (by decide +kernel)
theorem dX1_needNumber_24 : decode cX1_needNumber 24 = .ok (.iload_n 2, 1) := dk_28 (by decide +kernel)
theorem dX1_needNumber_25 : decode cX1_needNumber 25 = .ok (.iload_n 3, 1) := dk_29 (by decide +kernel)
theorem dX1_needNumber_26 : decode cX1_needNumber 26 = .ok (.if_icmp .ne 7, 3) := dk_160 (by decide +kernel)
theorem dX1_needNumber_29 : decode cX1_needNumber 29 = .ok (.iconst 1, 1) := dk_4 (by decide +kernel)
theorem dX1_needNumber_30 : decode cX1_needNumber 30 = .ok (.goto 4, 3) := dk_167 (by decide +kernel)
theorem dX1_needNumber_33 : decode cX1_needNumber 33 = .ok (.iconst 0, 1) := dk_3 (by decide +kernel)
theorem dX1_needNumber_34 : decode cX1_needNumber 34 = .ok (.istore 4, 2) := dk_54 (by decide +kernel)
theorem dX1_needNumber_36 : decode cX1_needNumber 36 = .ok (.aload_n 0, 1) := dk_42 (by decide +kernel)
theorem dX1_needNumber_37 : decode cX1_needNumber 37 = .ok (.iload_n 1, 1) := dk_27 (by decide +kernel)
theorem dX1_needNumber_38 : decode cX1_needNumber 38 = .ok (.invokevirtual 79, 3) := dk_182 (by decide +kernel)
theorem dX1_needNumber_41 : decode cX1_needNumber 41 = .ok (.ifCond .eq 9, 3) := dk_153 (by decide +kernel)
theorem dX1_needNumber_44 : decode cX1_needNumber 44 = .ok (.iload 4, 2) := dk_21 (by decide +kernel)
theorem dX1_needNumber_46 : decode cX1_needNumber 46 = .ok (.ineg, 1) := dk_116 (by decide +kernel)
theorem dX1_needNumber_47 : decode cX1_needNumber 47 = .ok (.goto 5, 3) := dk_167 (by decide +kernel)
theorem dX1_needNumber_50 : decode cX1_needNumber 50 = .ok (.iload 4, 2) := dk_21 (by decide +kernel)
theorem dX1_needNumber_52 : decode cX1_needNumber 52 = .ok (.ireturn, 1) := dk_172 (by decide +kernel)
def wsMX1_needNumber : List Cond := .code yX1_needNumber cX1_needNumber 5 (some .int) :: ([] ++ (wsV RX1 68 RX1 yX1_needOf wsMX1_needOf) ++ (wsV RX1 64 RX1 yX1_needKind wsMX1_needKind) ++ (wsV RX1 75 RX1 yX1_number wsMX1_number) ++ (wsV RX1 79 RX1 yX1_isTurned wsMX1_isTurned))
theorem gwsMX1_needNumber_0 : GoodIn wsMX1_needNumber (wsV RX1 68 RX1 yX1_needOf wsMX1_needOf) := goodIn_sub (fun _ h => List.mem_cons_of_mem _ (List.mem_append_left _ (List.mem_append_left _ (List.mem_append_left _ (List.mem_append_right _ h))))) (gdV (by decide +kernel) gdwsMX1_needOf)
theorem gwsMX1_needNumber_1 : GoodIn wsMX1_needNumber (wsV RX1 64 RX1 yX1_needKind wsMX1_needKind) := goodIn_sub (fun _ h => List.mem_cons_of_mem _ (List.mem_append_left _ (List.mem_append_left _ (List.mem_append_right _ h)))) (gdV (by decide +kernel) gdwsMX1_needKind)
theorem gwsMX1_needNumber_2 : GoodIn wsMX1_needNumber (wsV RX1 75 RX1 yX1_number wsMX1_number) := goodIn_sub (fun _ h => List.mem_cons_of_mem _ (List.mem_append_left _ (List.mem_append_right _ h))) (gdV (by decide +kernel) gdwsMX1_number)
theorem gwsMX1_needNumber_3 : GoodIn wsMX1_needNumber (wsV RX1 79 RX1 yX1_isTurned wsMX1_isTurned) := goodIn_sub (fun _ h => List.mem_cons_of_mem _ (List.mem_append_right _ h)) (gdV (by decide +kernel) gdwsMX1_isTurned)
theorem gdwsMX1_needNumber : wsMX1_needNumber.all goodWord = true := gdC rfl (gdA (gdA (gdA (gdA (by decide +kernel : ([] : List Cond).all goodWord = true) (gdV (by decide +kernel) gdwsMX1_needOf)) (gdV (by decide +kernel) gdwsMX1_needKind)) (gdV (by decide +kernel) gdwsMX1_number)) (gdV (by decide +kernel) gdwsMX1_isTurned))
set_option maxHeartbeats 4000000 in
set_option maxRecDepth 100000 in
/-- a number of a need -/
theorem m_X1_needNumber (l : Launch) (dC : Nat → ClassId) (dI : Nat → Nat → Nat) (hM : Nat → Nat) (aM : Nat → Nat) (kM : Nat → ClassId) (iM_stands : Int32) (iM_variables : Int32) (iM_rows : Int32) (iM_goals : Int32) (iM_differents : Int32) (iM_cases : Int32) (fM_from : Nat → Int32) (fM_to : Nat → Int32) (fM_whole : Nat → Int32) (fM_ways : Nat → Int32) (iM_plainRows : Int32) (fM_plainRow : Nat → Int32) (fM_kept : Nat → Int32) (fM_goalOver : Nat → Int32) (fM_goalUnder : Nat → Int32) (fM_goalMax : Nat → Int32) (fM_different : Nat → Int32) (p1 : Int32) (p2 : Int32) (b_iM_stands : 0 ≤ iM_stands.toInt ∧ iM_stands.toInt ≤ 1) (b_iM_variables : 0 ≤ iM_variables.toInt ∧ iM_variables.toInt ≤ 8) (b_iM_rows : 0 ≤ iM_rows.toInt ∧ iM_rows.toInt ≤ 12) (b_iM_goals : 0 ≤ iM_goals.toInt ∧ iM_goals.toInt ≤ 3) (b_iM_differents : 0 ≤ iM_differents.toInt ∧ iM_differents.toInt ≤ 8) (b_iM_cases : 0 ≤ iM_cases.toInt ∧ iM_cases.toInt ≤ 200000) (b_fM_ways : ∀ q : Nat, 0 ≤ (fM_ways q).toInt ∧ (fM_ways q).toInt ≤ 3) (b_iM_plainRows : 0 ≤ iM_plainRows.toInt ∧ iM_plainRows.toInt ≤ 12) (b_fM_plainRow : ∀ q : Nat, 0 ≤ (fM_plainRow q).toInt ∧ (fM_plainRow q).toInt ≤ 11) (b_pr : iM_plainRows.toInt ≤ iM_rows.toInt) (b_p1 : 0 ≤ p1.toInt ∧ p1.toInt ≤ 27) (b_p2 : 0 ≤ p2.toInt ∧ p2.toInt ≤ 7) (hni : p1.toInt < iM_plainRows.toInt + 2 * iM_variables.toInt) (sz : Nat) : Met l yX1_needNumber wsMX1_needNumber ({ frames := 2, cells := 0, slots := 0, locals := 44 }) (va_Pc [.ref (hM 0), .int p1, .int p2] (fun U => U.heap.size = sz ∧ va_P (dC, dI) vwCl (WM hM aM kM iM_stands iM_variables iM_rows iM_goals iM_differents iM_cases fM_from fM_to fM_whole fM_ways iM_plainRows fM_plainRow fM_kept fM_goalOver fM_goalUnder fM_goalMax fM_different) U.heap ∧ va_K (dC, dI) vwCl (tM kM) U ∧ va_D (fun _ => True) (WM hM aM kM iM_stands iM_variables iM_rows iM_goals iM_differents iM_cases fM_from fM_to fM_whole fM_ways iM_plainRows fM_plainRow fM_kept fM_goalOver fM_goalUnder fM_goalMax fM_different))) (va_Qi (fun (r : Int32) (u : Unit) => True) (fun (u : Unit) t => va_P (dC, dI) vwCl (WM hM aM kM iM_stands iM_variables iM_rows iM_goals iM_differents iM_cases fM_from fM_to fM_whole fM_ways iM_plainRows fM_plainRow fM_kept fM_goalOver fM_goalUnder fM_goalMax fM_different) t.heap ∧ va_D (va_A (WM hM aM kM iM_stands iM_variables iM_rows iM_goals iM_differents iM_cases fM_from fM_to fM_whole fM_ways iM_plainRows fM_plainRow fM_kept fM_goalOver fM_goalUnder fM_goalMax fM_different) sz) (WM hM aM kM iM_stands iM_variables iM_rows iM_goals iM_differents iM_cases fM_from fM_to fM_whole fM_ways iM_plainRows fM_plainRow fM_kept fM_goalOver fM_goalUnder fM_goalMax fM_different)) (va_A (WM hM aM kM iM_stands iM_variables iM_rows iM_goals iM_differents iM_cases fM_from fM_to fM_whole fM_ways iM_plainRows fM_plainRow fM_kept fM_goalOver fM_goalUnder fM_goalMax fM_different) sz)) 0 0 (va_A (WM hM aM kM iM_stands iM_variables iM_rows iM_goals iM_differents iM_cases fM_from fM_to fM_whole fM_ways iM_plainRows fM_plainRow fM_kept fM_goalOver fM_goalUnder fM_goalMax fM_different) sz) := by
  refine Met.ofW (cc := cX1_needNumber) (maxL := 5) (ret := (some .int)) (by decide) rfl ?_
  intro p e s m args below meth c s₁ B hml hv
  obtain ⟨rfl, hsz, hP, hK, hD0⟩ := hv
  have hx := B.exec
  have hb := B.bytes
  have hr := B.returns
  have hts := atoms_spec (ws := wsMX1_needNumber) B.pre
  have hown : s.vm.findClass RX1 = some m.cls := findClass_of_methodNamed B.named
  have hlocks := B.notSynchronized
  subst hsz
  have hD := hD0.self (sz := s.heap.size)
  generalize hAe : va_A (WM hM aM kM iM_stands iM_variables iM_rows iM_goals iM_differents iM_cases fM_from fM_to fM_whole fM_ways iM_plainRows fM_plainRow fM_kept fM_goalOver fM_goalUnder fM_goalMax fM_different) s.heap.size = A at hD ⊢
  have hA : ∀ q : Nat, s.heap.size ≤ q → A q := fun q h => by rw [← hAe]; exact Or.inr h
  have hS : va_S A s.heap s.heap [] := va_S.rf
  have hl := lv_entry ([.ref (hM 0), .int p1, .int p2]) (n := 5) (Nat.le_of_ble_eq_true rfl)
  rw [lg_entry_eq]
  generalize (lg_sl ([.ref (hM 0), .int p1, .int p2]) ++ List.replicate (5 - (lg_sl ([.ref (hM 0), .int p1, .int p2])).length) Slot.unset).toArray = ls at hl ⊢
  have hl : lv_has ls 5 [(0, .ref (hM 0)), (1, .int p1), (2, .int p2)] := hl
  refine lv_aload_n hx hb dX1_needNumber_0 rfl (lv_at hl 0 rfl) ?_
  refine lv_iload_n hx hb dX1_needNumber_1 rfl (lv_at hl 1 rfl) ?_
  have hFc := allFree hD hS hA
  refine va_calli (va_runV (As := [.int p1]) (rest := []) ⟨hx, hb, hml, hown, hts⟩ (m_X1_needOf l dC dI hM aM kM iM_stands iM_variables iM_rows iM_goals iM_differents iM_cases fM_from fM_to fM_whole fM_ways iM_plainRows fM_plainRow fM_kept fM_goalOver fM_goalUnder fM_goalMax fM_different p1 (b_iM_stands) (b_iM_variables) (b_iM_rows) (b_iM_goals) (b_iM_differents) (b_iM_cases) b_fM_ways (b_iM_plainRows) b_fM_plainRow (by first | with_reducible assumption | omega | assumption) (b_p1) (by first | with_reducible assumption | omega | (rw [iI_t (by omega) (by omega)]; omega) | decide | assumption) s.heap.size) (cwV 1 hts gwsMX1_needNumber_0 rfl rfl rfl hd_yX1_needOf_RX1 (by decide +kernel)) (fz_pre (va_recv hK hP (ci := 1) (q0 := 0) rfl rfl) hP hK hD) rfl rfl hl.1 rfl (lv_room (Nat.le_of_ble_eq_true rfl)) dX1_needNumber_2 (by decide +kernel)) hS (fun q _ h => hFc q h) hFc (fun r1 u t9_ H locs ht hvm hw9 hB9 hz1 hk1 hS => ?_)
  revert hw9
  refine fz_a2 ?_
  intro b_r1 f1_0
  have hP : va_P (dC, dI) vwCl (WM hM aM kM iM_stands iM_variables iM_rows iM_goals iM_differents iM_cases fM_from fM_to fM_whole fM_ways iM_plainRows fM_plainRow fM_kept fM_goalOver fM_goalUnder fM_goalMax fM_different) H := fz_P ht hB9.1
  have hD := fz_sd hP (hB9.2.weaken (fun _ q _ h => hFc q.1 h)) rfl
  refine lv_istore_n hx hb dX1_needNumber_5 rfl hl (by decide) rfl (fun ls (hl : lv_has ls _ ([(3, .int r1), (0, .ref (hM 0)), (1, .int p1), (2, .int p2)])) => ?_)
  refine lv_aload_n hx hb dX1_needNumber_6 rfl (lv_at hl 1 rfl) ?_
  refine lv_iload_n hx hb dX1_needNumber_7 rfl (lv_at hl 2 rfl) ?_
  have hFc := allFree hD hS hA
  refine va_calli (va_runV (As := [.int p1]) (rest := []) ⟨hx, hb, hml, hown, hts⟩ (m_X1_needKind l dC dI hM aM kM iM_stands iM_variables iM_rows iM_goals iM_differents iM_cases fM_from fM_to fM_whole fM_ways iM_plainRows fM_plainRow fM_kept fM_goalOver fM_goalUnder fM_goalMax fM_different p1 (b_iM_stands) (b_iM_variables) (b_iM_rows) (b_iM_goals) (b_iM_differents) (b_iM_cases) b_fM_ways (b_iM_plainRows) b_fM_plainRow (by first | with_reducible assumption | omega | assumption) (b_p1) (by first | with_reducible assumption | omega | (rw [iI_t (by omega) (by omega)]; omega) | decide | assumption) H.size) (cwV 1 hts gwsMX1_needNumber_1 rfl rfl rfl hd_yX1_needKind_RX1 (by decide +kernel)) (fz_pre (va_recv hK hP (ci := 1) (q0 := 0) rfl rfl) hP hK hD) rfl rfl hl.1 rfl (lv_room (Nat.le_of_ble_eq_true rfl)) dX1_needNumber_8 (by decide +kernel)) hS (fun q _ h => hFc q h) hFc (fun r2 u t9_ H locs ht hvm hw9 hB9 hz1 hk1 hS => ?_)
  revert hw9
  refine fz_a2 ?_
  intro b_r2 f2_0
  have hP : va_P (dC, dI) vwCl (WM hM aM kM iM_stands iM_variables iM_rows iM_goals iM_differents iM_cases fM_from fM_to fM_whole fM_ways iM_plainRows fM_plainRow fM_kept fM_goalOver fM_goalUnder fM_goalMax fM_different) H := fz_P ht hB9.1
  have hD := fz_sd hP (hB9.2.weaken (fun _ q _ h => hFc q.1 h)) rfl
  refine W.cut (pc := 34) (fun H locs ls stk => ∃ (k0_j3 : Int32),  stk = [.int k0_j3] ∧ va_P (dC, dI) vwCl (WM hM aM kM iM_stands iM_variables iM_rows iM_goals iM_differents iM_cases fM_from fM_to fM_whole fM_ways iM_plainRows fM_plainRow fM_kept fM_goalOver fM_goalUnder fM_goalMax fM_different) H ∧ va_D A (WM hM aM kM iM_stands iM_variables iM_rows iM_goals iM_differents iM_cases fM_from fM_to fM_whole fM_ways iM_plainRows fM_plainRow fM_kept fM_goalOver fM_goalUnder fM_goalMax fM_different) ∧ va_S A s.heap H locs ∧ lv_has ls 5 [(3, .int r1), (0, .ref (hM 0)), (1, .int p1), (2, .int p2)]) (fun join3 => ?_) ?_
  · refine lv_if_ne (tgt := 24) hx hb dX1_needNumber_11 (by decide) (fun c_11 => ?_) (fun c_11 => ?_)
    · have t_11 : r2.toInt ≠ 0 := toI_ne c_11 rfl (by decide : (0 : Int32).toInt = 0)
      refine lv_iload_n hx hb dX1_needNumber_24 rfl (lv_at hl 3 rfl) ?_
      refine lv_iload_n hx hb dX1_needNumber_25 rfl (lv_at hl 0 rfl) ?_
      refine lv_icmp_ne (tgt := 33) hx hb dX1_needNumber_26 (by decide) (fun c_26 => ?_) (fun c_26 => ?_)
      · have t_26 : p2.toInt ≠ r1.toInt := toI_ne c_26 rfl rfl
        refine lv_iconst (v := 0) hx hb dX1_needNumber_33 (by decide) ?_
        have hl : lv_has _ _ ([(3, .int r1), (0, .ref (hM 0)), (1, .int p1), (2, .int p2)]) := lv_sub hl [0, 1, 2, 3] rfl
        exact join3 _ _ _ _ ⟨0, rfl, hP, hD, hS, hl⟩
      · have t_26 : p2.toInt = r1.toInt := toI_nne c_26 rfl rfl
        refine lv_iconst (v := 1) hx hb dX1_needNumber_29 (by decide) ?_
        refine lv_goto (tgt := 34) hx hb dX1_needNumber_30 (by decide) ?_
        have hl : lv_has _ _ ([(3, .int r1), (0, .ref (hM 0)), (1, .int p1), (2, .int p2)]) := lv_sub hl [0, 1, 2, 3] rfl
        exact join3 _ _ _ _ ⟨1, rfl, hP, hD, hS, hl⟩
    · have t_11 : r2.toInt = 0 := toI_nne c_11 rfl (by decide : (0 : Int32).toInt = 0)
      refine lv_aload_n hx hb dX1_needNumber_14 rfl (lv_at hl 1 rfl) ?_
      refine lv_iload_n hx hb dX1_needNumber_15 rfl (lv_at hl 0 rfl) ?_
      refine lv_iconst (v := 0) hx hb dX1_needNumber_16 (by decide) ?_
      refine lv_iload_n hx hb dX1_needNumber_17 rfl (lv_at hl 3 rfl) ?_
      have hFc := allFree hD hS hA
      refine va_calli (va_runV (As := [.int r1, .int 0, .int p2]) (rest := []) ⟨hx, hb, hml, hown, hts⟩ (m_X1_number l dC dI hM aM kM iM_stands iM_variables iM_rows iM_goals iM_differents iM_cases fM_from fM_to fM_whole fM_ways iM_plainRows fM_plainRow fM_kept fM_goalOver fM_goalUnder fM_goalMax fM_different r1 0 p2 (b_iM_stands) (b_iM_variables) (b_iM_rows) (b_iM_goals) (b_iM_differents) (b_iM_cases) b_fM_ways (b_iM_plainRows) b_fM_plainRow (by first | with_reducible assumption | omega | assumption) (by first | exact b_r1 | with_reducible assumption | exact ⟨by omega, by omega⟩ | assumption) (show 0 ≤ (0 : Int32).toInt ∧ (0 : Int32).toInt ≤ 2 from by decide) (⟨b_p2.1, Int.le_trans b_p2.2 (by decide)⟩) H.size) (cwV 3 hts gwsMX1_needNumber_2 rfl rfl rfl hd_yX1_number_RX1 (by decide +kernel)) (fz_pre (va_recv hK hP (ci := 1) (q0 := 0) rfl rfl) hP hK hD) rfl rfl hl.1 rfl (lv_room (Nat.le_of_ble_eq_true rfl)) dX1_needNumber_18 (by decide +kernel)) hS (fun q _ h => hFc q h) hFc (fun r4 u t9_ H locs ht hvm hw9 hB9 hz1 hk1 hS => ?_)
      clear hw9
      have hP : va_P (dC, dI) vwCl (WM hM aM kM iM_stands iM_variables iM_rows iM_goals iM_differents iM_cases fM_from fM_to fM_whole fM_ways iM_plainRows fM_plainRow fM_kept fM_goalOver fM_goalUnder fM_goalMax fM_different) H := fz_P ht hB9.1
      have hD := fz_sd hP (hB9.2.weaken (fun _ q _ h => hFc q.1 h)) rfl
      refine lv_goto (tgt := 34) hx hb dX1_needNumber_21 (by decide) ?_
      have hl : lv_has _ _ ([(3, .int r1), (0, .ref (hM 0)), (1, .int p1), (2, .int p2)]) := lv_sub hl [0, 1, 2, 3] rfl
      exact join3 _ _ _ _ ⟨r4, rfl, hP, hD, hS, hl⟩
  · rintro H locs ls stk ⟨k0_j3, rfl, hP, hD, hS, hl⟩
    refine lv_istore hx hb dX1_needNumber_34 hl (by decide) rfl (fun ls (hl : lv_has ls _ ([(4, .int k0_j3), (3, .int r1), (0, .ref (hM 0)), (1, .int p1), (2, .int p2)])) => ?_)
    refine lv_aload_n hx hb dX1_needNumber_36 rfl (lv_at hl 2 rfl) ?_
    refine lv_iload_n hx hb dX1_needNumber_37 rfl (lv_at hl 3 rfl) ?_
    have hFc := allFree hD hS hA
    refine va_calli (va_runV (As := [.int p1]) (rest := []) ⟨hx, hb, hml, hown, hts⟩ (m_X1_isTurned l dC dI hM aM kM iM_stands iM_variables iM_rows iM_goals iM_differents iM_cases fM_from fM_to fM_whole fM_ways iM_plainRows fM_plainRow fM_kept fM_goalOver fM_goalUnder fM_goalMax fM_different p1 (b_iM_stands) (b_iM_variables) (b_iM_rows) (b_iM_goals) (b_iM_differents) (b_iM_cases) b_fM_ways (b_iM_plainRows) b_fM_plainRow (by first | with_reducible assumption | omega | assumption) (b_p1) (by first | with_reducible assumption | omega | (rw [iI_t (by omega) (by omega)]; omega) | decide | assumption) H.size) (cwV 1 hts gwsMX1_needNumber_3 rfl rfl rfl hd_yX1_isTurned_RX1 (by decide +kernel)) (fz_pre (va_recv hK hP (ci := 1) (q0 := 0) rfl rfl) hP hK hD) rfl rfl hl.1 rfl (lv_room (Nat.le_of_ble_eq_true rfl)) dX1_needNumber_38 (by decide +kernel)) hS (fun q _ h => hFc q h) hFc (fun r5 u t9_ H locs ht hvm hw9 hB9 hz1 hk1 hS => ?_)
    have b_r5 := hw9
    try dsimp only at b_r5
    have hP : va_P (dC, dI) vwCl (WM hM aM kM iM_stands iM_variables iM_rows iM_goals iM_differents iM_cases fM_from fM_to fM_whole fM_ways iM_plainRows fM_plainRow fM_kept fM_goalOver fM_goalUnder fM_goalMax fM_different) H := fz_P ht hB9.1
    have hD := fz_sd hP (hB9.2.weaken (fun _ q _ h => hFc q.1 h)) rfl
    refine W.cut (pc := 52) (fun H locs ls stk => ∃ (k0_j4 : Int32),  stk = [.int k0_j4] ∧ va_P (dC, dI) vwCl (WM hM aM kM iM_stands iM_variables iM_rows iM_goals iM_differents iM_cases fM_from fM_to fM_whole fM_ways iM_plainRows fM_plainRow fM_kept fM_goalOver fM_goalUnder fM_goalMax fM_different) H ∧ va_D A (WM hM aM kM iM_stands iM_variables iM_rows iM_goals iM_differents iM_cases fM_from fM_to fM_whole fM_ways iM_plainRows fM_plainRow fM_kept fM_goalOver fM_goalUnder fM_goalMax fM_different) ∧ va_S A s.heap H locs ∧ lv_has ls 5 [(4, .int k0_j3), (3, .int r1), (0, .ref (hM 0)), (1, .int p1), (2, .int p2)]) (fun join4 => ?_) ?_
    · refine lv_if_eq (tgt := 50) hx hb dX1_needNumber_41 (by decide) (fun c_41 => ?_) (fun c_41 => ?_)
      · have t_41 : r5.toInt = 0 := toI_eq c_41 rfl (by decide : (0 : Int32).toInt = 0)
        refine lv_iload hx hb dX1_needNumber_50 (lv_at hl 0 rfl) ?_
        have hl : lv_has _ _ ([(4, .int k0_j3), (3, .int r1), (0, .ref (hM 0)), (1, .int p1), (2, .int p2)]) := lv_sub hl [0, 1, 2, 3, 4] rfl
        exact join4 _ _ _ _ ⟨k0_j3, rfl, hP, hD, hS, hl⟩
      · have t_41 : ¬ r5.toInt = 0 := toI_neq c_41 rfl (by decide : (0 : Int32).toInt = 0)
        refine lv_iload hx hb dX1_needNumber_44 (lv_at hl 0 rfl) ?_
        refine lv_ineg hx hb dX1_needNumber_46 ?_
        refine lv_topi (fun y7 hy7 => ?_)
        obtain rfl : (iI (-k0_j3.toInt)) = y7 := (hy7.trans (iI_neg2 (iI_of _))).symm
        refine lv_goto (tgt := 52) hx hb dX1_needNumber_47 (by decide) ?_
        have hl : lv_has _ _ ([(4, .int k0_j3), (3, .int r1), (0, .ref (hM 0)), (1, .int p1), (2, .int p2)]) := lv_sub hl [0, 1, 2, 3, 4] rfl
        exact join4 _ _ _ _ ⟨(iI (-k0_j3.toInt)), rfl, hP, hD, hS, hl⟩
    · rintro H locs ls stk ⟨k0_j4, rfl, hP, hD, hS, hl⟩
      refine W.widen (k := 0) (n := 0) (by decide +kernel) (by decide +kernel) ?_
      exact W.iret (v := k0_j4) hx hb hr (fun t9_ ht hW => ⟨⟨k0_j4, (), rfl, trivial, by rw [ht]; exact hP, hD⟩, hS.F ht⟩) hS.2.2 dX1_needNumber_52
theorem dX1_needBound_0 : decode cX1_needBound 0 = .ok (.aload_n 0, 1) := dk_42 (by decide +kernel)
theorem dX1_needBound_1 : decode cX1_needBound 1 = .ok (.iload_n 1, 1) := dk_27 (by decide +kernel)
theorem dX1_needBound_2 : decode cX1_needBound 2 = .ok (.invokevirtual 64, 3) := dk_182 (by decide +kernel)
theorem dX1_needBound_5 : decode cX1_needBound 5 = .ok (.istore_n 2, 1) := dk_61 (by decide +kernel)
theorem dX1_needBound_6 : decode cX1_needBound 6 = .ok (.aload_n 0, 1) := dk_42 (by decide +kernel)
theorem dX1_needBound_7 : decode cX1_needBound 7 = .ok (.iload_n 1, 1) := dk_27 (by decide +kernel)
theorem dX1_needBound_8 : decode cX1_needBound 8 = .ok (.invokevirtual 68, 3) := dk_182 (by decide +kernel)
theorem dX1_needBound_11 : decode cX1_needBound 11 = .ok (.istore_n 3, 1) := dk_62 (by decide +kernel)
theorem dX1_needBound_12 : decode cX1_needBound 12 = .ok (.iload_n 2, 1) := dk_28 (by decide +kernel)
theorem dX1_needBound_13 : decode cX1_needBound 13 = .ok (.ifCond .ne 12, 3) := dk_154 (by decide +kernel)
theorem dX1_needBound_16 : decode cX1_needBound 16 = .ok (.aload_n 0, 1) := dk_42 (by decide +kernel)
theorem dX1_needBound_17 : decode cX1_needBound 17 = .ok (.iload_n 3, 1) := dk_29 (by decide +kernel)
theorem dX1_needBound_18 : decode cX1_needBound 18 = .ok (.iconst 0, 1) := dk_3 (by decide +kernel)
theorem dX1_needBound_19 : decode cX1_needBound 19 = .ok (.invokevirtual 83, 3) := dk_182 (by decide +kernel)
theorem dX1_needBound_22 : decode cX1_needBound 22 = .ok (.goto 23, 3) := dk_167 (by decide +kernel)
theorem dX1_needBound_25 : decode cX1_needBound 25 = .ok (.iload_n 2, 1) := dk_28 (by decide +kernel)
theorem dX1_needBound_26 : decode cX1_needBound 26 = .ok (.iconst 1, 1) := dk_4 (by decide +kernel)
theorem dX1_needBound_27 : decode cX1_needBound 27 = .ok (.if_icmp .ne 12, 3) := dk_160 (by decide +kernel)
theorem dX1_needBound_30 : decode cX1_needBound 30 = .ok (.aload_n 0, 1) := dk_42 (by decide +kernel)
theorem dX1_needBound_31 : decode cX1_needBound 31 = .ok (.getfield 9, 3) := dk_180 (by decide +kernel)
theorem dX1_needBound_34 : decode cX1_needBound 34 = .ok (.iload_n 3, 1) := dk_29 (by decide +kernel)
theorem dX1_needBound_35 : decode cX1_needBound 35 = .ok (.iaload, 1) := dk_46 (by decide +kernel)
theorem dX1_needBound_36 : decode cX1_needBound 36 = .ok (.goto 9, 3) := dk_167 (by decide +kernel)
theorem dX1_needBound_39 : decode cX1_needBound 39 = .ok (.aload_n 0, 1) := dk_42 (by decide +kernel)
theorem dX1_needBound_40 : decode cX1_needBound 40 = .ok (.getfield 13, 3) := dk_180 (by decide +kernel)
theorem dX1_needBound_43 : decode cX1_needBound 43 = .ok (.iload_n 3, 1) := dk_29 (by decide +kernel)
theorem dX1_needBound_44 : decode cX1_needBound 44 = .ok (.iaload, 1) := dk_46 (by decide +kernel)
theorem dX1_needBound_45 : decode cX1_needBound 45 = .ok (.istore 4, 2) := dk_54 (by decide +kernel)
theorem dX1_needBound_47 : decode cX1_needBound 47 = .ok (.aload_n 0, 1) := dk_42 (by decide +kernel)
theorem dX1_needBound_48 : decode cX1_needBound 48 = .ok (.iload_n 1, 1) := dk_27 (by decide +kernel)
theorem dX1_needBound_49 : decode cX1_needBound 49 = .ok (.invokevirtual 79, 3) := dk_182 (by decide +kernel)
theorem dX1_needBound_52 : decode cX1_needBound 52 = .ok (.ifCond .eq 9, 3) := dk_153 (by decide +kernel)
theorem dX1_needBound_55 : decode cX1_needBound 55 = .ok (.iload 4, 2) := dk_21 (by decide +kernel)
theorem dX1_needBound_57 : decode cX1_needBound 57 = .ok (.ineg, 1) := dk_116 (by decide +kernel)
theorem dX1_needBound_58 : decode cX1_needBound 58 = .ok (.goto 5, 3) := dk_167 (by decide +kernel)
theorem dX1_needBound_61 : decode cX1_needBound 61 = .ok (.iload 4, 2) := dk_21 (by decide +kernel)
theorem dX1_needBound_63 : decode cX1_needBound 63 = .ok (.ireturn, 1) := dk_172 (by decide +kernel)
def wsMX1_needBound : List Cond := .code yX1_needBound cX1_needBound 5 (some .int) :: ([.fieldLink RX1 13 "OptimaWorks$Model" "to" "[I", .fieldLink RX1 9 "OptimaWorks$Model" "from" "[I"] ++ wsX10 ++ (wsV RX1 64 RX1 yX1_needKind wsMX1_needKind) ++ (wsV RX1 68 RX1 yX1_needOf wsMX1_needOf) ++ (wsV RX1 83 RX1 yX1_rightSide wsMX1_rightSide) ++ (wsV RX1 79 RX1 yX1_isTurned wsMX1_isTurned))
theorem iwsMX1_needBound_in1 : ∀ w ∈ wsX10, w ∈ wsMX1_needBound := fun _ h => List.mem_cons_of_mem _ (List.mem_append_left _ (List.mem_append_left _ (List.mem_append_left _ (List.mem_append_left _ (List.mem_append_right _ h)))))
theorem gwsMX1_needBound_0 : GoodIn wsMX1_needBound (wsV RX1 64 RX1 yX1_needKind wsMX1_needKind) := goodIn_sub (fun _ h => List.mem_cons_of_mem _ (List.mem_append_left _ (List.mem_append_left _ (List.mem_append_left _ (List.mem_append_right _ h))))) (gdV (by decide +kernel) gdwsMX1_needKind)
theorem gwsMX1_needBound_1 : GoodIn wsMX1_needBound (wsV RX1 68 RX1 yX1_needOf wsMX1_needOf) := goodIn_sub (fun _ h => List.mem_cons_of_mem _ (List.mem_append_left _ (List.mem_append_left _ (List.mem_append_right _ h)))) (gdV (by decide +kernel) gdwsMX1_needOf)
theorem gwsMX1_needBound_2 : GoodIn wsMX1_needBound (wsV RX1 83 RX1 yX1_rightSide wsMX1_rightSide) := goodIn_sub (fun _ h => List.mem_cons_of_mem _ (List.mem_append_left _ (List.mem_append_right _ h))) (gdV (by decide +kernel) gdwsMX1_rightSide)
theorem gwsMX1_needBound_3 : GoodIn wsMX1_needBound (wsV RX1 79 RX1 yX1_isTurned wsMX1_isTurned) := goodIn_sub (fun _ h => List.mem_cons_of_mem _ (List.mem_append_right _ h)) (gdV (by decide +kernel) gdwsMX1_isTurned)
theorem gdwsMX1_needBound : wsMX1_needBound.all goodWord = true := gdC rfl (gdA (gdA (gdA (gdA (gdA (by decide +kernel : ([.fieldLink RX1 13 "OptimaWorks$Model" "to" "[I", .fieldLink RX1 9 "OptimaWorks$Model" "from" "[I"] : List Cond).all goodWord = true) gdwsX10) (gdV (by decide +kernel) gdwsMX1_needKind)) (gdV (by decide +kernel) gdwsMX1_needOf)) (gdV (by decide +kernel) gdwsMX1_rightSide)) (gdV (by decide +kernel) gdwsMX1_isTurned))
set_option maxHeartbeats 4000000 in
set_option maxRecDepth 100000 in
/-- the bound of a need -/
theorem m_X1_needBound (l : Launch) (dC : Nat → ClassId) (dI : Nat → Nat → Nat) (hM : Nat → Nat) (aM : Nat → Nat) (kM : Nat → ClassId) (iM_stands : Int32) (iM_variables : Int32) (iM_rows : Int32) (iM_goals : Int32) (iM_differents : Int32) (iM_cases : Int32) (fM_from : Nat → Int32) (fM_to : Nat → Int32) (fM_whole : Nat → Int32) (fM_ways : Nat → Int32) (iM_plainRows : Int32) (fM_plainRow : Nat → Int32) (fM_kept : Nat → Int32) (fM_goalOver : Nat → Int32) (fM_goalUnder : Nat → Int32) (fM_goalMax : Nat → Int32) (fM_different : Nat → Int32) (p1 : Int32) (b_iM_stands : 0 ≤ iM_stands.toInt ∧ iM_stands.toInt ≤ 1) (b_iM_variables : 0 ≤ iM_variables.toInt ∧ iM_variables.toInt ≤ 8) (b_iM_rows : 0 ≤ iM_rows.toInt ∧ iM_rows.toInt ≤ 12) (b_iM_goals : 0 ≤ iM_goals.toInt ∧ iM_goals.toInt ≤ 3) (b_iM_differents : 0 ≤ iM_differents.toInt ∧ iM_differents.toInt ≤ 8) (b_iM_cases : 0 ≤ iM_cases.toInt ∧ iM_cases.toInt ≤ 200000) (b_fM_ways : ∀ q : Nat, 0 ≤ (fM_ways q).toInt ∧ (fM_ways q).toInt ≤ 3) (b_iM_plainRows : 0 ≤ iM_plainRows.toInt ∧ iM_plainRows.toInt ≤ 12) (b_fM_plainRow : ∀ q : Nat, 0 ≤ (fM_plainRow q).toInt ∧ (fM_plainRow q).toInt ≤ 11) (b_pr : iM_plainRows.toInt ≤ iM_rows.toInt) (b_p1 : 0 ≤ p1.toInt ∧ p1.toInt ≤ 27) (hni : p1.toInt < iM_plainRows.toInt + 2 * iM_variables.toInt) (sz : Nat) : Met l yX1_needBound wsMX1_needBound ({ frames := 2, cells := 0, slots := 0, locals := 44 }) (va_Pc [.ref (hM 0), .int p1] (fun U => U.heap.size = sz ∧ va_P (dC, dI) vwCl (WM hM aM kM iM_stands iM_variables iM_rows iM_goals iM_differents iM_cases fM_from fM_to fM_whole fM_ways iM_plainRows fM_plainRow fM_kept fM_goalOver fM_goalUnder fM_goalMax fM_different) U.heap ∧ va_K (dC, dI) vwCl (tM kM) U ∧ va_D (fun _ => True) (WM hM aM kM iM_stands iM_variables iM_rows iM_goals iM_differents iM_cases fM_from fM_to fM_whole fM_ways iM_plainRows fM_plainRow fM_kept fM_goalOver fM_goalUnder fM_goalMax fM_different))) (va_Qi (fun (r : Int32) (u : Unit) => True) (fun (u : Unit) t => va_P (dC, dI) vwCl (WM hM aM kM iM_stands iM_variables iM_rows iM_goals iM_differents iM_cases fM_from fM_to fM_whole fM_ways iM_plainRows fM_plainRow fM_kept fM_goalOver fM_goalUnder fM_goalMax fM_different) t.heap ∧ va_D (va_A (WM hM aM kM iM_stands iM_variables iM_rows iM_goals iM_differents iM_cases fM_from fM_to fM_whole fM_ways iM_plainRows fM_plainRow fM_kept fM_goalOver fM_goalUnder fM_goalMax fM_different) sz) (WM hM aM kM iM_stands iM_variables iM_rows iM_goals iM_differents iM_cases fM_from fM_to fM_whole fM_ways iM_plainRows fM_plainRow fM_kept fM_goalOver fM_goalUnder fM_goalMax fM_different)) (va_A (WM hM aM kM iM_stands iM_variables iM_rows iM_goals iM_differents iM_cases fM_from fM_to fM_whole fM_ways iM_plainRows fM_plainRow fM_kept fM_goalOver fM_goalUnder fM_goalMax fM_different) sz)) 0 0 (va_A (WM hM aM kM iM_stands iM_variables iM_rows iM_goals iM_differents iM_cases fM_from fM_to fM_whole fM_ways iM_plainRows fM_plainRow fM_kept fM_goalOver fM_goalUnder fM_goalMax fM_different) sz) := by
  refine Met.ofW (cc := cX1_needBound) (maxL := 5) (ret := (some .int)) (by decide) rfl ?_
  intro p e s m args below meth c s₁ B hml hv
  obtain ⟨rfl, hsz, hP, hK, hD0⟩ := hv
  have hx := B.exec
  have hb := B.bytes
  have hr := B.returns
  have hts := atoms_spec (ws := wsMX1_needBound) B.pre
  have hown : s.vm.findClass RX1 = some m.cls := findClass_of_methodNamed B.named
  have hlocks := B.notSynchronized
  subst hsz
  have hD := hD0.self (sz := s.heap.size)
  generalize hAe : va_A (WM hM aM kM iM_stands iM_variables iM_rows iM_goals iM_differents iM_cases fM_from fM_to fM_whole fM_ways iM_plainRows fM_plainRow fM_kept fM_goalOver fM_goalUnder fM_goalMax fM_different) s.heap.size = A at hD ⊢
  have hA : ∀ q : Nat, s.heap.size ≤ q → A q := fun q h => by rw [← hAe]; exact Or.inr h
  have hS : va_S A s.heap s.heap [] := va_S.rf
  have hl := lv_entry ([.ref (hM 0), .int p1]) (n := 5) (Nat.le_of_ble_eq_true rfl)
  rw [lg_entry_eq]
  generalize (lg_sl ([.ref (hM 0), .int p1]) ++ List.replicate (5 - (lg_sl ([.ref (hM 0), .int p1])).length) Slot.unset).toArray = ls at hl ⊢
  have hl : lv_has ls 5 [(0, .ref (hM 0)), (1, .int p1)] := hl
  refine lv_aload_n hx hb dX1_needBound_0 rfl (lv_at hl 0 rfl) ?_
  refine lv_iload_n hx hb dX1_needBound_1 rfl (lv_at hl 1 rfl) ?_
  have hFc := allFree hD hS hA
  refine va_calli (va_runV (As := [.int p1]) (rest := []) ⟨hx, hb, hml, hown, hts⟩ (m_X1_needKind l dC dI hM aM kM iM_stands iM_variables iM_rows iM_goals iM_differents iM_cases fM_from fM_to fM_whole fM_ways iM_plainRows fM_plainRow fM_kept fM_goalOver fM_goalUnder fM_goalMax fM_different p1 (b_iM_stands) (b_iM_variables) (b_iM_rows) (b_iM_goals) (b_iM_differents) (b_iM_cases) b_fM_ways (b_iM_plainRows) b_fM_plainRow (by first | with_reducible assumption | omega | assumption) (b_p1) (by first | with_reducible assumption | omega | (rw [iI_t (by omega) (by omega)]; omega) | decide | assumption) s.heap.size) (cwV 1 hts gwsMX1_needBound_0 rfl rfl rfl hd_yX1_needKind_RX1 (by decide +kernel)) (fz_pre (va_recv hK hP (ci := 1) (q0 := 0) rfl rfl) hP hK hD) rfl rfl hl.1 rfl (lv_room (Nat.le_of_ble_eq_true rfl)) dX1_needBound_2 (by decide +kernel)) hS (fun q _ h => hFc q h) hFc (fun r1 u t9_ H locs ht hvm hw9 hB9 hz1 hk1 hS => ?_)
  revert hw9
  refine fz_a2 ?_
  intro b_r1 f1_0
  have hP : va_P (dC, dI) vwCl (WM hM aM kM iM_stands iM_variables iM_rows iM_goals iM_differents iM_cases fM_from fM_to fM_whole fM_ways iM_plainRows fM_plainRow fM_kept fM_goalOver fM_goalUnder fM_goalMax fM_different) H := fz_P ht hB9.1
  have hD := fz_sd hP (hB9.2.weaken (fun _ q _ h => hFc q.1 h)) rfl
  refine lv_istore_n hx hb dX1_needBound_5 rfl hl (by decide) rfl (fun ls (hl : lv_has ls _ ([(2, .int r1), (0, .ref (hM 0)), (1, .int p1)])) => ?_)
  refine lv_aload_n hx hb dX1_needBound_6 rfl (lv_at hl 1 rfl) ?_
  refine lv_iload_n hx hb dX1_needBound_7 rfl (lv_at hl 2 rfl) ?_
  have hFc := allFree hD hS hA
  refine va_calli (va_runV (As := [.int p1]) (rest := []) ⟨hx, hb, hml, hown, hts⟩ (m_X1_needOf l dC dI hM aM kM iM_stands iM_variables iM_rows iM_goals iM_differents iM_cases fM_from fM_to fM_whole fM_ways iM_plainRows fM_plainRow fM_kept fM_goalOver fM_goalUnder fM_goalMax fM_different p1 (b_iM_stands) (b_iM_variables) (b_iM_rows) (b_iM_goals) (b_iM_differents) (b_iM_cases) b_fM_ways (b_iM_plainRows) b_fM_plainRow (by first | with_reducible assumption | omega | assumption) (b_p1) (by first | with_reducible assumption | omega | (rw [iI_t (by omega) (by omega)]; omega) | decide | assumption) H.size) (cwV 1 hts gwsMX1_needBound_1 rfl rfl rfl hd_yX1_needOf_RX1 (by decide +kernel)) (fz_pre (va_recv hK hP (ci := 1) (q0 := 0) rfl rfl) hP hK hD) rfl rfl hl.1 rfl (lv_room (Nat.le_of_ble_eq_true rfl)) dX1_needBound_8 (by decide +kernel)) hS (fun q _ h => hFc q h) hFc (fun r2 u t9_ H locs ht hvm hw9 hB9 hz1 hk1 hS => ?_)
  revert hw9
  refine fz_a2 ?_
  intro b_r2 f2_0
  have hP : va_P (dC, dI) vwCl (WM hM aM kM iM_stands iM_variables iM_rows iM_goals iM_differents iM_cases fM_from fM_to fM_whole fM_ways iM_plainRows fM_plainRow fM_kept fM_goalOver fM_goalUnder fM_goalMax fM_different) H := fz_P ht hB9.1
  have hD := fz_sd hP (hB9.2.weaken (fun _ q _ h => hFc q.1 h)) rfl
  refine lv_istore_n hx hb dX1_needBound_11 rfl hl (by decide) rfl (fun ls (hl : lv_has ls _ ([(3, .int r2), (2, .int r1), (0, .ref (hM 0)), (1, .int p1)])) => ?_)
  refine lv_iload_n hx hb dX1_needBound_12 rfl (lv_at hl 1 rfl) ?_
  refine W.cut (pc := 45) (fun H locs ls stk => ∃ (k0_j3 : Int32),  stk = [.int k0_j3] ∧ va_P (dC, dI) vwCl (WM hM aM kM iM_stands iM_variables iM_rows iM_goals iM_differents iM_cases fM_from fM_to fM_whole fM_ways iM_plainRows fM_plainRow fM_kept fM_goalOver fM_goalUnder fM_goalMax fM_different) H ∧ va_D A (WM hM aM kM iM_stands iM_variables iM_rows iM_goals iM_differents iM_cases fM_from fM_to fM_whole fM_ways iM_plainRows fM_plainRow fM_kept fM_goalOver fM_goalUnder fM_goalMax fM_different) ∧ va_S A s.heap H locs ∧ lv_has ls 5 [(3, .int r2), (2, .int r1), (0, .ref (hM 0)), (1, .int p1)]) (fun join3 => ?_) ?_
  · refine lv_if_ne (tgt := 25) hx hb dX1_needBound_13 (by decide) (fun c_13 => ?_) (fun c_13 => ?_)
    · have t_13 : r1.toInt ≠ 0 := toI_ne c_13 rfl (by decide : (0 : Int32).toInt = 0)
      refine lv_iload_n hx hb dX1_needBound_25 rfl (lv_at hl 1 rfl) ?_
      refine lv_iconst (v := 1) hx hb dX1_needBound_26 (by decide) ?_
      refine lv_icmp_ne (tgt := 39) hx hb dX1_needBound_27 (by decide) (fun c_27 => ?_) (fun c_27 => ?_)
      · have t_27 : r1.toInt ≠ 1 := toI_ne c_27 rfl (by decide : (1 : Int32).toInt = 1)
        refine lv_aload_n hx hb dX1_needBound_39 rfl (lv_at hl 2 rfl) ?_
        refine va_get (D := (dC, dI)) (ci := 1) (v := .ref (aM 1)) (C := RX1) (T := TX1) (N := 17) hx hb hts iwsMX1_needBound_in1 hown hK hP 0 rfl rfl 7 (by decide) (hts (.fieldLink RX1 13 "OptimaWorks$Model" "to" "[I") (by decide +kernel)) (fun _ h9 => h9) rfl dX1_needBound_40 ?_
        refine lv_iload_n hx hb dX1_needBound_43 rfl (lv_at hl 0 rfl) ?_
        refine va_iald (cA := kM 1) (n := 8) (f := fM_to) hx hb hK hP 2 1 rfl rfl (vp_in_iff.mpr ⟨(by omega), (by omega)⟩) dX1_needBound_44 ?_
        refine lv_topi (fun v6 hv6 => ?_)
        clear hv6
        have hl : lv_has _ _ ([(3, .int r2), (2, .int r1), (0, .ref (hM 0)), (1, .int p1)]) := lv_sub hl [0, 1, 2, 3] rfl
        exact join3 _ _ _ _ ⟨v6, rfl, hP, hD, hS, hl⟩
      · have t_27 : r1.toInt = 1 := toI_nne c_27 rfl (by decide : (1 : Int32).toInt = 1)
        refine lv_aload_n hx hb dX1_needBound_30 rfl (lv_at hl 2 rfl) ?_
        refine va_get (D := (dC, dI)) (ci := 1) (v := .ref (aM 0)) (C := RX1) (T := TX1) (N := 17) hx hb hts iwsMX1_needBound_in1 hown hK hP 0 rfl rfl 6 (by decide) (hts (.fieldLink RX1 9 "OptimaWorks$Model" "from" "[I") (by decide +kernel)) (fun _ h9 => h9) rfl dX1_needBound_31 ?_
        refine lv_iload_n hx hb dX1_needBound_34 rfl (lv_at hl 0 rfl) ?_
        refine va_iald (cA := kM 0) (n := 8) (f := fM_from) hx hb hK hP 1 0 rfl rfl (vp_in_iff.mpr ⟨(by omega), (by omega)⟩) dX1_needBound_35 ?_
        refine lv_topi (fun v7 hv7 => ?_)
        clear hv7
        refine lv_goto (tgt := 45) hx hb dX1_needBound_36 (by decide) ?_
        have hl : lv_has _ _ ([(3, .int r2), (2, .int r1), (0, .ref (hM 0)), (1, .int p1)]) := lv_sub hl [0, 1, 2, 3] rfl
        exact join3 _ _ _ _ ⟨v7, rfl, hP, hD, hS, hl⟩
    · have t_13 : r1.toInt = 0 := toI_nne c_13 rfl (by decide : (0 : Int32).toInt = 0)
      refine lv_aload_n hx hb dX1_needBound_16 rfl (lv_at hl 2 rfl) ?_
      refine lv_iload_n hx hb dX1_needBound_17 rfl (lv_at hl 0 rfl) ?_
      refine lv_iconst (v := 0) hx hb dX1_needBound_18 (by decide) ?_
      have hFc := allFree hD hS hA
      refine va_calli (va_runV (As := [.int r2, .int 0]) (rest := []) ⟨hx, hb, hml, hown, hts⟩ (m_X1_rightSide l dC dI hM aM kM iM_stands iM_variables iM_rows iM_goals iM_differents iM_cases fM_from fM_to fM_whole fM_ways iM_plainRows fM_plainRow fM_kept fM_goalOver fM_goalUnder fM_goalMax fM_different r2 0 (b_iM_stands) (b_iM_variables) (b_iM_rows) (b_iM_goals) (b_iM_differents) (b_iM_cases) b_fM_ways (b_iM_plainRows) b_fM_plainRow (by first | with_reducible assumption | omega | assumption) (by first | exact b_r2 | with_reducible assumption | exact ⟨by omega, by omega⟩ | assumption) (show 0 ≤ (0 : Int32).toInt ∧ (0 : Int32).toInt ≤ 2 from by decide) H.size) (cwV 2 hts gwsMX1_needBound_2 rfl rfl rfl hd_yX1_rightSide_RX1 (by decide +kernel)) (fz_pre (va_recv hK hP (ci := 1) (q0 := 0) rfl rfl) hP hK hD) rfl rfl hl.1 rfl (lv_room (Nat.le_of_ble_eq_true rfl)) dX1_needBound_19 (by decide +kernel)) hS (fun q _ h => hFc q h) hFc (fun r8 u t9_ H locs ht hvm hw9 hB9 hz1 hk1 hS => ?_)
      clear hw9
      have hP : va_P (dC, dI) vwCl (WM hM aM kM iM_stands iM_variables iM_rows iM_goals iM_differents iM_cases fM_from fM_to fM_whole fM_ways iM_plainRows fM_plainRow fM_kept fM_goalOver fM_goalUnder fM_goalMax fM_different) H := fz_P ht hB9.1
      have hD := fz_sd hP (hB9.2.weaken (fun _ q _ h => hFc q.1 h)) rfl
      refine lv_goto (tgt := 45) hx hb dX1_needBound_22 (by decide) ?_
      have hl : lv_has _ _ ([(3, .int r2), (2, .int r1), (0, .ref (hM 0)), (1, .int p1)]) := lv_sub hl [0, 1, 2, 3] rfl
      exact join3 _ _ _ _ ⟨r8, rfl, hP, hD, hS, hl⟩
  · rintro H locs ls stk ⟨k0_j3, rfl, hP, hD, hS, hl⟩
    refine lv_istore hx hb dX1_needBound_45 hl (by decide) rfl (fun ls (hl : lv_has ls _ ([(4, .int k0_j3), (3, .int r2), (2, .int r1), (0, .ref (hM 0)), (1, .int p1)])) => ?_)
    refine lv_aload_n hx hb dX1_needBound_47 rfl (lv_at hl 3 rfl) ?_
    refine lv_iload_n hx hb dX1_needBound_48 rfl (lv_at hl 4 rfl) ?_
    have hFc := allFree hD hS hA
    refine va_calli (va_runV (As := [.int p1]) (rest := []) ⟨hx, hb, hml, hown, hts⟩ (m_X1_isTurned l dC dI hM aM kM iM_stands iM_variables iM_rows iM_goals iM_differents iM_cases fM_from fM_to fM_whole fM_ways iM_plainRows fM_plainRow fM_kept fM_goalOver fM_goalUnder fM_goalMax fM_different p1 (b_iM_stands) (b_iM_variables) (b_iM_rows) (b_iM_goals) (b_iM_differents) (b_iM_cases) b_fM_ways (b_iM_plainRows) b_fM_plainRow (by first | with_reducible assumption | omega | assumption) (b_p1) (by first | with_reducible assumption | omega | (rw [iI_t (by omega) (by omega)]; omega) | decide | assumption) H.size) (cwV 1 hts gwsMX1_needBound_3 rfl rfl rfl hd_yX1_isTurned_RX1 (by decide +kernel)) (fz_pre (va_recv hK hP (ci := 1) (q0 := 0) rfl rfl) hP hK hD) rfl rfl hl.1 rfl (lv_room (Nat.le_of_ble_eq_true rfl)) dX1_needBound_49 (by decide +kernel)) hS (fun q _ h => hFc q h) hFc (fun r9 u t9_ H locs ht hvm hw9 hB9 hz1 hk1 hS => ?_)
    have b_r9 := hw9
    try dsimp only at b_r9
    have hP : va_P (dC, dI) vwCl (WM hM aM kM iM_stands iM_variables iM_rows iM_goals iM_differents iM_cases fM_from fM_to fM_whole fM_ways iM_plainRows fM_plainRow fM_kept fM_goalOver fM_goalUnder fM_goalMax fM_different) H := fz_P ht hB9.1
    have hD := fz_sd hP (hB9.2.weaken (fun _ q _ h => hFc q.1 h)) rfl
    refine W.cut (pc := 63) (fun H locs ls stk => ∃ (k0_j4 : Int32),  stk = [.int k0_j4] ∧ va_P (dC, dI) vwCl (WM hM aM kM iM_stands iM_variables iM_rows iM_goals iM_differents iM_cases fM_from fM_to fM_whole fM_ways iM_plainRows fM_plainRow fM_kept fM_goalOver fM_goalUnder fM_goalMax fM_different) H ∧ va_D A (WM hM aM kM iM_stands iM_variables iM_rows iM_goals iM_differents iM_cases fM_from fM_to fM_whole fM_ways iM_plainRows fM_plainRow fM_kept fM_goalOver fM_goalUnder fM_goalMax fM_different) ∧ va_S A s.heap H locs ∧ lv_has ls 5 [(4, .int k0_j3), (3, .int r2), (2, .int r1), (0, .ref (hM 0)), (1, .int p1)]) (fun join4 => ?_) ?_
    · refine lv_if_eq (tgt := 61) hx hb dX1_needBound_52 (by decide) (fun c_52 => ?_) (fun c_52 => ?_)
      · have t_52 : r9.toInt = 0 := toI_eq c_52 rfl (by decide : (0 : Int32).toInt = 0)
        refine lv_iload hx hb dX1_needBound_61 (lv_at hl 0 rfl) ?_
        have hl : lv_has _ _ ([(4, .int k0_j3), (3, .int r2), (2, .int r1), (0, .ref (hM 0)), (1, .int p1)]) := lv_sub hl [0, 1, 2, 3, 4] rfl
        exact join4 _ _ _ _ ⟨k0_j3, rfl, hP, hD, hS, hl⟩
      · have t_52 : ¬ r9.toInt = 0 := toI_neq c_52 rfl (by decide : (0 : Int32).toInt = 0)
        refine lv_iload hx hb dX1_needBound_55 (lv_at hl 0 rfl) ?_
        refine lv_ineg hx hb dX1_needBound_57 ?_
        refine lv_topi (fun y11 hy11 => ?_)
        obtain rfl : (iI (-k0_j3.toInt)) = y11 := (hy11.trans (iI_neg2 (iI_of _))).symm
        refine lv_goto (tgt := 63) hx hb dX1_needBound_58 (by decide) ?_
        have hl : lv_has _ _ ([(4, .int k0_j3), (3, .int r2), (2, .int r1), (0, .ref (hM 0)), (1, .int p1)]) := lv_sub hl [0, 1, 2, 3, 4] rfl
        exact join4 _ _ _ _ ⟨(iI (-k0_j3.toInt)), rfl, hP, hD, hS, hl⟩
    · rintro H locs ls stk ⟨k0_j4, rfl, hP, hD, hS, hl⟩
      refine W.widen (k := 0) (n := 0) (by decide +kernel) (by decide +kernel) ?_
      exact W.iret (v := k0_j4) hx hb hr (fun t9_ ht hW => ⟨⟨k0_j4, (), rfl, trivial, by rw [ht]; exact hP, hD⟩, hS.F ht⟩) hS.2.2 dX1_needBound_63
end
section
theorem dX8_setLong_0 : decode cX8_setLong 0 = .ok (.aload_n 0, 1) := dk_42 (by decide +kernel)
theorem dX8_setLong_1 : decode cX8_setLong 1 = .ok (.lload_n 1, 1) := dk_31 (by decide +kernel)
theorem dX8_setLong_2 : decode cX8_setLong 2 = .ok (.lconst 0, 1) := dk_9 (by decide +kernel)
theorem dX8_setLong_3 : decode cX8_setLong 3 = .ok (.lcmp, 1) := dk_148 (by decide +kernel)
theorem dX8_setLong_4 : decode cX8_setLong 4 = .ok (.ifCond .ge 7, 3) := dk_156 (by decide +kernel)
theorem dX8_setLong_7 : decode cX8_setLong 7 = .ok (.iconst 1, 1) := dk_4 (by decide +kernel)
theorem dX8_setLong_8 : decode cX8_setLong 8 = .ok (.goto 4, 3) := dk_167 (by decide +kernel)
theorem dX8_setLong_11 : decode cX8_setLong 11 = .ok (.iconst 0, 1) := dk_3 (by decide +kernel)
theorem dX8_setLong_12 : decode cX8_setLong 12 = .ok (.putfield 13, 3) := dk_181 (by decide +kernel)
theorem dX8_setLong_15 : decode cX8_setLong 15 = .ok (.aload_n 0, 1) := dk_42 (by decide +kernel)
theorem dX8_setLong_16 : decode cX8_setLong 16 = .ok (.iconst 0, 1) := dk_3 (by decide +kernel)
theorem dX8_setLong_17 : decode cX8_setLong 17 = .ok (.putfield 17, 3) := dk_181 (by decide +kernel)
theorem dX8_setLong_20 : decode cX8_setLong 20 = .ok (.aload_n 0, 1) := dk_42 (by decide +kernel)
theorem dX8_setLong_21 : decode cX8_setLong 21 = .ok (.getfield 13, 3) := dk_180 (by decide +kernel)
theorem dX8_setLong_24 : decode cX8_setLong 24 = .ok (.ifCond .eq 8, 3) := dk_153 (by decide +kernel)
theorem dX8_setLong_27 : decode cX8_setLong 27 = .ok (.lload_n 1, 1) := dk_31 (by decide +kernel)
theorem dX8_setLong_28 : decode cX8_setLong 28 = .ok (.lneg, 1) := dk_117 (by decide +kernel)
theorem dX8_setLong_29 : decode cX8_setLong 29 = .ok (.goto 4, 3) := dk_167 (by decide +kernel)
theorem dX8_setLong_32 : decode cX8_setLong 32 = .ok (.lload_n 1, 1) := dk_31 (by decide +kernel)
theorem dX8_setLong_33 : decode cX8_setLong 33 = .ok (.lstore_n 3, 1) := dk_66 (by decide +kernel)
theorem dX8_setLong_34 : decode cX8_setLong 34 = .ok (.iconst 0, 1) := dk_3 (by decide +kernel)
theorem dX8_setLong_35 : decode cX8_setLong 35 = .ok (.istore 5, 2) := dk_54 (by decide +kernel)
theorem dX8_setLong_37 : decode cX8_setLong 37 = .ok (.iload 5, 2) := dk_21 (by decide +kernel)
theorem dX8_setLong_39 : decode cX8_setLong 39 = .ok (.iconst 3, 1) := dk_6 (by decide +kernel)
theorem dX8_setLong_40 : decode cX8_setLong 40 = .ok (.if_icmp .ge 40, 3) := dk_162 (by decide +kernel)
theorem dX8_setLong_43 : decode cX8_setLong 43 = .ok (.lload_n 3, 1) := dk_33 (by decide +kernel)
theorem dX8_setLong_44 : decode cX8_setLong 44 = .ok (.lconst 0, 1) := dk_9 (by decide +kernel)
theorem dX8_setLong_45 : decode cX8_setLong 45 = .ok (.lcmp, 1) := dk_148 (by decide +kernel)
theorem dX8_setLong_46 : decode cX8_setLong 46 = .ok (.ifCond .eq 34, 3) := dk_153 (by decide +kernel)
theorem dX8_setLong_49 : decode cX8_setLong 49 = .ok (.aload_n 0, 1) := dk_42 (by decide +kernel)
theorem dX8_setLong_50 : decode cX8_setLong 50 = .ok (.getfield 9, 3) := dk_180 (by decide +kernel)
theorem dX8_setLong_53 : decode cX8_setLong 53 = .ok (.iload 5, 2) := dk_21 (by decide +kernel)
theorem dX8_setLong_55 : decode cX8_setLong 55 = .ok (.lload_n 3, 1) := dk_33 (by decide +kernel)
theorem dX8_setLong_56 : decode cX8_setLong 56 = .ok (.ldc2_w 21, 3) := dk_20 (by decide +kernel)
theorem dX8_setLong_59 : decode cX8_setLong 59 = .ok (.land, 1) := dk_127 (by decide +kernel)
theorem dX8_setLong_60 : decode cX8_setLong 60 = .ok (.lastore, 1) := dk_80 (by decide +kernel)
theorem dX8_setLong_61 : decode cX8_setLong 61 = .ok (.lload_n 3, 1) := dk_33 (by decide +kernel)
theorem dX8_setLong_62 : decode cX8_setLong 62 = .ok (.bipush 30, 2) := dk_16 (by decide +kernel)
theorem dX8_setLong_64 : decode cX8_setLong 64 = .ok (.lushr, 1) := dk_125 (by decide +kernel)
theorem dX8_setLong_65 : decode cX8_setLong 65 = .ok (.lstore_n 3, 1) := dk_66 (by decide +kernel)
theorem dX8_setLong_66 : decode cX8_setLong 66 = .ok (.aload_n 0, 1) := dk_42 (by decide +kernel)
theorem dX8_setLong_67 : decode cX8_setLong 67 = .ok (.iload 5, 2) := dk_21 (by decide +kernel)
theorem dX8_setLong_69 : decode cX8_setLong 69 = .ok (.iconst 1, 1) := dk_4 (by decide +kernel)
theorem dX8_setLong_70 : decode cX8_setLong 70 = .ok (.iadd, 1) := dk_96 (by decide +kernel)
theorem dX8_setLong_71 : decode cX8_setLong 71 = .ok (.putfield 17, 3) := dk_181 (by decide +kernel)
theorem dX8_setLong_74 : decode cX8_setLong 74 = .ok (.iinc 5 1, 3) := dk_132 (by decide +kernel)
theorem dX8_setLong_77 : decode cX8_setLong 77 = .ok (.goto (-40), 3) := dk_167 (by decide +kernel)
theorem dX8_setLong_80 : decode cX8_setLong 80 = .ok (.return_, 1) := dk_177 (by decide +kernel)
def wsMX8_setLong : List Cond := .code yX8_setLong cX8_setLong 6 none :: ([.fieldLink RX8 13 "OptimaWorks$Whole" "below" "Z", .fieldLink RX8 17 "OptimaWorks$Whole" "length" "I", .fieldLink RX8 9 "OptimaWorks$Whole" "limb" "[J", .constantLong RX8 21 1073741823] ++ wsX80)
theorem iwsMX8_setLong_in8 : ∀ w ∈ wsX80, w ∈ wsMX8_setLong := fun _ h => List.mem_cons_of_mem _ (List.mem_append_right _ h)
theorem gdwsMX8_setLong : wsMX8_setLong.all goodWord = true := gdC rfl (gdA (by decide +kernel : ([.fieldLink RX8 13 "OptimaWorks$Whole" "below" "Z", .fieldLink RX8 17 "OptimaWorks$Whole" "length" "I", .fieldLink RX8 9 "OptimaWorks$Whole" "limb" "[J", .constantLong RX8 21 1073741823] : List Cond).all goodWord = true) gdwsX80)
theorem hm_m_X8_setLong_0 : (.fieldLink RX8 13 "OptimaWorks$Whole" "below" "Z" : Cond) ∈ wsMX8_setLong := by decide +kernel
theorem hm_m_X8_setLong_1 : (.fieldLink RX8 17 "OptimaWorks$Whole" "length" "I" : Cond) ∈ wsMX8_setLong := by decide +kernel
set_option maxHeartbeats 4000000 in
set_option maxRecDepth 100000 in
/-- a long -/
theorem m_X8_setLong (l : Launch) (dC : Nat → ClassId) (dI : Nat → Nat → Nat) (nW : Nat) (hw : Nat → Nat) (lw : Nat → Nat) (kw : ClassId) (wl : Nat → Int32) (wb : Nat → Int32) (wG : Nat → Nat → Int64) (tt : Nat) (xv : Int64) (b_wl : ∀ q : Nat, 0 ≤ (wl q).toInt ∧ (wl q).toInt ≤ 14) (b_wb : ∀ q : Nat, 0 ≤ (wb q).toInt ∧ (wb q).toInt ≤ 1) (htt : tt < nW) (sz : Nat) : Met l yX8_setLong wsMX8_setLong ({ frames := 0, cells := 0, slots := 0, locals := 0 }) (va_Pc [.ref (hw tt), .long xv] (fun U => U.heap.size = sz ∧ va_P (dC, dI) vwCl (WW nW hw lw kw wl wb wG) U.heap ∧ va_K (dC, dI) vwCl (tW kw) U ∧ va_D (fun _ => True) (WW nW hw lw kw wl wb wG))) (va_Qv (fun (u : (Nat → Int32) × (Nat → Int32) × (Nat → Nat → Int64)) => (∀ q : Nat, 0 ≤ ((u.1) q).toInt ∧ ((u.1) q).toInt ≤ 14) ∧ (∀ q : Nat, 0 ≤ ((u.2.1) q).toInt ∧ ((u.2.1) q).toInt ≤ 1)) (fun (u : (Nat → Int32) × (Nat → Int32) × (Nat → Nat → Int64)) t => va_P (dC, dI) vwCl (WW nW hw lw kw (u.1) (u.2.1) (u.2.2)) t.heap ∧ va_D (va_A (WW nW hw lw kw wl wb wG) sz) (WW nW hw lw kw (u.1) (u.2.1) (u.2.2))) (va_A (WW nW hw lw kw wl wb wG) sz)) 0 0 (va_A (WW nW hw lw kw wl wb wG) sz) := by
  refine Met.ofW (cc := cX8_setLong) (maxL := 6) (ret := none) (by decide) rfl ?_
  intro p e s m args below meth c s₁ B hml hv
  obtain ⟨rfl, hsz, hP, hK, hD0⟩ := hv
  have hx := B.exec
  have hb := B.bytes
  have hr := B.returns
  have hts := atoms_spec (ws := wsMX8_setLong) B.pre
  have hown : s.vm.findClass RX8 = some m.cls := findClass_of_methodNamed B.named
  have hlocks := B.notSynchronized
  subst hsz
  have hD := hD0.self (sz := s.heap.size)
  generalize hAe : va_A (WW nW hw lw kw wl wb wG) s.heap.size = A at hD ⊢
  have hA : ∀ q : Nat, s.heap.size ≤ q → A q := fun q h => by rw [← hAe]; exact Or.inr h
  have hS : va_S A s.heap s.heap [] := va_S.rf
  have hl := lv_entry ([.ref (hw tt), .long xv]) (n := 6) (Nat.le_of_ble_eq_true rfl)
  rw [lg_entry_eq]
  generalize (lg_sl ([.ref (hw tt), .long xv]) ++ List.replicate (6 - (lg_sl ([.ref (hw tt), .long xv])).length) Slot.unset).toArray = ls at hl ⊢
  have hl : lv_has ls 6 [(0, .ref (hw tt)), (1, .long xv)] := hl
  refine lv_aload_n hx hb dX8_setLong_0 rfl (lv_at hl 0 rfl) ?_
  refine lv_lload_n hx hb dX8_setLong_1 rfl (lv_at hl 1 rfl) ?_
  refine lv_lconst (v := 0) hx hb dX8_setLong_2 (by decide) ?_
  refine W.lcmp hx hb dX8_setLong_3 ?_
  refine W.cut (pc := 12) (fun H locs ls stk => ∃ (k0_j5 : Int32), (0 ≤ k0_j5.toInt ∧ k0_j5.toInt ≤ 1) ∧  stk = [.int k0_j5, .ref (hw tt)] ∧ va_P (dC, dI) vwCl (WW nW hw lw kw wl wb wG) H ∧ va_D A (WW nW hw lw kw wl wb wG) ∧ va_S A s.heap H locs ∧ lv_has ls 6 [(0, .ref (hw tt)), (1, .long xv)]) (fun join5 => ?_) ?_
  · refine lv_if_ge (tgt := 11) hx hb dX8_setLong_4 (by decide) (fun c_4 => ?_) (fun c_4 => ?_)
    · have t_4 : xv.toInt ≥ 0 := toL_ge c_4 rfl (by decide : (0 : Int64).toInt = 0)
      refine lv_iconst (v := 0) hx hb dX8_setLong_11 (by decide) ?_
      have hl : lv_has _ _ ([(0, .ref (hw tt)), (1, .long xv)]) := lv_sub hl [0, 1] rfl
      exact join5 _ _ _ _ ⟨0, (show 0 ≤ (0 : Int32).toInt ∧ (0 : Int32).toInt ≤ 1 from by decide), rfl, hP, hD, hS, hl⟩
    · have t_4 : ¬ xv.toInt ≥ 0 := toL_nge c_4 rfl (by decide : (0 : Int64).toInt = 0)
      refine lv_iconst (v := 1) hx hb dX8_setLong_7 (by decide) ?_
      refine lv_goto (tgt := 12) hx hb dX8_setLong_8 (by decide) ?_
      have hl : lv_has _ _ ([(0, .ref (hw tt)), (1, .long xv)]) := lv_sub hl [0, 1] rfl
      exact join5 _ _ _ _ ⟨1, (show 0 ≤ (1 : Int32).toInt ∧ (1 : Int32).toInt ≤ 1 from by decide), rfl, hP, hD, hS, hl⟩
  · rintro H locs ls stk ⟨k0_j5, b_k0_j5, rfl, hP, hD, hS, hl⟩
    refine va_put (D := (dC, dI)) (ci := 8) (v := .int k0_j5) (ty := .boolean) (C := RX8) (T := TX8) (N := 3) hx hb hts iwsMX8_setLong_in8 tyX8 tyX8_ok nmX8 hown hK hP hD hS (tt) (WW_o (by omega)) rfl 2 (by decide) (hts _ hm_m_X8_setLong_0) (fun _ h9 => h9) rfl (by decide +kernel) (by rcases z01 (x := k0_j5) (b_k0_j5) with h9 | h9 <;> rw [h9] <;> rfl) (by rcases z01 (x := k0_j5) (b_k0_j5) with h9 | h9 <;> rw [h9] <;> rfl) (Nat.le_of_ble_eq_true rfl) dX8_setLong_12 (fun H locs hP hD hS => ?_)
    obtain ⟨u1, hu1⟩ : ∃ f9, f9 = fT wb tt k0_j5 := ⟨_, rfl⟩
    have hP : va_P (dC, dI) vwCl (WW nW hw lw kw wl u1 wG) H := by rw [hu1]; exact Eq.mp (congrArg (fun z9 => va_P (dC, dI) vwCl z9 H) (WW_sb (by omega) k0_j5)) hP
    have hD : va_D A (WW nW hw lw kw wl u1 wG) := by rw [hu1]; exact Eq.mp (congrArg (fun z9 => va_D A z9) (WW_sb (by omega) k0_j5)) hD
    have b_u1 : ∀ q : Nat, 0 ≤ (u1 q).toInt ∧ (u1 q).toInt ≤ 1 := by rw [hu1]; exact fT_r b_wb (b_k0_j5)
    have q_u1 : (u1 tt).toInt = k0_j5.toInt := by rw [hu1, fT_eq]
    clear hu1
    refine lv_aload_n hx hb dX8_setLong_15 rfl (lv_at hl 0 rfl) ?_
    refine lv_iconst (v := 0) hx hb dX8_setLong_16 (by decide) ?_
    refine va_put (D := (dC, dI)) (ci := 8) (v := .int 0) (ty := .int) (C := RX8) (T := TX8) (N := 3) hx hb hts iwsMX8_setLong_in8 tyX8 tyX8_ok nmX8 hown hK hP hD hS (tt) (WW_o (by omega)) rfl 1 (by decide) (hts _ hm_m_X8_setLong_1) (fun _ h9 => h9) rfl (by decide +kernel) rfl rfl (Nat.le_of_ble_eq_true rfl) dX8_setLong_17 (fun H locs hP hD hS => ?_)
    obtain ⟨u2, hu2⟩ : ∃ f9, f9 = fT wl tt (0 : Int32) := ⟨_, rfl⟩
    have hP : va_P (dC, dI) vwCl (WW nW hw lw kw u2 u1 wG) H := by rw [hu2]; exact Eq.mp (congrArg (fun z9 => va_P (dC, dI) vwCl z9 H) (WW_sl (by omega) (0 : Int32))) hP
    have hD : va_D A (WW nW hw lw kw u2 u1 wG) := by rw [hu2]; exact Eq.mp (congrArg (fun z9 => va_D A z9) (WW_sl (by omega) (0 : Int32))) hD
    have b_u2 : ∀ q : Nat, 0 ≤ (u2 q).toInt ∧ (u2 q).toInt ≤ 14 := by rw [hu2]; exact fT_r b_wl (show 0 ≤ (0 : Int32).toInt ∧ (0 : Int32).toInt ≤ 14 from by decide)
    have q_u2 : (u2 tt).toInt = 0 := by rw [hu2, fT_eq]; exact (by decide : (0 : Int32).toInt = 0)
    clear hu2
    refine lv_aload_n hx hb dX8_setLong_20 rfl (lv_at hl 0 rfl) ?_
    refine va_get (D := (dC, dI)) (ci := 8) (v := .int (u1 tt)) (C := RX8) (T := TX8) (N := 3) hx hb hts iwsMX8_setLong_in8 hown hK hP (tt) (WW_o (by omega)) rfl 2 (by decide) (hts _ hm_m_X8_setLong_0) (fun _ h9 => h9) rfl dX8_setLong_21 ?_
    have br21 := b_u1 tt
    refine W.cut (pc := 33) (fun H locs ls stk => ∃ (k0_j6 : Int64),  stk = [.long k0_j6] ∧ va_P (dC, dI) vwCl (WW nW hw lw kw u2 u1 wG) H ∧ va_D A (WW nW hw lw kw u2 u1 wG) ∧ va_S A s.heap H locs ∧ lv_has ls 6 [(0, .ref (hw tt)), (1, .long xv)]) (fun join6 => ?_) ?_
    · refine lv_if_eq (tgt := 32) hx hb dX8_setLong_24 (by decide) (fun c_24 => ?_) (fun c_24 => ?_)
      · have t_24 : (u1 tt).toInt = 0 := toI_eq c_24 rfl (by decide : (0 : Int32).toInt = 0)
        refine lv_lload_n hx hb dX8_setLong_32 rfl (lv_at hl 1 rfl) ?_
        have hl : lv_has _ _ ([(0, .ref (hw tt)), (1, .long xv)]) := lv_sub hl [0, 1] rfl
        exact join6 _ _ _ _ ⟨xv, rfl, hP, hD, hS, hl⟩
      · have t_24 : ¬ (u1 tt).toInt = 0 := toI_neq c_24 rfl (by decide : (0 : Int32).toInt = 0)
        refine lv_lload_n hx hb dX8_setLong_27 rfl (lv_at hl 1 rfl) ?_
        refine lv_lneg hx hb dX8_setLong_28 ?_
        refine lv_topl (fun v4 hv4 => ?_)
        clear hv4
        refine lv_goto (tgt := 33) hx hb dX8_setLong_29 (by decide) ?_
        have hl : lv_has _ _ ([(0, .ref (hw tt)), (1, .long xv)]) := lv_sub hl [0, 1] rfl
        exact join6 _ _ _ _ ⟨v4, rfl, hP, hD, hS, hl⟩
    · rintro H locs ls stk ⟨k0_j6, rfl, hP, hD, hS, hl⟩
      refine lv_lstore_n hx hb dX8_setLong_33 rfl hl (by decide) rfl (fun ls (hl : lv_has ls _ ([(3, .long k0_j6), (0, .ref (hw tt)), (1, .long xv)])) => ?_)
      refine lv_iconst (v := 0) hx hb dX8_setLong_34 (by decide) ?_
      refine lv_istore hx hb dX8_setLong_35 hl (by decide) rfl (fun ls (hl : lv_has ls _ ([(5, .int 0), (3, .long k0_j6), (0, .ref (hw tt)), (1, .long xv)])) => ?_)
      have hl : lv_has _ _ ([(5, .int 0), (3, .long k0_j6), (0, .ref (hw tt)), (1, .long xv)]) := lv_sub hl [0, 1, 2, 3] rfl
      refine (fun (loop : ∀ (n9 : Nat) (wl_x37 : Nat → Int32) (wG_x37 : Nat → Nat → Int64) (l5_x37 : Int32) (l3_x37 : Int64) (H : Heap) (locs : List Loc) (ls : Array Slot), (∀ q : Nat, 0 ≤ (wl_x37 q).toInt ∧ (wl_x37 q).toInt ≤ 14) → (0 ≤ l5_x37.toInt ∧ l5_x37.toInt ≤ 3) → (3 - l5_x37.toInt < ((n9 : Nat) : Int)) → va_P (dC, dI) vwCl (WW nW hw lw kw wl_x37 u1 wG_x37) H → va_D A (WW nW hw lw kw wl_x37 u1 wG_x37) → va_S A s.heap H locs → lv_has ls 6 [(5, .int l5_x37), (3, .long l3_x37), (0, .ref (hw tt)), (1, .long xv)] → W p l e _ s m _ below meth c H locs 0 0 _ (F0 m 37 ls [])) => loop (4) u2 wG 0 k0_j6 _ _ _ b_u2 (show 0 ≤ (0 : Int32).toInt ∧ (0 : Int32).toInt ≤ 3 from by decide) ((by have e9 : (0 : Int32).toInt = 0 := (by decide : (0 : Int32).toInt = 0); omega)) hP hD hS hl) ?_
      intro n9
      induction n9 with
      | zero => intro wl_x37 wG_x37 l5_x37 l3_x37 H locs ls b_wl_x37 b_l5_x37 hf9; exact False.elim (by omega)
      | succ n9 ihx37 =>
        intro wl_x37 wG_x37 l5_x37 l3_x37 H locs ls b_wl_x37 b_l5_x37 hfx37 hP hD hS hl
        refine lv_iload hx hb dX8_setLong_37 (lv_at hl 0 rfl) ?_
        refine lv_iconst (v := 3) hx hb dX8_setLong_39 (by decide) ?_
        refine W.cut (pc := 80) (fun H locs ls stk =>  stk = [] ∧ va_P (dC, dI) vwCl (WW nW hw lw kw wl_x37 u1 wG_x37) H ∧ va_D A (WW nW hw lw kw wl_x37 u1 wG_x37) ∧ va_S A s.heap H locs ∧ lv_has ls 6 [(5, .int l5_x37), (3, .long l3_x37), (0, .ref (hw tt)), (1, .long xv)]) (fun join8 => ?_) ?_
        · refine lv_icmp_ge (tgt := 80) hx hb dX8_setLong_40 (by decide) (fun c_40 => ?_) (fun c_40 => ?_)
          · have t_40 : l5_x37.toInt ≥ 3 := toI_ge c_40 rfl (by decide : (3 : Int32).toInt = 3)
            have hl : lv_has _ _ ([(5, .int l5_x37), (3, .long l3_x37), (0, .ref (hw tt)), (1, .long xv)]) := lv_sub hl [0, 1, 2, 3] rfl
            exact join8 _ _ _ _ ⟨rfl, hP, hD, hS, hl⟩
          · have t_40 : ¬ l5_x37.toInt ≥ 3 := toI_nge c_40 rfl (by decide : (3 : Int32).toInt = 3)
            refine lv_lload_n hx hb dX8_setLong_43 rfl (lv_at hl 1 rfl) ?_
            refine lv_lconst (v := 0) hx hb dX8_setLong_44 (by decide) ?_
            refine W.lcmp hx hb dX8_setLong_45 ?_
            refine lv_if_eq (tgt := 80) hx hb dX8_setLong_46 (by decide) (fun c_46 => ?_) (fun c_46 => ?_)
            · have t_46 : l3_x37.toInt = 0 := toL_eq c_46 rfl (by decide : (0 : Int64).toInt = 0)
              have hl : lv_has _ _ ([(5, .int l5_x37), (3, .long l3_x37), (0, .ref (hw tt)), (1, .long xv)]) := lv_sub hl [0, 1, 2, 3] rfl
              exact join8 _ _ _ _ ⟨rfl, hP, hD, hS, hl⟩
            · have t_46 : ¬ l3_x37.toInt = 0 := toL_neq c_46 rfl (by decide : (0 : Int64).toInt = 0)
              refine lv_aload_n hx hb dX8_setLong_49 rfl (lv_at hl 2 rfl) ?_
              refine va_get (D := (dC, dI)) (ci := 8) (v := .ref (lw tt)) (C := RX8) (T := TX8) (N := 3) hx hb hts iwsMX8_setLong_in8 hown hK hP (tt) (WW_o (by omega)) rfl 0 (by decide) (hts (.fieldLink RX8 9 "OptimaWorks$Whole" "limb" "[J") (by decide +kernel)) (fun _ h9 => h9) rfl dX8_setLong_50 ?_
              refine lv_iload hx hb dX8_setLong_53 (lv_at hl 0 rfl) ?_
              refine lv_lload_n hx hb dX8_setLong_55 rfl (lv_at hl 1 rfl) ?_
              refine lv_ldc2 (v := 1073741823) hx hb hown (hts (.constantLong RX8 21 1073741823) (by decide +kernel)) dX8_setLong_56 ?_
              refine lv_land hx hb dX8_setLong_59 ?_
              refine lv_topl (fun v30 hv30 => ?_)
              clear hv30
              refine va_last (cA := kw) (n := 14) (f := (wG_x37 tt)) hx hb hK hP hD hS (nW + tt) 0 (WW_a (by omega)) rfl (vp_in_iff.mpr ⟨b_l5_x37.1, (Int.lt_of_le_of_lt (b_l5_x37.2) (by decide))⟩) dX8_setLong_60 (fun H locs hP hD hS => ?_)
              obtain ⟨u31, hu31⟩ : ∃ f9, f9 = fT wG_x37 tt (vp_updL (wG_x37 tt) (l5_x37).toNatClampNeg v30) := ⟨_, rfl⟩
              have hP : va_P (dC, dI) vwCl (WW nW hw lw kw wl_x37 u1 u31) H := by rw [hu31]; exact Eq.mp (congrArg (fun z9 => va_P (dC, dI) vwCl z9 H) (WW_sg (by omega) (vp_updL (wG_x37 tt) (l5_x37).toNatClampNeg v30))) hP
              have hD : va_D A (WW nW hw lw kw wl_x37 u1 u31) := by rw [hu31]; exact Eq.mp (congrArg (fun z9 => va_D A z9) (WW_sg (by omega) (vp_updL (wG_x37 tt) (l5_x37).toNatClampNeg v30))) hD
              clear hu31
              refine lv_lload_n hx hb dX8_setLong_61 rfl (lv_at hl 1 rfl) ?_
              refine lv_bipush (v := 30) hx hb dX8_setLong_62 (by decide) ?_
              refine lv_lushr hx hb dX8_setLong_64 rfl ?_
              refine lv_topl (fun v32 hv32 => ?_)
              clear hv32
              refine lv_lstore_n hx hb dX8_setLong_65 rfl hl (by decide) rfl (fun ls (hl : lv_has ls _ ([(3, .long v32), (5, .int l5_x37), (0, .ref (hw tt)), (1, .long xv)])) => ?_)
              refine lv_aload_n hx hb dX8_setLong_66 rfl (lv_at hl 2 rfl) ?_
              refine lv_iload hx hb dX8_setLong_67 (lv_at hl 1 rfl) ?_
              refine lv_iconst (v := 1) hx hb dX8_setLong_69 (by decide) ?_
              refine lv_iadd hx hb dX8_setLong_70 ?_
              refine lv_topi (fun y33 hy33 => ?_)
              obtain rfl : (iI (l5_x37.toInt + 1)) = y33 := (hy33.trans (iI_add2 (iI_of _) (by decide : (1 : Int32) = iI 1))).symm
              refine va_put (D := (dC, dI)) (ci := 8) (v := .int (iI (l5_x37.toInt + 1))) (ty := .int) (C := RX8) (T := TX8) (N := 3) hx hb hts iwsMX8_setLong_in8 tyX8 tyX8_ok nmX8 hown hK hP hD hS (tt) (WW_o (by omega)) rfl 1 (by decide) (hts _ hm_m_X8_setLong_1) (fun _ h9 => h9) rfl (by decide +kernel) rfl rfl (Nat.le_of_ble_eq_true rfl) dX8_setLong_71 (fun H locs hP hD hS => ?_)
              obtain ⟨u34, hu34⟩ : ∃ f9, f9 = fT wl_x37 tt (iI (l5_x37.toInt + 1)) := ⟨_, rfl⟩
              have hP : va_P (dC, dI) vwCl (WW nW hw lw kw u34 u1 u31) H := by rw [hu34]; exact Eq.mp (congrArg (fun z9 => va_P (dC, dI) vwCl z9 H) (WW_sl (by omega) (iI (l5_x37.toInt + 1)))) hP
              have hD : va_D A (WW nW hw lw kw u34 u1 u31) := by rw [hu34]; exact Eq.mp (congrArg (fun z9 => va_D A z9) (WW_sl (by omega) (iI (l5_x37.toInt + 1)))) hD
              have b_u34 : ∀ q : Nat, 0 ≤ (u34 q).toInt ∧ (u34 q).toInt ≤ 14 := by rw [hu34]; exact fT_r b_wl_x37 (iI_rng (Int.le_trans (by decide) (Int.add_le_add (b_l5_x37.1) (Int.le_refl _))) (Int.le_trans (Int.add_le_add (b_l5_x37.2) (Int.le_refl _)) (by decide)) (by decide) (by decide))
              have q_u34 : (u34 tt).toInt = (l5_x37.toInt + 1) := by rw [hu34, fT_eq]; exact (iI_t (Int.le_trans (by decide) (Int.add_le_add (b_l5_x37.1) (Int.le_refl _))) (Int.le_trans (Int.add_le_add (b_l5_x37.2) (Int.le_refl _)) (by decide)))
              clear hu34
              refine lv_iinc (v := (iI (l5_x37.toInt + 1))) hx hb dX8_setLong_74 hl (k := 1) rfl (iI_add2 (iI_of _) (by decide : (1 : Int32) = iI 1)) (by decide) rfl (fun ls (hl : lv_has ls _ ([(5, .int (iI (l5_x37.toInt + 1))), (3, .long v32), (0, .ref (hw tt)), (1, .long xv)])) => ?_)
              refine lv_goto (tgt := 37) hx hb dX8_setLong_77 (by decide) ?_
              have hl : lv_has _ _ ([(5, .int (iI (l5_x37.toInt + 1))), (3, .long v32), (0, .ref (hw tt)), (1, .long xv)]) := lv_sub hl [0, 1, 2, 3] rfl
              exact ihx37 u34 u31 (iI (l5_x37.toInt + 1)) v32 _ _ _ b_u34 (iI_rng (Int.le_trans (by decide) (Int.add_le_add (b_l5_x37.1) (Int.le_refl _))) (by omega) (by decide) (by decide)) (by have e9 : ((iI (l5_x37.toInt + 1))).toInt = (l5_x37.toInt + 1) := (iI_t (Int.le_trans (by decide) (Int.add_le_add (b_l5_x37.1) (Int.le_refl _))) (Int.le_trans (Int.add_le_add (b_l5_x37.2) (Int.le_refl _)) (by decide))); omega) hP hD hS hl
        · rintro H locs ls stk ⟨rfl, hP, hD, hS, hl⟩
          refine W.widen (k := 0) (n := 0) (by decide +kernel) (by decide +kernel) ?_
          exact W.vret hx hb hr (fun t9_ ht hW => ⟨⟨(wl_x37, u1, wG_x37), rfl, ⟨b_wl_x37, b_u1⟩, by rw [ht]; exact hP, hD⟩, hS.F ht⟩) hS.2.2 dX8_setLong_80
theorem dX8_copy_0 : decode cX8_copy 0 = .ok (.aload_n 1, 1) := dk_43 (by decide +kernel)
theorem dX8_copy_1 : decode cX8_copy 1 = .ok (.getfield 9, 3) := dk_180 (by decide +kernel)
theorem dX8_copy_4 : decode cX8_copy 4 = .ok (.iconst 0, 1) := dk_3 (by decide +kernel)
theorem dX8_copy_5 : decode cX8_copy 5 = .ok (.aload_n 0, 1) := dk_42 (by decide +kernel)
theorem dX8_copy_6 : decode cX8_copy 6 = .ok (.getfield 9, 3) := dk_180 (by decide +kernel)
theorem dX8_copy_9 : decode cX8_copy 9 = .ok (.iconst 0, 1) := dk_3 (by decide +kernel)
theorem dX8_copy_10 : decode cX8_copy 10 = .ok (.aload_n 1, 1) := dk_43 (by decide +kernel)
theorem dX8_copy_11 : decode cX8_copy 11 = .ok (.getfield 17, 3) := dk_180 (by decide +kernel)
theorem dX8_copy_14 : decode cX8_copy 14 = .ok (.invokestatic 23, 3) := dk_184 (by decide +kernel)
theorem dX8_copy_17 : decode cX8_copy 17 = .ok (.aload_n 0, 1) := dk_42 (by decide +kernel)
theorem dX8_copy_18 : decode cX8_copy 18 = .ok (.aload_n 1, 1) := dk_43 (by decide +kernel)
theorem dX8_copy_19 : decode cX8_copy 19 = .ok (.getfield 17, 3) := dk_180 (by decide +kernel)
theorem dX8_copy_22 : decode cX8_copy 22 = .ok (.putfield 17, 3) := dk_181 (by decide +kernel)
theorem dX8_copy_25 : decode cX8_copy 25 = .ok (.aload_n 0, 1) := dk_42 (by decide +kernel)
theorem dX8_copy_26 : decode cX8_copy 26 = .ok (.aload_n 1, 1) := dk_43 (by decide +kernel)
theorem dX8_copy_27 : decode cX8_copy 27 = .ok (.getfield 13, 3) := dk_180 (by decide +kernel)
theorem dX8_copy_30 : decode cX8_copy 30 = .ok (.putfield 13, 3) := dk_181 (by decide +kernel)
theorem dX8_copy_33 : decode cX8_copy 33 = .ok (.return_, 1) := dk_177 (by decide +kernel)
def wsMX8_copy : List Cond := .code yX8_copy cX8_copy 2 none :: ([.fieldLink RX8 9 "OptimaWorks$Whole" "limb" "[J", .fieldLink RX8 17 "OptimaWorks$Whole" "length" "I", .methodLink RX8 23 arraycopyName, .native arraycopyName, .static arraycopyName, .initialized "java/lang/System", .fieldLink RX8 13 "OptimaWorks$Whole" "below" "Z"] ++ wsX80)
theorem iwsMX8_copy_in8 : ∀ w ∈ wsX80, w ∈ wsMX8_copy := fun _ h => List.mem_cons_of_mem _ (List.mem_append_right _ h)
theorem gdwsMX8_copy : wsMX8_copy.all goodWord = true := gdC rfl (gdA (by decide +kernel : ([.fieldLink RX8 9 "OptimaWorks$Whole" "limb" "[J", .fieldLink RX8 17 "OptimaWorks$Whole" "length" "I", .methodLink RX8 23 arraycopyName, .native arraycopyName, .static arraycopyName, .initialized "java/lang/System", .fieldLink RX8 13 "OptimaWorks$Whole" "below" "Z"] : List Cond).all goodWord = true) gdwsX80)
theorem hm_m_X8_copy_0 : (.fieldLink RX8 9 "OptimaWorks$Whole" "limb" "[J" : Cond) ∈ wsMX8_copy := by decide +kernel
theorem hm_m_X8_copy_1 : (.fieldLink RX8 17 "OptimaWorks$Whole" "length" "I" : Cond) ∈ wsMX8_copy := by decide +kernel
theorem hm_m_X8_copy_2 : (.fieldLink RX8 13 "OptimaWorks$Whole" "below" "Z" : Cond) ∈ wsMX8_copy := by decide +kernel
set_option maxHeartbeats 4000000 in
set_option maxRecDepth 100000 in
/-- a copy -/
theorem m_X8_copy (l : Launch) (dC : Nat → ClassId) (dI : Nat → Nat → Nat) (nW : Nat) (hw : Nat → Nat) (lw : Nat → Nat) (kw : ClassId) (wl : Nat → Int32) (wb : Nat → Int32) (wG : Nat → Nat → Int64) (tt : Nat) (ta : Nat) (b_wl : ∀ q : Nat, 0 ≤ (wl q).toInt ∧ (wl q).toInt ≤ 14) (b_wb : ∀ q : Nat, 0 ≤ (wb q).toInt ∧ (wb q).toInt ≤ 1) (htt : tt < nW) (hta : ta < nW) (sz : Nat) : Met l yX8_copy wsMX8_copy ({ frames := 1, cells := 0, slots := 0, locals := 18 }) (va_Pc [.ref (hw tt), .ref (hw ta)] (fun U => U.heap.size = sz ∧ va_P (dC, dI) vwCl (WW nW hw lw kw wl wb wG) U.heap ∧ va_K (dC, dI) vwCl (tW kw) U ∧ va_D (fun _ => True) (WW nW hw lw kw wl wb wG))) (va_Qv (fun (u : (Nat → Int32) × (Nat → Int32) × (Nat → Nat → Int64)) => (∀ q : Nat, 0 ≤ ((u.1) q).toInt ∧ ((u.1) q).toInt ≤ 14) ∧ (∀ q : Nat, 0 ≤ ((u.2.1) q).toInt ∧ ((u.2.1) q).toInt ≤ 1)) (fun (u : (Nat → Int32) × (Nat → Int32) × (Nat → Nat → Int64)) t => va_P (dC, dI) vwCl (WW nW hw lw kw (u.1) (u.2.1) (u.2.2)) t.heap ∧ va_D (va_A (WW nW hw lw kw wl wb wG) sz) (WW nW hw lw kw (u.1) (u.2.1) (u.2.2))) (va_A (WW nW hw lw kw wl wb wG) sz)) 0 0 (va_A (WW nW hw lw kw wl wb wG) sz) := by
  refine Met.ofW (cc := cX8_copy) (maxL := 2) (ret := none) (by decide) rfl ?_
  intro p e s m args below meth c s₁ B hml hv
  obtain ⟨rfl, hsz, hP, hK, hD0⟩ := hv
  have hx := B.exec
  have hb := B.bytes
  have hr := B.returns
  have hts := atoms_spec (ws := wsMX8_copy) B.pre
  have hown : s.vm.findClass RX8 = some m.cls := findClass_of_methodNamed B.named
  have hlocks := B.notSynchronized
  subst hsz
  have hD := hD0.self (sz := s.heap.size)
  generalize hAe : va_A (WW nW hw lw kw wl wb wG) s.heap.size = A at hD ⊢
  have hA : ∀ q : Nat, s.heap.size ≤ q → A q := fun q h => by rw [← hAe]; exact Or.inr h
  have hS : va_S A s.heap s.heap [] := va_S.rf
  have hl := lv_entry ([.ref (hw tt), .ref (hw ta)]) (n := 2) (Nat.le_of_ble_eq_true rfl)
  rw [lg_entry_eq]
  generalize (lg_sl ([.ref (hw tt), .ref (hw ta)]) ++ List.replicate (2 - (lg_sl ([.ref (hw tt), .ref (hw ta)])).length) Slot.unset).toArray = ls at hl ⊢
  have hl : lv_has ls 2 [(0, .ref (hw tt)), (1, .ref (hw ta))] := hl
  refine lv_aload_n hx hb dX8_copy_0 rfl (lv_at hl 1 rfl) ?_
  refine va_get (D := (dC, dI)) (ci := 8) (v := .ref (lw ta)) (C := RX8) (T := TX8) (N := 3) hx hb hts iwsMX8_copy_in8 hown hK hP (ta) (WW_o (by omega)) rfl 0 (by decide) (hts _ hm_m_X8_copy_0) (fun _ h9 => h9) rfl dX8_copy_1 ?_
  refine lv_iconst (v := 0) hx hb dX8_copy_4 (by decide) ?_
  refine lv_aload_n hx hb dX8_copy_5 rfl (lv_at hl 0 rfl) ?_
  refine va_get (D := (dC, dI)) (ci := 8) (v := .ref (lw tt)) (C := RX8) (T := TX8) (N := 3) hx hb hts iwsMX8_copy_in8 hown hK hP (tt) (WW_o (by omega)) rfl 0 (by decide) (hts _ hm_m_X8_copy_0) (fun _ h9 => h9) rfl dX8_copy_6 ?_
  refine lv_iconst (v := 0) hx hb dX8_copy_9 (by decide) ?_
  refine lv_aload_n hx hb dX8_copy_10 rfl (lv_at hl 1 rfl) ?_
  refine va_get (D := (dC, dI)) (ci := 8) (v := .int (wl ta)) (C := RX8) (T := TX8) (N := 3) hx hb hts iwsMX8_copy_in8 hown hK hP (ta) (WW_o (by omega)) rfl 1 (by decide) (hts _ hm_m_X8_copy_1) (fun _ h9 => h9) rfl dX8_copy_11 ?_
  have br11 := b_wl ta
  refine va_copyl hx hb (by rw [hml]; exact hl.1.symm) hown (hts (.methodLink RX8 23 arraycopyName) (by decide +kernel)) (hts (.native arraycopyName) (by decide +kernel)) (hts (.static arraycopyName) (by decide +kernel)) (hts (.initialized "java/lang/System") (by decide +kernel)) hK hP hD hS (nW + ta) (nW + tt) 0 0 (WW_a (by omega)) (WW_a (by omega)) rfl rfl rfl (by decide) (by decide) (nn_i rfl (by omega)) (cp_fit (by decide : (0 : Int32).toInt = 0) rfl (by omega) (by omega) (by omega)) (cp_fit (by decide : (0 : Int32).toInt = 0) rfl (by omega) (by omega) (by omega)) (fun i9 h9 => rfl) (by decide +kernel) (Nat.le_of_ble_eq_true rfl) dX8_copy_14 (fun H locs hP hD hS => ?_)
  obtain ⟨u1, hu1⟩ : ∃ f9, f9 = fT wG tt (va_cpy (wG ta) (wG tt) (0 : Int32).toNatClampNeg (0 : Int32).toNatClampNeg ((wl ta)).toNatClampNeg) := ⟨_, rfl⟩
  have hP : va_P (dC, dI) vwCl (WW nW hw lw kw wl wb u1) H := by rw [hu1]; exact Eq.mp (congrArg (fun z9 => va_P (dC, dI) vwCl z9 H) (WW_sg (by omega) (va_cpy (wG ta) (wG tt) (0 : Int32).toNatClampNeg (0 : Int32).toNatClampNeg ((wl ta)).toNatClampNeg))) hP
  have hD : va_D A (WW nW hw lw kw wl wb u1) := by rw [hu1]; exact Eq.mp (congrArg (fun z9 => va_D A z9) (WW_sg (by omega) (va_cpy (wG ta) (wG tt) (0 : Int32).toNatClampNeg (0 : Int32).toNatClampNeg ((wl ta)).toNatClampNeg))) hD
  clear hu1
  refine lv_aload_n hx hb dX8_copy_17 rfl (lv_at hl 0 rfl) ?_
  refine lv_aload_n hx hb dX8_copy_18 rfl (lv_at hl 1 rfl) ?_
  refine va_get (D := (dC, dI)) (ci := 8) (v := .int (wl ta)) (C := RX8) (T := TX8) (N := 3) hx hb hts iwsMX8_copy_in8 hown hK hP (ta) (WW_o (by omega)) rfl 1 (by decide) (hts _ hm_m_X8_copy_1) (fun _ h9 => h9) rfl dX8_copy_19 ?_
  have br19 := b_wl ta
  refine va_put (D := (dC, dI)) (ci := 8) (v := .int (wl ta)) (ty := .int) (C := RX8) (T := TX8) (N := 3) hx hb hts iwsMX8_copy_in8 tyX8 tyX8_ok nmX8 hown hK hP hD hS (tt) (WW_o (by omega)) rfl 1 (by decide) (hts _ hm_m_X8_copy_1) (fun _ h9 => h9) rfl (by decide +kernel) rfl rfl (Nat.le_of_ble_eq_true rfl) dX8_copy_22 (fun H locs hP hD hS => ?_)
  obtain ⟨u2, hu2⟩ : ∃ f9, f9 = fT wl tt (wl ta) := ⟨_, rfl⟩
  have hP : va_P (dC, dI) vwCl (WW nW hw lw kw u2 wb u1) H := by rw [hu2]; exact Eq.mp (congrArg (fun z9 => va_P (dC, dI) vwCl z9 H) (WW_sl (by omega) (wl ta))) hP
  have hD : va_D A (WW nW hw lw kw u2 wb u1) := by rw [hu2]; exact Eq.mp (congrArg (fun z9 => va_D A z9) (WW_sl (by omega) (wl ta))) hD
  have b_u2 : ∀ q : Nat, 0 ≤ (u2 q).toInt ∧ (u2 q).toInt ≤ 14 := by rw [hu2]; exact fT_r b_wl (by first | assumption | exact ⟨by omega, by omega⟩)
  have q_u2 : (u2 tt).toInt = (wl ta).toInt := by rw [hu2, fT_eq]
  clear hu2
  refine lv_aload_n hx hb dX8_copy_25 rfl (lv_at hl 0 rfl) ?_
  refine lv_aload_n hx hb dX8_copy_26 rfl (lv_at hl 1 rfl) ?_
  refine va_get (D := (dC, dI)) (ci := 8) (v := .int (wb ta)) (C := RX8) (T := TX8) (N := 3) hx hb hts iwsMX8_copy_in8 hown hK hP (ta) (WW_o (by omega)) rfl 2 (by decide) (hts _ hm_m_X8_copy_2) (fun _ h9 => h9) rfl dX8_copy_27 ?_
  have br27 := b_wb ta
  refine va_put (D := (dC, dI)) (ci := 8) (v := .int (wb ta)) (ty := .boolean) (C := RX8) (T := TX8) (N := 3) hx hb hts iwsMX8_copy_in8 tyX8 tyX8_ok nmX8 hown hK hP hD hS (tt) (WW_o (by omega)) rfl 2 (by decide) (hts _ hm_m_X8_copy_2) (fun _ h9 => h9) rfl (by decide +kernel) (by rcases z01 (x := (wb ta)) (by first | assumption | exact ⟨by omega, by omega⟩) with h9 | h9 <;> rw [h9] <;> rfl) (by rcases z01 (x := (wb ta)) (by first | assumption | exact ⟨by omega, by omega⟩) with h9 | h9 <;> rw [h9] <;> rfl) (Nat.le_of_ble_eq_true rfl) dX8_copy_30 (fun H locs hP hD hS => ?_)
  obtain ⟨u3, hu3⟩ : ∃ f9, f9 = fT wb tt (wb ta) := ⟨_, rfl⟩
  have hP : va_P (dC, dI) vwCl (WW nW hw lw kw u2 u3 u1) H := by rw [hu3]; exact Eq.mp (congrArg (fun z9 => va_P (dC, dI) vwCl z9 H) (WW_sb (by omega) (wb ta))) hP
  have hD : va_D A (WW nW hw lw kw u2 u3 u1) := by rw [hu3]; exact Eq.mp (congrArg (fun z9 => va_D A z9) (WW_sb (by omega) (wb ta))) hD
  have b_u3 : ∀ q : Nat, 0 ≤ (u3 q).toInt ∧ (u3 q).toInt ≤ 1 := by rw [hu3]; exact fT_r b_wb (by first | assumption | exact ⟨by omega, by omega⟩)
  have q_u3 : (u3 tt).toInt = (wb ta).toInt := by rw [hu3, fT_eq]
  clear hu3
  refine W.widen (k := 0) (n := 0) (by decide +kernel) (by decide +kernel) ?_
  exact W.vret hx hb hr (fun t9_ ht hW => ⟨⟨(u2, u3, u1), rfl, ⟨b_u2, b_u3⟩, by rw [ht]; exact hP, hD⟩, hS.F ht⟩) hS.2.2 dX8_copy_33
theorem dX8_sign_0 : decode cX8_sign 0 = .ok (.aload_n 0, 1) := dk_42 (by decide +kernel)
theorem dX8_sign_1 : decode cX8_sign 1 = .ok (.getfield 17, 3) := dk_180 (by decide +kernel)
theorem dX8_sign_4 : decode cX8_sign 4 = .ok (.ifCond .ne 7, 3) := dk_154 (by decide +kernel)
theorem dX8_sign_7 : decode cX8_sign 7 = .ok (.iconst 0, 1) := dk_3 (by decide +kernel)
theorem dX8_sign_8 : decode cX8_sign 8 = .ok (.goto 15, 3) := dk_167 (by decide +kernel)
theorem dX8_sign_11 : decode cX8_sign 11 = .ok (.aload_n 0, 1) := dk_42 (by decide +kernel)
theorem dX8_sign_12 : decode cX8_sign 12 = .ok (.getfield 13, 3) := dk_180 (by decide +kernel)
theorem dX8_sign_15 : decode cX8_sign 15 = .ok (.ifCond .eq 7, 3) := dk_153 (by decide +kernel)
theorem dX8_sign_18 : decode cX8_sign 18 = .ok (.iconst (-1), 1) := dk_2 (by decide +kernel)
theorem dX8_sign_19 : decode cX8_sign 19 = .ok (.goto 4, 3) := dk_167 (by decide +kernel)
theorem dX8_sign_22 : decode cX8_sign 22 = .ok (.iconst 1, 1) := dk_4 (by decide +kernel)
theorem dX8_sign_23 : decode cX8_sign 23 = .ok (.ireturn, 1) := dk_172 (by decide +kernel)
def wsMX8_sign : List Cond := .code yX8_sign cX8_sign 1 (some .int) :: ([.fieldLink RX8 17 "OptimaWorks$Whole" "length" "I", .fieldLink RX8 13 "OptimaWorks$Whole" "below" "Z"] ++ wsX80)
theorem iwsMX8_sign_in8 : ∀ w ∈ wsX80, w ∈ wsMX8_sign := fun _ h => List.mem_cons_of_mem _ (List.mem_append_right _ h)
theorem gdwsMX8_sign : wsMX8_sign.all goodWord = true := gdC rfl (gdA (by decide +kernel : ([.fieldLink RX8 17 "OptimaWorks$Whole" "length" "I", .fieldLink RX8 13 "OptimaWorks$Whole" "below" "Z"] : List Cond).all goodWord = true) gdwsX80)
set_option maxHeartbeats 4000000 in
set_option maxRecDepth 100000 in
/-- the sign -/
theorem m_X8_sign (l : Launch) (dC : Nat → ClassId) (dI : Nat → Nat → Nat) (nW : Nat) (hw : Nat → Nat) (lw : Nat → Nat) (kw : ClassId) (wl : Nat → Int32) (wb : Nat → Int32) (wG : Nat → Nat → Int64) (tt : Nat) (b_wl : ∀ q : Nat, 0 ≤ (wl q).toInt ∧ (wl q).toInt ≤ 14) (b_wb : ∀ q : Nat, 0 ≤ (wb q).toInt ∧ (wb q).toInt ≤ 1) (htt : tt < nW) (sz : Nat) : Met l yX8_sign wsMX8_sign ({ frames := 0, cells := 0, slots := 0, locals := 0 }) (va_Pc [.ref (hw tt)] (fun U => U.heap.size = sz ∧ va_P (dC, dI) vwCl (WW nW hw lw kw wl wb wG) U.heap ∧ va_K (dC, dI) vwCl (tW kw) U ∧ va_D (fun _ => True) (WW nW hw lw kw wl wb wG))) (va_Qi (fun (r : Int32) (u : Unit) => ((-1) ≤ r.toInt ∧ r.toInt ≤ 1)) (fun (u : Unit) t => va_P (dC, dI) vwCl (WW nW hw lw kw wl wb wG) t.heap ∧ va_D (va_A (WW nW hw lw kw wl wb wG) sz) (WW nW hw lw kw wl wb wG)) (va_A (WW nW hw lw kw wl wb wG) sz)) 0 0 (va_A (WW nW hw lw kw wl wb wG) sz) := by
  refine Met.ofW (cc := cX8_sign) (maxL := 1) (ret := (some .int)) (by decide) rfl ?_
  intro p e s m args below meth c s₁ B hml hv
  obtain ⟨rfl, hsz, hP, hK, hD0⟩ := hv
  have hx := B.exec
  have hb := B.bytes
  have hr := B.returns
  have hts := atoms_spec (ws := wsMX8_sign) B.pre
  have hown : s.vm.findClass RX8 = some m.cls := findClass_of_methodNamed B.named
  have hlocks := B.notSynchronized
  subst hsz
  have hD := hD0.self (sz := s.heap.size)
  generalize hAe : va_A (WW nW hw lw kw wl wb wG) s.heap.size = A at hD ⊢
  have hA : ∀ q : Nat, s.heap.size ≤ q → A q := fun q h => by rw [← hAe]; exact Or.inr h
  have hS : va_S A s.heap s.heap [] := va_S.rf
  have hl := lv_entry ([.ref (hw tt)]) (n := 1) (Nat.le_of_ble_eq_true rfl)
  rw [lg_entry_eq]
  generalize (lg_sl ([.ref (hw tt)]) ++ List.replicate (1 - (lg_sl ([.ref (hw tt)])).length) Slot.unset).toArray = ls at hl ⊢
  have hl : lv_has ls 1 [(0, .ref (hw tt))] := hl
  refine lv_aload_n hx hb dX8_sign_0 rfl (lv_at hl 0 rfl) ?_
  refine va_get (D := (dC, dI)) (ci := 8) (v := .int (wl tt)) (C := RX8) (T := TX8) (N := 3) hx hb hts iwsMX8_sign_in8 hown hK hP (tt) (WW_o (by omega)) rfl 1 (by decide) (hts (.fieldLink RX8 17 "OptimaWorks$Whole" "length" "I") (by decide +kernel)) (fun _ h9 => h9) rfl dX8_sign_1 ?_
  have br1 := b_wl tt
  refine W.cut (pc := 23) (fun H locs ls stk => ∃ (k0_j2 : Int32), ((-1) ≤ k0_j2.toInt ∧ k0_j2.toInt ≤ 1) ∧  stk = [.int k0_j2] ∧ va_P (dC, dI) vwCl (WW nW hw lw kw wl wb wG) H ∧ va_D A (WW nW hw lw kw wl wb wG) ∧ va_S A s.heap H locs ∧ lv_has ls 1 [(0, .ref (hw tt))]) (fun join2 => ?_) ?_
  · refine lv_if_ne (tgt := 11) hx hb dX8_sign_4 (by decide) (fun c_4 => ?_) (fun c_4 => ?_)
    · have t_4 : (wl tt).toInt ≠ 0 := toI_ne c_4 rfl (by decide : (0 : Int32).toInt = 0)
      refine lv_aload_n hx hb dX8_sign_11 rfl (lv_at hl 0 rfl) ?_
      refine va_get (D := (dC, dI)) (ci := 8) (v := .int (wb tt)) (C := RX8) (T := TX8) (N := 3) hx hb hts iwsMX8_sign_in8 hown hK hP (tt) (WW_o (by omega)) rfl 2 (by decide) (hts (.fieldLink RX8 13 "OptimaWorks$Whole" "below" "Z") (by decide +kernel)) (fun _ h9 => h9) rfl dX8_sign_12 ?_
      have br12 := b_wb tt
      refine lv_if_eq (tgt := 22) hx hb dX8_sign_15 (by decide) (fun c_15 => ?_) (fun c_15 => ?_)
      · have t_15 : (wb tt).toInt = 0 := toI_eq c_15 rfl (by decide : (0 : Int32).toInt = 0)
        refine lv_iconst (v := 1) hx hb dX8_sign_22 (by decide) ?_
        have hl : lv_has _ _ ([(0, .ref (hw tt))]) := lv_sub hl [0] rfl
        exact join2 _ _ _ _ ⟨1, (show (-1) ≤ (1 : Int32).toInt ∧ (1 : Int32).toInt ≤ 1 from by decide), rfl, hP, hD, hS, hl⟩
      · have t_15 : ¬ (wb tt).toInt = 0 := toI_neq c_15 rfl (by decide : (0 : Int32).toInt = 0)
        refine lv_iconst (v := (-1)) hx hb dX8_sign_18 (by decide) ?_
        refine lv_goto (tgt := 23) hx hb dX8_sign_19 (by decide) ?_
        have hl : lv_has _ _ ([(0, .ref (hw tt))]) := lv_sub hl [0] rfl
        exact join2 _ _ _ _ ⟨(-1), (show (-1) ≤ ((-1) : Int32).toInt ∧ ((-1) : Int32).toInt ≤ 1 from by decide), rfl, hP, hD, hS, hl⟩
    · have t_4 : (wl tt).toInt = 0 := toI_nne c_4 rfl (by decide : (0 : Int32).toInt = 0)
      refine lv_iconst (v := 0) hx hb dX8_sign_7 (by decide) ?_
      refine lv_goto (tgt := 23) hx hb dX8_sign_8 (by decide) ?_
      have hl : lv_has _ _ ([(0, .ref (hw tt))]) := lv_sub hl [0] rfl
      exact join2 _ _ _ _ ⟨0, (show (-1) ≤ (0 : Int32).toInt ∧ (0 : Int32).toInt ≤ 1 from by decide), rfl, hP, hD, hS, hl⟩
  · rintro H locs ls stk ⟨k0_j2, b_k0_j2, rfl, hP, hD, hS, hl⟩
    refine W.widen (k := 0) (n := 0) (by decide +kernel) (by decide +kernel) ?_
    exact W.iret (v := k0_j2) hx hb hr (fun t9_ ht hW => ⟨⟨k0_j2, (), rfl, (b_k0_j2), by rw [ht]; exact hP, hD⟩, hS.F ht⟩) hS.2.2 dX8_sign_23
theorem dX8_isOne_0 : decode cX8_isOne 0 = .ok (.aload_n 0, 1) := dk_42 (by decide +kernel)
theorem dX8_isOne_1 : decode cX8_isOne 1 = .ok (.getfield 17, 3) := dk_180 (by decide +kernel)
theorem dX8_isOne_4 : decode cX8_isOne 4 = .ok (.iconst 1, 1) := dk_4 (by decide +kernel)
theorem dX8_isOne_5 : decode cX8_isOne 5 = .ok (.if_icmp .ne 25, 3) := dk_160 (by decide +kernel)
theorem dX8_isOne_8 : decode cX8_isOne 8 = .ok (.aload_n 0, 1) := dk_42 (by decide +kernel)
theorem dX8_isOne_9 : decode cX8_isOne 9 = .ok (.getfield 9, 3) := dk_180 (by decide +kernel)
theorem dX8_isOne_12 : decode cX8_isOne 12 = .ok (.iconst 0, 1) := dk_3 (by decide +kernel)
theorem dX8_isOne_13 : decode cX8_isOne 13 = .ok (.laload, 1) := dk_47 (by decide +kernel)
theorem dX8_isOne_14 : decode cX8_isOne 14 = .ok (.lconst 1, 1) := dk_10 (by decide +kernel)
theorem dX8_isOne_15 : decode cX8_isOne 15 = .ok (.lcmp, 1) := dk_148 (by decide +kernel)
theorem dX8_isOne_16 : decode cX8_isOne 16 = .ok (.ifCond .ne 14, 3) := dk_154 (by decide +kernel)
theorem dX8_isOne_19 : decode cX8_isOne 19 = .ok (.aload_n 0, 1) := dk_42 (by decide +kernel)
theorem dX8_isOne_20 : decode cX8_isOne 20 = .ok (.getfield 13, 3) := dk_180 (by decide +kernel)
theorem dX8_isOne_23 : decode cX8_isOne 23 = .ok (.ifCond .ne 7, 3) := dk_154 (by decide +kernel)
theorem dX8_isOne_26 : decode cX8_isOne 26 = .ok (.iconst 1, 1) := dk_4 (by decide +kernel)
theorem dX8_isOne_27 : decode cX8_isOne 27 = .ok (.goto 4, 3) := dk_167 (by decide +kernel)
theorem dX8_isOne_30 : decode cX8_isOne 30 = .ok (.iconst 0, 1) := dk_3 (by decide +kernel)
theorem dX8_isOne_31 : decode cX8_isOne 31 = .ok (.ireturn, 1) := dk_172 (by decide +kernel)
def wsMX8_isOne : List Cond := .code yX8_isOne cX8_isOne 1 (some .boolean) :: ([.fieldLink RX8 17 "OptimaWorks$Whole" "length" "I", .fieldLink RX8 9 "OptimaWorks$Whole" "limb" "[J", .fieldLink RX8 13 "OptimaWorks$Whole" "below" "Z"] ++ wsX80)
theorem iwsMX8_isOne_in8 : ∀ w ∈ wsX80, w ∈ wsMX8_isOne := fun _ h => List.mem_cons_of_mem _ (List.mem_append_right _ h)
theorem gdwsMX8_isOne : wsMX8_isOne.all goodWord = true := gdC rfl (gdA (by decide +kernel : ([.fieldLink RX8 17 "OptimaWorks$Whole" "length" "I", .fieldLink RX8 9 "OptimaWorks$Whole" "limb" "[J", .fieldLink RX8 13 "OptimaWorks$Whole" "below" "Z"] : List Cond).all goodWord = true) gdwsX80)
set_option maxHeartbeats 4000000 in
set_option maxRecDepth 100000 in
/-- is it one -/
theorem m_X8_isOne (l : Launch) (dC : Nat → ClassId) (dI : Nat → Nat → Nat) (nW : Nat) (hw : Nat → Nat) (lw : Nat → Nat) (kw : ClassId) (wl : Nat → Int32) (wb : Nat → Int32) (wG : Nat → Nat → Int64) (tt : Nat) (b_wl : ∀ q : Nat, 0 ≤ (wl q).toInt ∧ (wl q).toInt ≤ 14) (b_wb : ∀ q : Nat, 0 ≤ (wb q).toInt ∧ (wb q).toInt ≤ 1) (htt : tt < nW) (sz : Nat) : Met l yX8_isOne wsMX8_isOne ({ frames := 0, cells := 0, slots := 0, locals := 0 }) (va_Pc [.ref (hw tt)] (fun U => U.heap.size = sz ∧ va_P (dC, dI) vwCl (WW nW hw lw kw wl wb wG) U.heap ∧ va_K (dC, dI) vwCl (tW kw) U ∧ va_D (fun _ => True) (WW nW hw lw kw wl wb wG))) (va_Qi (fun (r : Int32) (u : Unit) => (0 ≤ r.toInt ∧ r.toInt ≤ 1)) (fun (u : Unit) t => va_P (dC, dI) vwCl (WW nW hw lw kw wl wb wG) t.heap ∧ va_D (va_A (WW nW hw lw kw wl wb wG) sz) (WW nW hw lw kw wl wb wG)) (va_A (WW nW hw lw kw wl wb wG) sz)) 0 0 (va_A (WW nW hw lw kw wl wb wG) sz) := by
  refine Met.ofW (cc := cX8_isOne) (maxL := 1) (ret := (some .boolean)) (by decide) rfl ?_
  intro p e s m args below meth c s₁ B hml hv
  obtain ⟨rfl, hsz, hP, hK, hD0⟩ := hv
  have hx := B.exec
  have hb := B.bytes
  have hr := B.returns
  have hts := atoms_spec (ws := wsMX8_isOne) B.pre
  have hown : s.vm.findClass RX8 = some m.cls := findClass_of_methodNamed B.named
  have hlocks := B.notSynchronized
  subst hsz
  have hD := hD0.self (sz := s.heap.size)
  generalize hAe : va_A (WW nW hw lw kw wl wb wG) s.heap.size = A at hD ⊢
  have hA : ∀ q : Nat, s.heap.size ≤ q → A q := fun q h => by rw [← hAe]; exact Or.inr h
  have hS : va_S A s.heap s.heap [] := va_S.rf
  have hl := lv_entry ([.ref (hw tt)]) (n := 1) (Nat.le_of_ble_eq_true rfl)
  rw [lg_entry_eq]
  generalize (lg_sl ([.ref (hw tt)]) ++ List.replicate (1 - (lg_sl ([.ref (hw tt)])).length) Slot.unset).toArray = ls at hl ⊢
  have hl : lv_has ls 1 [(0, .ref (hw tt))] := hl
  refine lv_aload_n hx hb dX8_isOne_0 rfl (lv_at hl 0 rfl) ?_
  refine va_get (D := (dC, dI)) (ci := 8) (v := .int (wl tt)) (C := RX8) (T := TX8) (N := 3) hx hb hts iwsMX8_isOne_in8 hown hK hP (tt) (WW_o (by omega)) rfl 1 (by decide) (hts (.fieldLink RX8 17 "OptimaWorks$Whole" "length" "I") (by decide +kernel)) (fun _ h9 => h9) rfl dX8_isOne_1 ?_
  have br1 := b_wl tt
  refine lv_iconst (v := 1) hx hb dX8_isOne_4 (by decide) ?_
  refine W.cut (pc := 31) (fun H locs ls stk => ∃ (k0_j2 : Int32), (0 ≤ k0_j2.toInt ∧ k0_j2.toInt ≤ 1) ∧  stk = [.int k0_j2] ∧ va_P (dC, dI) vwCl (WW nW hw lw kw wl wb wG) H ∧ va_D A (WW nW hw lw kw wl wb wG) ∧ va_S A s.heap H locs ∧ lv_has ls 1 [(0, .ref (hw tt))]) (fun join2 => ?_) ?_
  · refine lv_icmp_ne (tgt := 30) hx hb dX8_isOne_5 (by decide) (fun c_5 => ?_) (fun c_5 => ?_)
    · have t_5 : (wl tt).toInt ≠ 1 := toI_ne c_5 rfl (by decide : (1 : Int32).toInt = 1)
      refine lv_iconst (v := 0) hx hb dX8_isOne_30 (by decide) ?_
      have hl : lv_has _ _ ([(0, .ref (hw tt))]) := lv_sub hl [0] rfl
      exact join2 _ _ _ _ ⟨0, (show 0 ≤ (0 : Int32).toInt ∧ (0 : Int32).toInt ≤ 1 from by decide), rfl, hP, hD, hS, hl⟩
    · have t_5 : (wl tt).toInt = 1 := toI_nne c_5 rfl (by decide : (1 : Int32).toInt = 1)
      refine lv_aload_n hx hb dX8_isOne_8 rfl (lv_at hl 0 rfl) ?_
      refine va_get (D := (dC, dI)) (ci := 8) (v := .ref (lw tt)) (C := RX8) (T := TX8) (N := 3) hx hb hts iwsMX8_isOne_in8 hown hK hP (tt) (WW_o (by omega)) rfl 0 (by decide) (hts (.fieldLink RX8 9 "OptimaWorks$Whole" "limb" "[J") (by decide +kernel)) (fun _ h9 => h9) rfl dX8_isOne_9 ?_
      refine lv_iconst (v := 0) hx hb dX8_isOne_12 (by decide) ?_
      refine va_lald (cA := kw) (n := 14) (f := (wG tt)) hx hb hK hP (nW + tt) 0 (WW_a (by omega)) rfl (show ¬ ((0 : Int32) < 0 ∨ 14 ≤ (0 : Int32).toNatClampNeg) by decide) dX8_isOne_13 ?_
      refine lv_topl (fun v2 hv2 => ?_)
      clear hv2
      refine lv_lconst (v := 1) hx hb dX8_isOne_14 (by decide) ?_
      refine W.lcmp hx hb dX8_isOne_15 ?_
      refine lv_if_ne (tgt := 30) hx hb dX8_isOne_16 (by decide) (fun c_16 => ?_) (fun c_16 => ?_)
      · have t_16 : v2.toInt ≠ 1 := toL_ne c_16 rfl (by decide : (1 : Int64).toInt = 1)
        refine lv_iconst (v := 0) hx hb dX8_isOne_30 (by decide) ?_
        have hl : lv_has _ _ ([(0, .ref (hw tt))]) := lv_sub hl [0] rfl
        exact join2 _ _ _ _ ⟨0, (show 0 ≤ (0 : Int32).toInt ∧ (0 : Int32).toInt ≤ 1 from by decide), rfl, hP, hD, hS, hl⟩
      · have t_16 : v2.toInt = 1 := toL_nne c_16 rfl (by decide : (1 : Int64).toInt = 1)
        refine lv_aload_n hx hb dX8_isOne_19 rfl (lv_at hl 0 rfl) ?_
        refine va_get (D := (dC, dI)) (ci := 8) (v := .int (wb tt)) (C := RX8) (T := TX8) (N := 3) hx hb hts iwsMX8_isOne_in8 hown hK hP (tt) (WW_o (by omega)) rfl 2 (by decide) (hts (.fieldLink RX8 13 "OptimaWorks$Whole" "below" "Z") (by decide +kernel)) (fun _ h9 => h9) rfl dX8_isOne_20 ?_
        have br20 := b_wb tt
        refine lv_if_ne (tgt := 30) hx hb dX8_isOne_23 (by decide) (fun c_23 => ?_) (fun c_23 => ?_)
        · have t_23 : (wb tt).toInt ≠ 0 := toI_ne c_23 rfl (by decide : (0 : Int32).toInt = 0)
          refine lv_iconst (v := 0) hx hb dX8_isOne_30 (by decide) ?_
          have hl : lv_has _ _ ([(0, .ref (hw tt))]) := lv_sub hl [0] rfl
          exact join2 _ _ _ _ ⟨0, (show 0 ≤ (0 : Int32).toInt ∧ (0 : Int32).toInt ≤ 1 from by decide), rfl, hP, hD, hS, hl⟩
        · have t_23 : (wb tt).toInt = 0 := toI_nne c_23 rfl (by decide : (0 : Int32).toInt = 0)
          refine lv_iconst (v := 1) hx hb dX8_isOne_26 (by decide) ?_
          refine lv_goto (tgt := 31) hx hb dX8_isOne_27 (by decide) ?_
          have hl : lv_has _ _ ([(0, .ref (hw tt))]) := lv_sub hl [0] rfl
          exact join2 _ _ _ _ ⟨1, (show 0 ≤ (1 : Int32).toInt ∧ (1 : Int32).toInt ≤ 1 from by decide), rfl, hP, hD, hS, hl⟩
  · rintro H locs ls stk ⟨k0_j2, b_k0_j2, rfl, hP, hD, hS, hl⟩
    refine W.widen (k := 0) (n := 0) (by decide +kernel) (by decide +kernel) ?_
    exact W.zret (v := k0_j2) hx hb hr (by rcases z01 (x := k0_j2) (b_k0_j2) with h9 | h9 <;> rw [h9] <;> rfl) (fun t9_ ht hW => ⟨⟨k0_j2, (), rfl, (b_k0_j2), by rw [ht]; exact hP, hD⟩, hS.F ht⟩) hS.2.2 dX8_isOne_31
theorem dX8_isSmall_0 : decode cX8_isSmall 0 = .ok (.aload_n 0, 1) := dk_42 (by decide +kernel)
theorem dX8_isSmall_1 : decode cX8_isSmall 1 = .ok (.getfield 17, 3) := dk_180 (by decide +kernel)
theorem dX8_isSmall_4 : decode cX8_isSmall 4 = .ok (.iconst 1, 1) := dk_4 (by decide +kernel)
theorem dX8_isSmall_5 : decode cX8_isSmall 5 = .ok (.if_icmp .gt 7, 3) := dk_163 (by decide +kernel)
theorem dX8_isSmall_8 : decode cX8_isSmall 8 = .ok (.iconst 1, 1) := dk_4 (by decide +kernel)
theorem dX8_isSmall_9 : decode cX8_isSmall 9 = .ok (.goto 4, 3) := dk_167 (by decide +kernel)
theorem dX8_isSmall_12 : decode cX8_isSmall 12 = .ok (.iconst 0, 1) := dk_3 (by decide +kernel)
theorem dX8_isSmall_13 : decode cX8_isSmall 13 = .ok (.ireturn, 1) := dk_172 (by decide +kernel)
def wsMX8_isSmall : List Cond := .code yX8_isSmall cX8_isSmall 1 (some .boolean) :: ([.fieldLink RX8 17 "OptimaWorks$Whole" "length" "I"] ++ wsX80)
theorem iwsMX8_isSmall_in8 : ∀ w ∈ wsX80, w ∈ wsMX8_isSmall := fun _ h => List.mem_cons_of_mem _ (List.mem_append_right _ h)
theorem gdwsMX8_isSmall : wsMX8_isSmall.all goodWord = true := gdC rfl (gdA (by decide +kernel : ([.fieldLink RX8 17 "OptimaWorks$Whole" "length" "I"] : List Cond).all goodWord = true) gdwsX80)
set_option maxHeartbeats 4000000 in
set_option maxRecDepth 100000 in
/-- is it small -/
theorem m_X8_isSmall (l : Launch) (dC : Nat → ClassId) (dI : Nat → Nat → Nat) (nW : Nat) (hw : Nat → Nat) (lw : Nat → Nat) (kw : ClassId) (wl : Nat → Int32) (wb : Nat → Int32) (wG : Nat → Nat → Int64) (tt : Nat) (b_wl : ∀ q : Nat, 0 ≤ (wl q).toInt ∧ (wl q).toInt ≤ 14) (b_wb : ∀ q : Nat, 0 ≤ (wb q).toInt ∧ (wb q).toInt ≤ 1) (htt : tt < nW) (sz : Nat) : Met l yX8_isSmall wsMX8_isSmall ({ frames := 0, cells := 0, slots := 0, locals := 0 }) (va_Pc [.ref (hw tt)] (fun U => U.heap.size = sz ∧ va_P (dC, dI) vwCl (WW nW hw lw kw wl wb wG) U.heap ∧ va_K (dC, dI) vwCl (tW kw) U ∧ va_D (fun _ => True) (WW nW hw lw kw wl wb wG))) (va_Qi (fun (r : Int32) (u : Unit) => (0 ≤ r.toInt ∧ r.toInt ≤ 1)) (fun (u : Unit) t => va_P (dC, dI) vwCl (WW nW hw lw kw wl wb wG) t.heap ∧ va_D (va_A (WW nW hw lw kw wl wb wG) sz) (WW nW hw lw kw wl wb wG)) (va_A (WW nW hw lw kw wl wb wG) sz)) 0 0 (va_A (WW nW hw lw kw wl wb wG) sz) := by
  refine Met.ofW (cc := cX8_isSmall) (maxL := 1) (ret := (some .boolean)) (by decide) rfl ?_
  intro p e s m args below meth c s₁ B hml hv
  obtain ⟨rfl, hsz, hP, hK, hD0⟩ := hv
  have hx := B.exec
  have hb := B.bytes
  have hr := B.returns
  have hts := atoms_spec (ws := wsMX8_isSmall) B.pre
  have hown : s.vm.findClass RX8 = some m.cls := findClass_of_methodNamed B.named
  have hlocks := B.notSynchronized
  subst hsz
  have hD := hD0.self (sz := s.heap.size)
  generalize hAe : va_A (WW nW hw lw kw wl wb wG) s.heap.size = A at hD ⊢
  have hA : ∀ q : Nat, s.heap.size ≤ q → A q := fun q h => by rw [← hAe]; exact Or.inr h
  have hS : va_S A s.heap s.heap [] := va_S.rf
  have hl := lv_entry ([.ref (hw tt)]) (n := 1) (Nat.le_of_ble_eq_true rfl)
  rw [lg_entry_eq]
  generalize (lg_sl ([.ref (hw tt)]) ++ List.replicate (1 - (lg_sl ([.ref (hw tt)])).length) Slot.unset).toArray = ls at hl ⊢
  have hl : lv_has ls 1 [(0, .ref (hw tt))] := hl
  refine lv_aload_n hx hb dX8_isSmall_0 rfl (lv_at hl 0 rfl) ?_
  refine va_get (D := (dC, dI)) (ci := 8) (v := .int (wl tt)) (C := RX8) (T := TX8) (N := 3) hx hb hts iwsMX8_isSmall_in8 hown hK hP (tt) (WW_o (by omega)) rfl 1 (by decide) (hts (.fieldLink RX8 17 "OptimaWorks$Whole" "length" "I") (by decide +kernel)) (fun _ h9 => h9) rfl dX8_isSmall_1 ?_
  have br1 := b_wl tt
  refine lv_iconst (v := 1) hx hb dX8_isSmall_4 (by decide) ?_
  refine W.cut (pc := 13) (fun H locs ls stk => ∃ (k0_j2 : Int32), (0 ≤ k0_j2.toInt ∧ k0_j2.toInt ≤ 1) ∧  stk = [.int k0_j2] ∧ va_P (dC, dI) vwCl (WW nW hw lw kw wl wb wG) H ∧ va_D A (WW nW hw lw kw wl wb wG) ∧ va_S A s.heap H locs ∧ lv_has ls 1 [(0, .ref (hw tt))]) (fun join2 => ?_) ?_
  · refine lv_icmp_gt (tgt := 12) hx hb dX8_isSmall_5 (by decide) (fun c_5 => ?_) (fun c_5 => ?_)
    · have t_5 : (wl tt).toInt > 1 := toI_gt c_5 rfl (by decide : (1 : Int32).toInt = 1)
      refine lv_iconst (v := 0) hx hb dX8_isSmall_12 (by decide) ?_
      have hl : lv_has _ _ ([(0, .ref (hw tt))]) := lv_sub hl [0] rfl
      exact join2 _ _ _ _ ⟨0, (show 0 ≤ (0 : Int32).toInt ∧ (0 : Int32).toInt ≤ 1 from by decide), rfl, hP, hD, hS, hl⟩
    · have t_5 : ¬ (wl tt).toInt > 1 := toI_ngt c_5 rfl (by decide : (1 : Int32).toInt = 1)
      refine lv_iconst (v := 1) hx hb dX8_isSmall_8 (by decide) ?_
      refine lv_goto (tgt := 13) hx hb dX8_isSmall_9 (by decide) ?_
      have hl : lv_has _ _ ([(0, .ref (hw tt))]) := lv_sub hl [0] rfl
      exact join2 _ _ _ _ ⟨1, (show 0 ≤ (1 : Int32).toInt ∧ (1 : Int32).toInt ≤ 1 from by decide), rfl, hP, hD, hS, hl⟩
  · rintro H locs ls stk ⟨k0_j2, b_k0_j2, rfl, hP, hD, hS, hl⟩
    refine W.widen (k := 0) (n := 0) (by decide +kernel) (by decide +kernel) ?_
    exact W.zret (v := k0_j2) hx hb hr (by rcases z01 (x := k0_j2) (b_k0_j2) with h9 | h9 <;> rw [h9] <;> rfl) (fun t9_ ht hW => ⟨⟨k0_j2, (), rfl, (b_k0_j2), by rw [ht]; exact hP, hD⟩, hS.F ht⟩) hS.2.2 dX8_isSmall_13
theorem dX8_small_0 : decode cX8_small 0 = .ok (.aload_n 0, 1) := dk_42 (by decide +kernel)
theorem dX8_small_1 : decode cX8_small 1 = .ok (.getfield 17, 3) := dk_180 (by decide +kernel)
theorem dX8_small_4 : decode cX8_small 4 = .ok (.ifCond .ne 7, 3) := dk_154 (by decide +kernel)
theorem dX8_small_7 : decode cX8_small 7 = .ok (.lconst 0, 1) := dk_9 (by decide +kernel)
theorem dX8_small_8 : decode cX8_small 8 = .ok (.goto 26, 3) := dk_167 (by decide +kernel)
theorem dX8_small_11 : decode cX8_small 11 = .ok (.aload_n 0, 1) := dk_42 (by decide +kernel)
theorem dX8_small_12 : decode cX8_small 12 = .ok (.getfield 13, 3) := dk_180 (by decide +kernel)
theorem dX8_small_15 : decode cX8_small 15 = .ok (.ifCond .eq 13, 3) := dk_153 (by decide +kernel)
theorem dX8_small_18 : decode cX8_small 18 = .ok (.aload_n 0, 1) := dk_42 (by decide +kernel)
theorem dX8_small_19 : decode cX8_small 19 = .ok (.getfield 9, 3) := dk_180 (by decide +kernel)
theorem dX8_small_22 : decode cX8_small 22 = .ok (.iconst 0, 1) := dk_3 (by decide +kernel)
theorem dX8_small_23 : decode cX8_small 23 = .ok (.laload, 1) := dk_47 (by decide +kernel)
theorem dX8_small_24 : decode cX8_small 24 = .ok (.lneg, 1) := dk_117 (by decide +kernel)
theorem dX8_small_25 : decode cX8_small 25 = .ok (.goto 9, 3) := dk_167 (by decide +kernel)
theorem dX8_small_28 : decode cX8_small 28 = .ok (.aload_n 0, 1) := dk_42 (by decide +kernel)
theorem dX8_small_29 : decode cX8_small 29 = .ok (.getfield 9, 3) := dk_180 (by decide +kernel)
theorem dX8_small_32 : decode cX8_small 32 = .ok (.iconst 0, 1) := dk_3 (by decide +kernel)
theorem dX8_small_33 : decode cX8_small 33 = .ok (.laload, 1) := dk_47 (by decide +kernel)
theorem dX8_small_34 : decode cX8_small 34 = .ok (.lreturn, 1) := dk_173 (by decide +kernel)
def wsMX8_small : List Cond := .code yX8_small cX8_small 1 (some .long) :: ([.fieldLink RX8 17 "OptimaWorks$Whole" "length" "I", .fieldLink RX8 13 "OptimaWorks$Whole" "below" "Z", .fieldLink RX8 9 "OptimaWorks$Whole" "limb" "[J"] ++ wsX80)
theorem iwsMX8_small_in8 : ∀ w ∈ wsX80, w ∈ wsMX8_small := fun _ h => List.mem_cons_of_mem _ (List.mem_append_right _ h)
theorem gdwsMX8_small : wsMX8_small.all goodWord = true := gdC rfl (gdA (by decide +kernel : ([.fieldLink RX8 17 "OptimaWorks$Whole" "length" "I", .fieldLink RX8 13 "OptimaWorks$Whole" "below" "Z", .fieldLink RX8 9 "OptimaWorks$Whole" "limb" "[J"] : List Cond).all goodWord = true) gdwsX80)
theorem hm_m_X8_small_0 : (.fieldLink RX8 9 "OptimaWorks$Whole" "limb" "[J" : Cond) ∈ wsMX8_small := by decide +kernel
set_option maxHeartbeats 4000000 in
set_option maxRecDepth 100000 in
/-- as a long -/
theorem m_X8_small (l : Launch) (dC : Nat → ClassId) (dI : Nat → Nat → Nat) (nW : Nat) (hw : Nat → Nat) (lw : Nat → Nat) (kw : ClassId) (wl : Nat → Int32) (wb : Nat → Int32) (wG : Nat → Nat → Int64) (tt : Nat) (b_wl : ∀ q : Nat, 0 ≤ (wl q).toInt ∧ (wl q).toInt ≤ 14) (b_wb : ∀ q : Nat, 0 ≤ (wb q).toInt ∧ (wb q).toInt ≤ 1) (htt : tt < nW) (sz : Nat) : Met l yX8_small wsMX8_small ({ frames := 0, cells := 0, slots := 0, locals := 0 }) (va_Pc [.ref (hw tt)] (fun U => U.heap.size = sz ∧ va_P (dC, dI) vwCl (WW nW hw lw kw wl wb wG) U.heap ∧ va_K (dC, dI) vwCl (tW kw) U ∧ va_D (fun _ => True) (WW nW hw lw kw wl wb wG))) (va_Ql (fun (r : Int64) (u : Unit) => True) (fun (u : Unit) t => va_P (dC, dI) vwCl (WW nW hw lw kw wl wb wG) t.heap ∧ va_D (va_A (WW nW hw lw kw wl wb wG) sz) (WW nW hw lw kw wl wb wG)) (va_A (WW nW hw lw kw wl wb wG) sz)) 0 0 (va_A (WW nW hw lw kw wl wb wG) sz) := by
  refine Met.ofW (cc := cX8_small) (maxL := 1) (ret := (some .long)) (by decide) rfl ?_
  intro p e s m args below meth c s₁ B hml hv
  obtain ⟨rfl, hsz, hP, hK, hD0⟩ := hv
  have hx := B.exec
  have hb := B.bytes
  have hr := B.returns
  have hts := atoms_spec (ws := wsMX8_small) B.pre
  have hown : s.vm.findClass RX8 = some m.cls := findClass_of_methodNamed B.named
  have hlocks := B.notSynchronized
  subst hsz
  have hD := hD0.self (sz := s.heap.size)
  generalize hAe : va_A (WW nW hw lw kw wl wb wG) s.heap.size = A at hD ⊢
  have hA : ∀ q : Nat, s.heap.size ≤ q → A q := fun q h => by rw [← hAe]; exact Or.inr h
  have hS : va_S A s.heap s.heap [] := va_S.rf
  have hl := lv_entry ([.ref (hw tt)]) (n := 1) (Nat.le_of_ble_eq_true rfl)
  rw [lg_entry_eq]
  generalize (lg_sl ([.ref (hw tt)]) ++ List.replicate (1 - (lg_sl ([.ref (hw tt)])).length) Slot.unset).toArray = ls at hl ⊢
  have hl : lv_has ls 1 [(0, .ref (hw tt))] := hl
  refine lv_aload_n hx hb dX8_small_0 rfl (lv_at hl 0 rfl) ?_
  refine va_get (D := (dC, dI)) (ci := 8) (v := .int (wl tt)) (C := RX8) (T := TX8) (N := 3) hx hb hts iwsMX8_small_in8 hown hK hP (tt) (WW_o (by omega)) rfl 1 (by decide) (hts (.fieldLink RX8 17 "OptimaWorks$Whole" "length" "I") (by decide +kernel)) (fun _ h9 => h9) rfl dX8_small_1 ?_
  have br1 := b_wl tt
  refine W.cut (pc := 34) (fun H locs ls stk => ∃ (k0_j2 : Int64),  stk = [.long k0_j2] ∧ va_P (dC, dI) vwCl (WW nW hw lw kw wl wb wG) H ∧ va_D A (WW nW hw lw kw wl wb wG) ∧ va_S A s.heap H locs ∧ lv_has ls 1 [(0, .ref (hw tt))]) (fun join2 => ?_) ?_
  · refine lv_if_ne (tgt := 11) hx hb dX8_small_4 (by decide) (fun c_4 => ?_) (fun c_4 => ?_)
    · have t_4 : (wl tt).toInt ≠ 0 := toI_ne c_4 rfl (by decide : (0 : Int32).toInt = 0)
      refine lv_aload_n hx hb dX8_small_11 rfl (lv_at hl 0 rfl) ?_
      refine va_get (D := (dC, dI)) (ci := 8) (v := .int (wb tt)) (C := RX8) (T := TX8) (N := 3) hx hb hts iwsMX8_small_in8 hown hK hP (tt) (WW_o (by omega)) rfl 2 (by decide) (hts (.fieldLink RX8 13 "OptimaWorks$Whole" "below" "Z") (by decide +kernel)) (fun _ h9 => h9) rfl dX8_small_12 ?_
      have br12 := b_wb tt
      refine lv_if_eq (tgt := 28) hx hb dX8_small_15 (by decide) (fun c_15 => ?_) (fun c_15 => ?_)
      · have t_15 : (wb tt).toInt = 0 := toI_eq c_15 rfl (by decide : (0 : Int32).toInt = 0)
        refine lv_aload_n hx hb dX8_small_28 rfl (lv_at hl 0 rfl) ?_
        refine va_get (D := (dC, dI)) (ci := 8) (v := .ref (lw tt)) (C := RX8) (T := TX8) (N := 3) hx hb hts iwsMX8_small_in8 hown hK hP (tt) (WW_o (by omega)) rfl 0 (by decide) (hts _ hm_m_X8_small_0) (fun _ h9 => h9) rfl dX8_small_29 ?_
        refine lv_iconst (v := 0) hx hb dX8_small_32 (by decide) ?_
        refine va_lald (cA := kw) (n := 14) (f := (wG tt)) hx hb hK hP (nW + tt) 0 (WW_a (by omega)) rfl (show ¬ ((0 : Int32) < 0 ∨ 14 ≤ (0 : Int32).toNatClampNeg) by decide) dX8_small_33 ?_
        refine lv_topl (fun v4 hv4 => ?_)
        clear hv4
        have hl : lv_has _ _ ([(0, .ref (hw tt))]) := lv_sub hl [0] rfl
        exact join2 _ _ _ _ ⟨v4, rfl, hP, hD, hS, hl⟩
      · have t_15 : ¬ (wb tt).toInt = 0 := toI_neq c_15 rfl (by decide : (0 : Int32).toInt = 0)
        refine lv_aload_n hx hb dX8_small_18 rfl (lv_at hl 0 rfl) ?_
        refine va_get (D := (dC, dI)) (ci := 8) (v := .ref (lw tt)) (C := RX8) (T := TX8) (N := 3) hx hb hts iwsMX8_small_in8 hown hK hP (tt) (WW_o (by omega)) rfl 0 (by decide) (hts _ hm_m_X8_small_0) (fun _ h9 => h9) rfl dX8_small_19 ?_
        refine lv_iconst (v := 0) hx hb dX8_small_22 (by decide) ?_
        refine va_lald (cA := kw) (n := 14) (f := (wG tt)) hx hb hK hP (nW + tt) 0 (WW_a (by omega)) rfl (show ¬ ((0 : Int32) < 0 ∨ 14 ≤ (0 : Int32).toNatClampNeg) by decide) dX8_small_23 ?_
        refine lv_topl (fun v5 hv5 => ?_)
        clear hv5
        refine lv_lneg hx hb dX8_small_24 ?_
        refine lv_topl (fun v6 hv6 => ?_)
        clear hv6
        refine lv_goto (tgt := 34) hx hb dX8_small_25 (by decide) ?_
        have hl : lv_has _ _ ([(0, .ref (hw tt))]) := lv_sub hl [0] rfl
        exact join2 _ _ _ _ ⟨v6, rfl, hP, hD, hS, hl⟩
    · have t_4 : (wl tt).toInt = 0 := toI_nne c_4 rfl (by decide : (0 : Int32).toInt = 0)
      refine lv_lconst (v := 0) hx hb dX8_small_7 (by decide) ?_
      refine lv_goto (tgt := 34) hx hb dX8_small_8 (by decide) ?_
      have hl : lv_has _ _ ([(0, .ref (hw tt))]) := lv_sub hl [0] rfl
      exact join2 _ _ _ _ ⟨0, rfl, hP, hD, hS, hl⟩
  · rintro H locs ls stk ⟨k0_j2, rfl, hP, hD, hS, hl⟩
    refine W.widen (k := 0) (n := 0) (by decide +kernel) (by decide +kernel) ?_
    exact W.lret (v := k0_j2) hx hb hr (fun t9_ ht hW => ⟨⟨k0_j2, (), rfl, trivial, by rw [ht]; exact hP, hD⟩, hS.F ht⟩) hS.2.2 dX8_small_34
theorem dX8_negate_0 : decode cX8_negate 0 = .ok (.aload_n 0, 1) := dk_42 (by decide +kernel)
theorem dX8_negate_1 : decode cX8_negate 1 = .ok (.aload_n 0, 1) := dk_42 (by decide +kernel)
theorem dX8_negate_2 : decode cX8_negate 2 = .ok (.getfield 17, 3) := dk_180 (by decide +kernel)
theorem dX8_negate_5 : decode cX8_negate 5 = .ok (.ifCond .eq 14, 3) := dk_153 (by decide +kernel)
theorem dX8_negate_8 : decode cX8_negate 8 = .ok (.aload_n 0, 1) := dk_42 (by decide +kernel)
theorem dX8_negate_9 : decode cX8_negate 9 = .ok (.getfield 13, 3) := dk_180 (by decide +kernel)
theorem dX8_negate_12 : decode cX8_negate 12 = .ok (.ifCond .ne 7, 3) := dk_154 (by decide +kernel)
theorem dX8_negate_15 : decode cX8_negate 15 = .ok (.iconst 1, 1) := dk_4 (by decide +kernel)
theorem dX8_negate_16 : decode cX8_negate 16 = .ok (.goto 4, 3) := dk_167 (by decide +kernel)
theorem dX8_negate_19 : decode cX8_negate 19 = .ok (.iconst 0, 1) := dk_3 (by decide +kernel)
theorem dX8_negate_20 : decode cX8_negate 20 = .ok (.putfield 13, 3) := dk_181 (by decide +kernel)
theorem dX8_negate_23 : decode cX8_negate 23 = .ok (.return_, 1) := dk_177 (by decide +kernel)
def wsMX8_negate : List Cond := .code yX8_negate cX8_negate 1 none :: ([.fieldLink RX8 17 "OptimaWorks$Whole" "length" "I", .fieldLink RX8 13 "OptimaWorks$Whole" "below" "Z"] ++ wsX80)
theorem iwsMX8_negate_in8 : ∀ w ∈ wsX80, w ∈ wsMX8_negate := fun _ h => List.mem_cons_of_mem _ (List.mem_append_right _ h)
theorem gdwsMX8_negate : wsMX8_negate.all goodWord = true := gdC rfl (gdA (by decide +kernel : ([.fieldLink RX8 17 "OptimaWorks$Whole" "length" "I", .fieldLink RX8 13 "OptimaWorks$Whole" "below" "Z"] : List Cond).all goodWord = true) gdwsX80)
theorem hm_m_X8_negate_0 : (.fieldLink RX8 13 "OptimaWorks$Whole" "below" "Z" : Cond) ∈ wsMX8_negate := by decide +kernel
set_option maxHeartbeats 4000000 in
set_option maxRecDepth 100000 in
/-- turned -/
theorem m_X8_negate (l : Launch) (dC : Nat → ClassId) (dI : Nat → Nat → Nat) (nW : Nat) (hw : Nat → Nat) (lw : Nat → Nat) (kw : ClassId) (wl : Nat → Int32) (wb : Nat → Int32) (wG : Nat → Nat → Int64) (tt : Nat) (b_wl : ∀ q : Nat, 0 ≤ (wl q).toInt ∧ (wl q).toInt ≤ 14) (b_wb : ∀ q : Nat, 0 ≤ (wb q).toInt ∧ (wb q).toInt ≤ 1) (htt : tt < nW) (sz : Nat) : Met l yX8_negate wsMX8_negate ({ frames := 0, cells := 0, slots := 0, locals := 0 }) (va_Pc [.ref (hw tt)] (fun U => U.heap.size = sz ∧ va_P (dC, dI) vwCl (WW nW hw lw kw wl wb wG) U.heap ∧ va_K (dC, dI) vwCl (tW kw) U ∧ va_D (fun _ => True) (WW nW hw lw kw wl wb wG))) (va_Qv (fun (u : Nat → Int32) => (∀ q : Nat, 0 ≤ (u q).toInt ∧ (u q).toInt ≤ 1)) (fun (u : Nat → Int32) t => va_P (dC, dI) vwCl (WW nW hw lw kw wl u wG) t.heap ∧ va_D (va_A (WW nW hw lw kw wl wb wG) sz) (WW nW hw lw kw wl u wG)) (va_A (WW nW hw lw kw wl wb wG) sz)) 0 0 (va_A (WW nW hw lw kw wl wb wG) sz) := by
  refine Met.ofW (cc := cX8_negate) (maxL := 1) (ret := none) (by decide) rfl ?_
  intro p e s m args below meth c s₁ B hml hv
  obtain ⟨rfl, hsz, hP, hK, hD0⟩ := hv
  have hx := B.exec
  have hb := B.bytes
  have hr := B.returns
  have hts := atoms_spec (ws := wsMX8_negate) B.pre
  have hown : s.vm.findClass RX8 = some m.cls := findClass_of_methodNamed B.named
  have hlocks := B.notSynchronized
  subst hsz
  have hD := hD0.self (sz := s.heap.size)
  generalize hAe : va_A (WW nW hw lw kw wl wb wG) s.heap.size = A at hD ⊢
  have hA : ∀ q : Nat, s.heap.size ≤ q → A q := fun q h => by rw [← hAe]; exact Or.inr h
  have hS : va_S A s.heap s.heap [] := va_S.rf
  have hl := lv_entry ([.ref (hw tt)]) (n := 1) (Nat.le_of_ble_eq_true rfl)
  rw [lg_entry_eq]
  generalize (lg_sl ([.ref (hw tt)]) ++ List.replicate (1 - (lg_sl ([.ref (hw tt)])).length) Slot.unset).toArray = ls at hl ⊢
  have hl : lv_has ls 1 [(0, .ref (hw tt))] := hl
  refine lv_aload_n hx hb dX8_negate_0 rfl (lv_at hl 0 rfl) ?_
  refine lv_aload_n hx hb dX8_negate_1 rfl (lv_at hl 0 rfl) ?_
  refine va_get (D := (dC, dI)) (ci := 8) (v := .int (wl tt)) (C := RX8) (T := TX8) (N := 3) hx hb hts iwsMX8_negate_in8 hown hK hP (tt) (WW_o (by omega)) rfl 1 (by decide) (hts (.fieldLink RX8 17 "OptimaWorks$Whole" "length" "I") (by decide +kernel)) (fun _ h9 => h9) rfl dX8_negate_2 ?_
  have br2 := b_wl tt
  refine W.cut (pc := 20) (fun H locs ls stk => ∃ (k0_j2 : Int32), (0 ≤ k0_j2.toInt ∧ k0_j2.toInt ≤ 1) ∧  stk = [.int k0_j2, .ref (hw tt)] ∧ va_P (dC, dI) vwCl (WW nW hw lw kw wl wb wG) H ∧ va_D A (WW nW hw lw kw wl wb wG) ∧ va_S A s.heap H locs ∧ lv_has ls 1 [(0, .ref (hw tt))]) (fun join2 => ?_) ?_
  · refine lv_if_eq (tgt := 19) hx hb dX8_negate_5 (by decide) (fun c_5 => ?_) (fun c_5 => ?_)
    · have t_5 : (wl tt).toInt = 0 := toI_eq c_5 rfl (by decide : (0 : Int32).toInt = 0)
      refine lv_iconst (v := 0) hx hb dX8_negate_19 (by decide) ?_
      have hl : lv_has _ _ ([(0, .ref (hw tt))]) := lv_sub hl [0] rfl
      exact join2 _ _ _ _ ⟨0, (show 0 ≤ (0 : Int32).toInt ∧ (0 : Int32).toInt ≤ 1 from by decide), rfl, hP, hD, hS, hl⟩
    · have t_5 : ¬ (wl tt).toInt = 0 := toI_neq c_5 rfl (by decide : (0 : Int32).toInt = 0)
      refine lv_aload_n hx hb dX8_negate_8 rfl (lv_at hl 0 rfl) ?_
      refine va_get (D := (dC, dI)) (ci := 8) (v := .int (wb tt)) (C := RX8) (T := TX8) (N := 3) hx hb hts iwsMX8_negate_in8 hown hK hP (tt) (WW_o (by omega)) rfl 2 (by decide) (hts _ hm_m_X8_negate_0) (fun _ h9 => h9) rfl dX8_negate_9 ?_
      have br9 := b_wb tt
      refine lv_if_ne (tgt := 19) hx hb dX8_negate_12 (by decide) (fun c_12 => ?_) (fun c_12 => ?_)
      · have t_12 : (wb tt).toInt ≠ 0 := toI_ne c_12 rfl (by decide : (0 : Int32).toInt = 0)
        refine lv_iconst (v := 0) hx hb dX8_negate_19 (by decide) ?_
        have hl : lv_has _ _ ([(0, .ref (hw tt))]) := lv_sub hl [0] rfl
        exact join2 _ _ _ _ ⟨0, (show 0 ≤ (0 : Int32).toInt ∧ (0 : Int32).toInt ≤ 1 from by decide), rfl, hP, hD, hS, hl⟩
      · have t_12 : (wb tt).toInt = 0 := toI_nne c_12 rfl (by decide : (0 : Int32).toInt = 0)
        refine lv_iconst (v := 1) hx hb dX8_negate_15 (by decide) ?_
        refine lv_goto (tgt := 20) hx hb dX8_negate_16 (by decide) ?_
        have hl : lv_has _ _ ([(0, .ref (hw tt))]) := lv_sub hl [0] rfl
        exact join2 _ _ _ _ ⟨1, (show 0 ≤ (1 : Int32).toInt ∧ (1 : Int32).toInt ≤ 1 from by decide), rfl, hP, hD, hS, hl⟩
  · rintro H locs ls stk ⟨k0_j2, b_k0_j2, rfl, hP, hD, hS, hl⟩
    refine va_put (D := (dC, dI)) (ci := 8) (v := .int k0_j2) (ty := .boolean) (C := RX8) (T := TX8) (N := 3) hx hb hts iwsMX8_negate_in8 tyX8 tyX8_ok nmX8 hown hK hP hD hS (tt) (WW_o (by omega)) rfl 2 (by decide) (hts _ hm_m_X8_negate_0) (fun _ h9 => h9) rfl (by decide +kernel) (by rcases z01 (x := k0_j2) (b_k0_j2) with h9 | h9 <;> rw [h9] <;> rfl) (by rcases z01 (x := k0_j2) (b_k0_j2) with h9 | h9 <;> rw [h9] <;> rfl) (Nat.le_of_ble_eq_true rfl) dX8_negate_20 (fun H locs hP hD hS => ?_)
    obtain ⟨u1, hu1⟩ : ∃ f9, f9 = fT wb tt k0_j2 := ⟨_, rfl⟩
    have hP : va_P (dC, dI) vwCl (WW nW hw lw kw wl u1 wG) H := by rw [hu1]; exact Eq.mp (congrArg (fun z9 => va_P (dC, dI) vwCl z9 H) (WW_sb (by omega) k0_j2)) hP
    have hD : va_D A (WW nW hw lw kw wl u1 wG) := by rw [hu1]; exact Eq.mp (congrArg (fun z9 => va_D A z9) (WW_sb (by omega) k0_j2)) hD
    have b_u1 : ∀ q : Nat, 0 ≤ (u1 q).toInt ∧ (u1 q).toInt ≤ 1 := by rw [hu1]; exact fT_r b_wb (b_k0_j2)
    have q_u1 : (u1 tt).toInt = k0_j2.toInt := by rw [hu1, fT_eq]
    clear hu1
    refine W.widen (k := 0) (n := 0) (by decide +kernel) (by decide +kernel) ?_
    exact W.vret hx hb hr (fun t9_ ht hW => ⟨⟨u1, rfl, b_u1, by rw [ht]; exact hP, hD⟩, hS.F ht⟩) hS.2.2 dX8_negate_23
end
section
theorem hd_yX8_addSize_RX8 : yX8_addSize.cls = RX8 ∧ yX8_addSize.cls ≠ "java/lang/invoke/MethodHandle" ∧ yX8_addSize.cls ≠ "java/lang/invoke/VarHandle" ∧ (parseMethodDescriptor yX8_addSize.desc).map (fun d => d.parameters.length) = some 1 := by decide +kernel
theorem hd_yX8_compareSize_RX8 : yX8_compareSize.cls = RX8 ∧ yX8_compareSize.cls ≠ "java/lang/invoke/MethodHandle" ∧ yX8_compareSize.cls ≠ "java/lang/invoke/VarHandle" ∧ (parseMethodDescriptor yX8_compareSize.desc).map (fun d => d.parameters.length) = some 1 := by decide +kernel
theorem hd_yX8_takeSize_RX8 : yX8_takeSize.cls = RX8 ∧ yX8_takeSize.cls ≠ "java/lang/invoke/MethodHandle" ∧ yX8_takeSize.cls ≠ "java/lang/invoke/VarHandle" ∧ (parseMethodDescriptor yX8_takeSize.desc).map (fun d => d.parameters.length) = some 2 := by decide +kernel
theorem hd_yX8_trim_RX8 : yX8_trim.cls = RX8 ∧ yX8_trim.cls ≠ "java/lang/invoke/MethodHandle" ∧ yX8_trim.cls ≠ "java/lang/invoke/VarHandle" ∧ (parseMethodDescriptor yX8_trim.desc).map (fun d => d.parameters.length) = some 0 := by decide +kernel
theorem dX8_trim_0 : decode cX8_trim 0 = .ok (.aload_n 0, 1) := dk_42 (by decide +kernel)
theorem dX8_trim_1 : decode cX8_trim 1 = .ok (.getfield 17, 3) := dk_180 (by decide +kernel)
theorem dX8_trim_4 : decode cX8_trim 4 = .ok (.ifCond .le 32, 3) := dk_158 (by decide +kernel)
theorem dX8_trim_7 : decode cX8_trim 7 = .ok (.aload_n 0, 1) := dk_42 (by decide +kernel)
theorem dX8_trim_8 : decode cX8_trim 8 = .ok (.getfield 9, 3) := dk_180 (by decide +kernel)
theorem dX8_trim_11 : decode cX8_trim 11 = .ok (.aload_n 0, 1) := dk_42 (by decide +kernel)
theorem dX8_trim_12 : decode cX8_trim 12 = .ok (.getfield 17, 3) := dk_180 (by decide +kernel)
theorem dX8_trim_15 : decode cX8_trim 15 = .ok (.iconst 1, 1) := dk_4 (by decide +kernel)
theorem dX8_trim_16 : decode cX8_trim 16 = .ok (.isub, 1) := dk_100 (by decide +kernel)
theorem dX8_trim_17 : decode cX8_trim 17 = .ok (.laload, 1) := dk_47 (by decide +kernel)
theorem dX8_trim_18 : decode cX8_trim 18 = .ok (.lconst 0, 1) := dk_9 (by decide +kernel)
theorem dX8_trim_19 : decode cX8_trim 19 = .ok (.lcmp, 1) := dk_148 (by decide +kernel)
theorem dX8_trim_20 : decode cX8_trim 20 = .ok (.ifCond .ne 16, 3) := dk_154 (by decide +kernel)
theorem dX8_trim_23 : decode cX8_trim 23 = .ok (.aload_n 0, 1) := dk_42 (by decide +kernel)
theorem dX8_trim_24 : decode cX8_trim 24 = .ok (.dup, 1) := dk_89 (by decide +kernel)
theorem dX8_trim_25 : decode cX8_trim 25 = .ok (.getfield 17, 3) := dk_180 (by decide +kernel)
theorem dX8_trim_28 : decode cX8_trim 28 = .ok (.iconst 1, 1) := dk_4 (by decide +kernel)
theorem dX8_trim_29 : decode cX8_trim 29 = .ok (.isub, 1) := dk_100 (by decide +kernel)
theorem dX8_trim_30 : decode cX8_trim 30 = .ok (.putfield 17, 3) := dk_181 (by decide +kernel)
theorem dX8_trim_33 : decode cX8_trim 33 = .ok (.goto (-33), 3) := dk_167 (by decide +kernel)
theorem dX8_trim_36 : decode cX8_trim 36 = .ok (.aload_n 0, 1) := dk_42 (by decide +kernel)
theorem dX8_trim_37 : decode cX8_trim 37 = .ok (.aload_n 0, 1) := dk_42 (by decide +kernel)
theorem dX8_trim_38 : decode cX8_trim 38 = .ok (.getfield 13, 3) := dk_180 (by decide +kernel)
theorem dX8_trim_41 : decode cX8_trim 41 = .ok (.ifCond .eq 14, 3) := dk_153 (by decide +kernel)
theorem dX8_trim_44 : decode cX8_trim 44 = .ok (.aload_n 0, 1) := dk_42 (by decide +kernel)
theorem dX8_trim_45 : decode cX8_trim 45 = .ok (.getfield 17, 3) := dk_180 (by decide +kernel)
theorem dX8_trim_48 : decode cX8_trim 48 = .ok (.ifCond .eq 7, 3) := dk_153 (by decide +kernel)
theorem dX8_trim_51 : decode cX8_trim 51 = .ok (.iconst 1, 1) := dk_4 (by decide +kernel)
theorem dX8_trim_52 : decode cX8_trim 52 = .ok (.goto 4, 3) := dk_167 (by decide +kernel)
theorem dX8_trim_55 : decode cX8_trim 55 = .ok (.iconst 0, 1) := dk_3 (by decide +kernel)
theorem dX8_trim_56 : decode cX8_trim 56 = .ok (.putfield 13, 3) := dk_181 (by decide +kernel)
theorem dX8_trim_59 : decode cX8_trim 59 = .ok (.return_, 1) := dk_177 (by decide +kernel)
def wsMX8_trim : List Cond := .code yX8_trim cX8_trim 1 none :: ([.fieldLink RX8 17 "OptimaWorks$Whole" "length" "I", .fieldLink RX8 9 "OptimaWorks$Whole" "limb" "[J", .fieldLink RX8 13 "OptimaWorks$Whole" "below" "Z"] ++ wsX80)
theorem iwsMX8_trim_in8 : ∀ w ∈ wsX80, w ∈ wsMX8_trim := fun _ h => List.mem_cons_of_mem _ (List.mem_append_right _ h)
theorem gdwsMX8_trim : wsMX8_trim.all goodWord = true := gdC rfl (gdA (by decide +kernel : ([.fieldLink RX8 17 "OptimaWorks$Whole" "length" "I", .fieldLink RX8 9 "OptimaWorks$Whole" "limb" "[J", .fieldLink RX8 13 "OptimaWorks$Whole" "below" "Z"] : List Cond).all goodWord = true) gdwsX80)
theorem hm_m_X8_trim_0 : (.fieldLink RX8 17 "OptimaWorks$Whole" "length" "I" : Cond) ∈ wsMX8_trim := by decide +kernel
theorem hm_m_X8_trim_1 : (.fieldLink RX8 13 "OptimaWorks$Whole" "below" "Z" : Cond) ∈ wsMX8_trim := by decide +kernel
set_option maxHeartbeats 4000000 in
set_option maxRecDepth 100000 in
/-- without noughts -/
theorem m_X8_trim (l : Launch) (dC : Nat → ClassId) (dI : Nat → Nat → Nat) (nW : Nat) (hw : Nat → Nat) (lw : Nat → Nat) (kw : ClassId) (wl : Nat → Int32) (wb : Nat → Int32) (wG : Nat → Nat → Int64) (tt : Nat) (b_wl : ∀ q : Nat, 0 ≤ (wl q).toInt ∧ (wl q).toInt ≤ 14) (b_wb : ∀ q : Nat, 0 ≤ (wb q).toInt ∧ (wb q).toInt ≤ 1) (htt : tt < nW) (sz : Nat) : Met l yX8_trim wsMX8_trim ({ frames := 0, cells := 0, slots := 0, locals := 0 }) (va_Pc [.ref (hw tt)] (fun U => U.heap.size = sz ∧ va_P (dC, dI) vwCl (WW nW hw lw kw wl wb wG) U.heap ∧ va_K (dC, dI) vwCl (tW kw) U ∧ va_D (fun _ => True) (WW nW hw lw kw wl wb wG))) (va_Qv (fun (u : (Nat → Int32) × (Nat → Int32)) => (∀ q : Nat, 0 ≤ ((u.1) q).toInt ∧ ((u.1) q).toInt ≤ 14) ∧ (∀ q : Nat, 0 ≤ ((u.2) q).toInt ∧ ((u.2) q).toInt ≤ 1)) (fun (u : (Nat → Int32) × (Nat → Int32)) t => va_P (dC, dI) vwCl (WW nW hw lw kw (u.1) (u.2) wG) t.heap ∧ va_D (va_A (WW nW hw lw kw wl wb wG) sz) (WW nW hw lw kw (u.1) (u.2) wG)) (va_A (WW nW hw lw kw wl wb wG) sz)) 0 0 (va_A (WW nW hw lw kw wl wb wG) sz) := by
  refine Met.ofW (cc := cX8_trim) (maxL := 1) (ret := none) (by decide) rfl ?_
  intro p e s m args below meth c s₁ B hml hv
  obtain ⟨rfl, hsz, hP, hK, hD0⟩ := hv
  have hx := B.exec
  have hb := B.bytes
  have hr := B.returns
  have hts := atoms_spec (ws := wsMX8_trim) B.pre
  have hown : s.vm.findClass RX8 = some m.cls := findClass_of_methodNamed B.named
  have hlocks := B.notSynchronized
  subst hsz
  have hD := hD0.self (sz := s.heap.size)
  generalize hAe : va_A (WW nW hw lw kw wl wb wG) s.heap.size = A at hD ⊢
  have hA : ∀ q : Nat, s.heap.size ≤ q → A q := fun q h => by rw [← hAe]; exact Or.inr h
  have hS : va_S A s.heap s.heap [] := va_S.rf
  have hl := lv_entry ([.ref (hw tt)]) (n := 1) (Nat.le_of_ble_eq_true rfl)
  rw [lg_entry_eq]
  generalize (lg_sl ([.ref (hw tt)]) ++ List.replicate (1 - (lg_sl ([.ref (hw tt)])).length) Slot.unset).toArray = ls at hl ⊢
  have hl : lv_has ls 1 [(0, .ref (hw tt))] := hl
  have hl : lv_has _ _ ([(0, .ref (hw tt))]) := lv_sub hl [0] rfl
  refine (fun (loop : ∀ (n9 : Nat) (wl_x0 : Nat → Int32) (H : Heap) (locs : List Loc) (ls : Array Slot), (∀ q : Nat, 0 ≤ (wl_x0 q).toInt ∧ (wl_x0 q).toInt ≤ 14) → ((wl_x0 tt).toInt < ((n9 : Nat) : Int)) → va_P (dC, dI) vwCl (WW nW hw lw kw wl_x0 wb wG) H → va_D A (WW nW hw lw kw wl_x0 wb wG) → va_S A s.heap H locs → lv_has ls 1 [(0, .ref (hw tt))] → W p l e _ s m _ below meth c H locs 0 0 _ (F0 m 0 ls [])) => loop (15) wl _ _ _ b_wl ((by have h9 := b_wl tt; omega)) hP hD hS hl) ?_
  intro n9
  induction n9 with
  | zero => intro wl_x0 H locs ls b_wl_x0 hf9; exact False.elim (by have h9 := b_wl_x0 tt; omega)
  | succ n9 ihx0 =>
    intro wl_x0 H locs ls b_wl_x0 hfx0 hP hD hS hl
    refine lv_aload_n hx hb dX8_trim_0 rfl (lv_at hl 0 rfl) ?_
    refine va_get (D := (dC, dI)) (ci := 8) (v := .int (wl_x0 tt)) (C := RX8) (T := TX8) (N := 3) hx hb hts iwsMX8_trim_in8 hown hK hP (tt) (WW_o (by omega)) rfl 1 (by decide) (hts _ hm_m_X8_trim_0) (fun _ h9 => h9) rfl dX8_trim_1 ?_
    have br1 := b_wl_x0 tt
    refine W.cut (pc := 36) (fun H locs ls stk =>  stk = [] ∧ va_P (dC, dI) vwCl (WW nW hw lw kw wl_x0 wb wG) H ∧ va_D A (WW nW hw lw kw wl_x0 wb wG) ∧ va_S A s.heap H locs ∧ lv_has ls 1 [(0, .ref (hw tt))]) (fun join7 => ?_) ?_
    · refine lv_if_le (tgt := 36) hx hb dX8_trim_4 (by decide) (fun c_4 => ?_) (fun c_4 => ?_)
      · have t_4 : (wl_x0 tt).toInt ≤ 0 := toI_le c_4 rfl (by decide : (0 : Int32).toInt = 0)
        have hl : lv_has _ _ ([(0, .ref (hw tt))]) := lv_sub hl [0] rfl
        exact join7 _ _ _ _ ⟨rfl, hP, hD, hS, hl⟩
      · have t_4 : ¬ (wl_x0 tt).toInt ≤ 0 := toI_nle c_4 rfl (by decide : (0 : Int32).toInt = 0)
        refine lv_aload_n hx hb dX8_trim_7 rfl (lv_at hl 0 rfl) ?_
        refine va_get (D := (dC, dI)) (ci := 8) (v := .ref (lw tt)) (C := RX8) (T := TX8) (N := 3) hx hb hts iwsMX8_trim_in8 hown hK hP (tt) (WW_o (by omega)) rfl 0 (by decide) (hts (.fieldLink RX8 9 "OptimaWorks$Whole" "limb" "[J") (by decide +kernel)) (fun _ h9 => h9) rfl dX8_trim_8 ?_
        refine lv_aload_n hx hb dX8_trim_11 rfl (lv_at hl 0 rfl) ?_
        refine va_get (D := (dC, dI)) (ci := 8) (v := .int (wl_x0 tt)) (C := RX8) (T := TX8) (N := 3) hx hb hts iwsMX8_trim_in8 hown hK hP (tt) (WW_o (by omega)) rfl 1 (by decide) (hts _ hm_m_X8_trim_0) (fun _ h9 => h9) rfl dX8_trim_12 ?_
        have br12 := b_wl_x0 tt
        refine lv_iconst (v := 1) hx hb dX8_trim_15 (by decide) ?_
        refine lv_isub hx hb dX8_trim_16 ?_
        refine lv_topi (fun y14 hy14 => ?_)
        obtain rfl : (iI ((wl_x0 tt).toInt - 1)) = y14 := (hy14.trans (iI_sub2 (iI_of _) (by decide : (1 : Int32) = iI 1))).symm
        refine va_lald (cA := kw) (n := 14) (f := (wG tt)) hx hb hK hP (nW + tt) 0 (WW_a (by omega)) rfl (vp_iI (by omega) (by omega) (by decide)) dX8_trim_17 ?_
        refine lv_topl (fun v15 hv15 => ?_)
        clear hv15
        refine lv_lconst (v := 0) hx hb dX8_trim_18 (by decide) ?_
        refine W.lcmp hx hb dX8_trim_19 ?_
        refine lv_if_ne (tgt := 36) hx hb dX8_trim_20 (by decide) (fun c_20 => ?_) (fun c_20 => ?_)
        · have t_20 : v15.toInt ≠ 0 := toL_ne c_20 rfl (by decide : (0 : Int64).toInt = 0)
          have hl : lv_has _ _ ([(0, .ref (hw tt))]) := lv_sub hl [0] rfl
          exact join7 _ _ _ _ ⟨rfl, hP, hD, hS, hl⟩
        · have t_20 : v15.toInt = 0 := toL_nne c_20 rfl (by decide : (0 : Int64).toInt = 0)
          refine lv_aload_n hx hb dX8_trim_23 rfl (lv_at hl 0 rfl) ?_
          refine lv_dup hx hb dX8_trim_24 rfl ?_
          refine va_get (D := (dC, dI)) (ci := 8) (v := .int (wl_x0 tt)) (C := RX8) (T := TX8) (N := 3) hx hb hts iwsMX8_trim_in8 hown hK hP (tt) (WW_o (by omega)) rfl 1 (by decide) (hts _ hm_m_X8_trim_0) (fun _ h9 => h9) rfl dX8_trim_25 ?_
          have br25 := b_wl_x0 tt
          refine lv_iconst (v := 1) hx hb dX8_trim_28 (by decide) ?_
          refine lv_isub hx hb dX8_trim_29 ?_
          refine lv_topi (fun y16 hy16 => ?_)
          obtain rfl : (iI ((wl_x0 tt).toInt - 1)) = y16 := (hy16.trans (iI_sub2 (iI_of _) (by decide : (1 : Int32) = iI 1))).symm
          refine va_put (D := (dC, dI)) (ci := 8) (v := .int (iI ((wl_x0 tt).toInt - 1))) (ty := .int) (C := RX8) (T := TX8) (N := 3) hx hb hts iwsMX8_trim_in8 tyX8 tyX8_ok nmX8 hown hK hP hD hS (tt) (WW_o (by omega)) rfl 1 (by decide) (hts _ hm_m_X8_trim_0) (fun _ h9 => h9) rfl (by decide +kernel) rfl rfl (Nat.le_of_ble_eq_true rfl) dX8_trim_30 (fun H locs hP hD hS => ?_)
          obtain ⟨u17, hu17⟩ : ∃ f9, f9 = fT wl_x0 tt (iI ((wl_x0 tt).toInt - 1)) := ⟨_, rfl⟩
          have hP : va_P (dC, dI) vwCl (WW nW hw lw kw u17 wb wG) H := by rw [hu17]; exact Eq.mp (congrArg (fun z9 => va_P (dC, dI) vwCl z9 H) (WW_sl (by omega) (iI ((wl_x0 tt).toInt - 1)))) hP
          have hD : va_D A (WW nW hw lw kw u17 wb wG) := by rw [hu17]; exact Eq.mp (congrArg (fun z9 => va_D A z9) (WW_sl (by omega) (iI ((wl_x0 tt).toInt - 1)))) hD
          have b_u17 : ∀ q : Nat, 0 ≤ (u17 q).toInt ∧ (u17 q).toInt ≤ 14 := by rw [hu17]; exact fT_r b_wl_x0 (iI_rng (by omega) (by omega) (by decide) (by decide))
          have q_u17 : (u17 tt).toInt = ((wl_x0 tt).toInt - 1) := by rw [hu17, fT_eq]; exact (iI_t (by omega) (by omega))
          clear hu17
          refine lv_goto (tgt := 0) hx hb dX8_trim_33 (by decide) ?_
          have hl : lv_has _ _ ([(0, .ref (hw tt))]) := lv_sub hl [0] rfl
          exact ihx0 u17 _ _ _ b_u17 (by omega) hP hD hS hl
    · rintro H locs ls stk ⟨rfl, hP, hD, hS, hl⟩
      refine lv_aload_n hx hb dX8_trim_36 rfl (lv_at hl 0 rfl) ?_
      refine lv_aload_n hx hb dX8_trim_37 rfl (lv_at hl 0 rfl) ?_
      refine va_get (D := (dC, dI)) (ci := 8) (v := .int (wb tt)) (C := RX8) (T := TX8) (N := 3) hx hb hts iwsMX8_trim_in8 hown hK hP (tt) (WW_o (by omega)) rfl 2 (by decide) (hts _ hm_m_X8_trim_1) (fun _ h9 => h9) rfl dX8_trim_38 ?_
      have br38 := b_wb tt
      refine W.cut (pc := 56) (fun H locs ls stk => ∃ (k0_j8 : Int32), (0 ≤ k0_j8.toInt ∧ k0_j8.toInt ≤ 1) ∧  stk = [.int k0_j8, .ref (hw tt)] ∧ va_P (dC, dI) vwCl (WW nW hw lw kw wl_x0 wb wG) H ∧ va_D A (WW nW hw lw kw wl_x0 wb wG) ∧ va_S A s.heap H locs ∧ lv_has ls 1 [(0, .ref (hw tt))]) (fun join8 => ?_) ?_
      · refine lv_if_eq (tgt := 55) hx hb dX8_trim_41 (by decide) (fun c_41 => ?_) (fun c_41 => ?_)
        · have t_41 : (wb tt).toInt = 0 := toI_eq c_41 rfl (by decide : (0 : Int32).toInt = 0)
          refine lv_iconst (v := 0) hx hb dX8_trim_55 (by decide) ?_
          have hl : lv_has _ _ ([(0, .ref (hw tt))]) := lv_sub hl [0] rfl
          exact join8 _ _ _ _ ⟨0, (show 0 ≤ (0 : Int32).toInt ∧ (0 : Int32).toInt ≤ 1 from by decide), rfl, hP, hD, hS, hl⟩
        · have t_41 : ¬ (wb tt).toInt = 0 := toI_neq c_41 rfl (by decide : (0 : Int32).toInt = 0)
          refine lv_aload_n hx hb dX8_trim_44 rfl (lv_at hl 0 rfl) ?_
          refine va_get (D := (dC, dI)) (ci := 8) (v := .int (wl_x0 tt)) (C := RX8) (T := TX8) (N := 3) hx hb hts iwsMX8_trim_in8 hown hK hP (tt) (WW_o (by omega)) rfl 1 (by decide) (hts _ hm_m_X8_trim_0) (fun _ h9 => h9) rfl dX8_trim_45 ?_
          have br45 := b_wl_x0 tt
          refine lv_if_eq (tgt := 55) hx hb dX8_trim_48 (by decide) (fun c_48 => ?_) (fun c_48 => ?_)
          · have t_48 : (wl_x0 tt).toInt = 0 := toI_eq c_48 rfl (by decide : (0 : Int32).toInt = 0)
            refine lv_iconst (v := 0) hx hb dX8_trim_55 (by decide) ?_
            have hl : lv_has _ _ ([(0, .ref (hw tt))]) := lv_sub hl [0] rfl
            exact join8 _ _ _ _ ⟨0, (show 0 ≤ (0 : Int32).toInt ∧ (0 : Int32).toInt ≤ 1 from by decide), rfl, hP, hD, hS, hl⟩
          · have t_48 : ¬ (wl_x0 tt).toInt = 0 := toI_neq c_48 rfl (by decide : (0 : Int32).toInt = 0)
            refine lv_iconst (v := 1) hx hb dX8_trim_51 (by decide) ?_
            refine lv_goto (tgt := 56) hx hb dX8_trim_52 (by decide) ?_
            have hl : lv_has _ _ ([(0, .ref (hw tt))]) := lv_sub hl [0] rfl
            exact join8 _ _ _ _ ⟨1, (show 0 ≤ (1 : Int32).toInt ∧ (1 : Int32).toInt ≤ 1 from by decide), rfl, hP, hD, hS, hl⟩
      · rintro H locs ls stk ⟨k0_j8, b_k0_j8, rfl, hP, hD, hS, hl⟩
        refine va_put (D := (dC, dI)) (ci := 8) (v := .int k0_j8) (ty := .boolean) (C := RX8) (T := TX8) (N := 3) hx hb hts iwsMX8_trim_in8 tyX8 tyX8_ok nmX8 hown hK hP hD hS (tt) (WW_o (by omega)) rfl 2 (by decide) (hts _ hm_m_X8_trim_1) (fun _ h9 => h9) rfl (by decide +kernel) (by rcases z01 (x := k0_j8) (b_k0_j8) with h9 | h9 <;> rw [h9] <;> rfl) (by rcases z01 (x := k0_j8) (b_k0_j8) with h9 | h9 <;> rw [h9] <;> rfl) (Nat.le_of_ble_eq_true rfl) dX8_trim_56 (fun H locs hP hD hS => ?_)
        obtain ⟨u18, hu18⟩ : ∃ f9, f9 = fT wb tt k0_j8 := ⟨_, rfl⟩
        have hP : va_P (dC, dI) vwCl (WW nW hw lw kw wl_x0 u18 wG) H := by rw [hu18]; exact Eq.mp (congrArg (fun z9 => va_P (dC, dI) vwCl z9 H) (WW_sb (by omega) k0_j8)) hP
        have hD : va_D A (WW nW hw lw kw wl_x0 u18 wG) := by rw [hu18]; exact Eq.mp (congrArg (fun z9 => va_D A z9) (WW_sb (by omega) k0_j8)) hD
        have b_u18 : ∀ q : Nat, 0 ≤ (u18 q).toInt ∧ (u18 q).toInt ≤ 1 := by rw [hu18]; exact fT_r b_wb (b_k0_j8)
        have q_u18 : (u18 tt).toInt = k0_j8.toInt := by rw [hu18, fT_eq]
        clear hu18
        refine W.widen (k := 0) (n := 0) (by decide +kernel) (by decide +kernel) ?_
        exact W.vret hx hb hr (fun t9_ ht hW => ⟨⟨(wl_x0, u18), rfl, ⟨b_wl_x0, b_u18⟩, by rw [ht]; exact hP, hD⟩, hS.F ht⟩) hS.2.2 dX8_trim_59
theorem dX8_compareSize_0 : decode cX8_compareSize 0 = .ok (.aload_n 0, 1) := dk_42 (by decide +kernel)
theorem dX8_compareSize_1 : decode cX8_compareSize 1 = .ok (.getfield 17, 3) := dk_180 (by decide +kernel)
theorem dX8_compareSize_4 : decode cX8_compareSize 4 = .ok (.aload_n 1, 1) := dk_43 (by decide +kernel)
theorem dX8_compareSize_5 : decode cX8_compareSize 5 = .ok (.getfield 17, 3) := dk_180 (by decide +kernel)
theorem dX8_compareSize_8 : decode cX8_compareSize 8 = .ok (.if_icmp .eq 20, 3) := dk_159 (by decide +kernel)
theorem dX8_compareSize_11 : decode cX8_compareSize 11 = .ok (.aload_n 0, 1) := dk_42 (by decide +kernel)
theorem dX8_compareSize_12 : decode cX8_compareSize 12 = .ok (.getfield 17, 3) := dk_180 (by decide +kernel)
theorem dX8_compareSize_15 : decode cX8_compareSize 15 = .ok (.aload_n 1, 1) := dk_43 (by decide +kernel)
theorem dX8_compareSize_16 : decode cX8_compareSize 16 = .ok (.getfield 17, 3) := dk_180 (by decide +kernel)
theorem dX8_compareSize_19 : decode cX8_compareSize 19 = .ok (.if_icmp .ge 7, 3) := dk_162 (by decide +kernel)
theorem dX8_compareSize_22 : decode cX8_compareSize 22 = .ok (.iconst (-1), 1) := dk_2 (by decide +kernel)
theorem dX8_compareSize_23 : decode cX8_compareSize 23 = .ok (.goto 4, 3) := dk_167 (by decide +kernel)
theorem dX8_compareSize_26 : decode cX8_compareSize 26 = .ok (.iconst 1, 1) := dk_4 (by decide +kernel)
theorem dX8_compareSize_27 : decode cX8_compareSize 27 = .ok (.ireturn, 1) := dk_172 (by decide +kernel)
theorem dX8_compareSize_28 : decode cX8_compareSize 28 = .ok (.aload_n 0, 1) := dk_42 (by decide +kernel)
theorem dX8_compareSize_29 : decode cX8_compareSize 29 = .ok (.getfield 17, 3) := dk_180 (by decide +kernel)
theorem dX8_compareSize_32 : decode cX8_compareSize 32 = .ok (.iconst 1, 1) := dk_4 (by decide +kernel)
theorem dX8_compareSize_33 : decode cX8_compareSize 33 = .ok (.isub, 1) := dk_100 (by decide +kernel)
theorem dX8_compareSize_34 : decode cX8_compareSize 34 = .ok (.istore_n 2, 1) := dk_61 (by decide +kernel)
theorem dX8_compareSize_35 : decode cX8_compareSize 35 = .ok (.iload_n 2, 1) := dk_28 (by decide +kernel)
theorem dX8_compareSize_36 : decode cX8_compareSize 36 = .ok (.ifCond .lt 47, 3) := dk_155 (by decide +kernel)
theorem dX8_compareSize_39 : decode cX8_compareSize 39 = .ok (.aload_n 0, 1) := dk_42 (by decide +kernel)
theorem dX8_compareSize_40 : decode cX8_compareSize 40 = .ok (.getfield 9, 3) := dk_180 (by decide +kernel)
theorem dX8_compareSize_43 : decode cX8_compareSize 43 = .ok (.iload_n 2, 1) := dk_28 (by decide +kernel)
theorem dX8_compareSize_44 : decode cX8_compareSize 44 = .ok (.laload, 1) := dk_47 (by decide +kernel)
theorem dX8_compareSize_45 : decode cX8_compareSize 45 = .ok (.aload_n 1, 1) := dk_43 (by decide +kernel)
theorem dX8_compareSize_46 : decode cX8_compareSize 46 = .ok (.getfield 9, 3) := dk_180 (by decide +kernel)
theorem dX8_compareSize_49 : decode cX8_compareSize 49 = .ok (.iload_n 2, 1) := dk_28 (by decide +kernel)
theorem dX8_compareSize_50 : decode cX8_compareSize 50 = .ok (.laload, 1) := dk_47 (by decide +kernel)
theorem dX8_compareSize_51 : decode cX8_compareSize 51 = .ok (.lcmp, 1) := dk_148 (by decide +kernel)
theorem dX8_compareSize_52 : decode cX8_compareSize 52 = .ok (.ifCond .eq 25, 3) := dk_153 (by decide +kernel)
theorem dX8_compareSize_55 : decode cX8_compareSize 55 = .ok (.aload_n 0, 1) := dk_42 (by decide +kernel)
theorem dX8_compareSize_56 : decode cX8_compareSize 56 = .ok (.getfield 9, 3) := dk_180 (by decide +kernel)
theorem dX8_compareSize_59 : decode cX8_compareSize 59 = .ok (.iload_n 2, 1) := dk_28 (by decide +kernel)
theorem dX8_compareSize_60 : decode cX8_compareSize 60 = .ok (.laload, 1) := dk_47 (by decide +kernel)
theorem dX8_compareSize_61 : decode cX8_compareSize 61 = .ok (.aload_n 1, 1) := dk_43 (by decide +kernel)
theorem dX8_compareSize_62 : decode cX8_compareSize 62 = .ok (.getfield 9, 3) := dk_180 (by decide +kernel)
theorem dX8_compareSize_65 : decode cX8_compareSize 65 = .ok (.iload_n 2, 1) := dk_28 (by decide +kernel)
theorem dX8_compareSize_66 : decode cX8_compareSize 66 = .ok (.laload, 1) := dk_47 (by decide +kernel)
theorem dX8_compareSize_67 : decode cX8_compareSize 67 = .ok (.lcmp, 1) := dk_148 (by decide +kernel)
theorem dX8_compareSize_68 : decode cX8_compareSize 68 = .ok (.ifCond .ge 7, 3) := dk_156 (by decide +kernel)
theorem dX8_compareSize_71 : decode cX8_compareSize 71 = .ok (.iconst (-1), 1) := dk_2 (by decide +kernel)
theorem dX8_compareSize_72 : decode cX8_compareSize 72 = .ok (.goto 4, 3) := dk_167 (by decide +kernel)
theorem dX8_compareSize_75 : decode cX8_compareSize 75 = .ok (.iconst 1, 1) := dk_4 (by decide +kernel)
theorem dX8_compareSize_76 : decode cX8_compareSize 76 = .ok (.ireturn, 1) := dk_172 (by decide +kernel)
theorem dX8_compareSize_77 : decode cX8_compareSize 77 = .ok (.iinc 2 (-1), 3) := dk_132 (by decide +kernel)
theorem dX8_compareSize_80 : decode cX8_compareSize 80 = .ok (.goto (-45), 3) := dk_167 (by decide +kernel)
theorem dX8_compareSize_83 : decode cX8_compareSize 83 = .ok (.iconst 0, 1) := dk_3 (by decide +kernel)
theorem dX8_compareSize_84 : decode cX8_compareSize 84 = .ok (.ireturn, 1) := dk_172 (by decide +kernel)
def wsMX8_compareSize : List Cond := .code yX8_compareSize cX8_compareSize 3 (some .int) :: ([.fieldLink RX8 17 "OptimaWorks$Whole" "length" "I", .fieldLink RX8 9 "OptimaWorks$Whole" "limb" "[J"] ++ wsX80)
theorem iwsMX8_compareSize_in8 : ∀ w ∈ wsX80, w ∈ wsMX8_compareSize := fun _ h => List.mem_cons_of_mem _ (List.mem_append_right _ h)
theorem gdwsMX8_compareSize : wsMX8_compareSize.all goodWord = true := gdC rfl (gdA (by decide +kernel : ([.fieldLink RX8 17 "OptimaWorks$Whole" "length" "I", .fieldLink RX8 9 "OptimaWorks$Whole" "limb" "[J"] : List Cond).all goodWord = true) gdwsX80)
theorem hm_m_X8_compareSize_0 : (.fieldLink RX8 17 "OptimaWorks$Whole" "length" "I" : Cond) ∈ wsMX8_compareSize := by decide +kernel
theorem hm_m_X8_compareSize_1 : (.fieldLink RX8 9 "OptimaWorks$Whole" "limb" "[J" : Cond) ∈ wsMX8_compareSize := by decide +kernel
set_option maxHeartbeats 4000000 in
set_option maxRecDepth 100000 in
/-- which is greater -/
theorem m_X8_compareSize (l : Launch) (dC : Nat → ClassId) (dI : Nat → Nat → Nat) (nW : Nat) (hw : Nat → Nat) (lw : Nat → Nat) (kw : ClassId) (wl : Nat → Int32) (wb : Nat → Int32) (wG : Nat → Nat → Int64) (tt : Nat) (ta : Nat) (b_wl : ∀ q : Nat, 0 ≤ (wl q).toInt ∧ (wl q).toInt ≤ 14) (b_wb : ∀ q : Nat, 0 ≤ (wb q).toInt ∧ (wb q).toInt ≤ 1) (htt : tt < nW) (hta : ta < nW) (sz : Nat) : Met l yX8_compareSize wsMX8_compareSize ({ frames := 0, cells := 0, slots := 0, locals := 0 }) (va_Pc [.ref (hw tt), .ref (hw ta)] (fun U => U.heap.size = sz ∧ va_P (dC, dI) vwCl (WW nW hw lw kw wl wb wG) U.heap ∧ va_K (dC, dI) vwCl (tW kw) U ∧ va_D (fun _ => True) (WW nW hw lw kw wl wb wG))) (va_Qi (fun (r : Int32) (u : Unit) => ((-1) ≤ r.toInt ∧ r.toInt ≤ 1)) (fun (u : Unit) t => va_P (dC, dI) vwCl (WW nW hw lw kw wl wb wG) t.heap ∧ va_D (va_A (WW nW hw lw kw wl wb wG) sz) (WW nW hw lw kw wl wb wG)) (va_A (WW nW hw lw kw wl wb wG) sz)) 0 0 (va_A (WW nW hw lw kw wl wb wG) sz) := by
  refine Met.ofW (cc := cX8_compareSize) (maxL := 3) (ret := (some .int)) (by decide) rfl ?_
  intro p e s m args below meth c s₁ B hml hv
  obtain ⟨rfl, hsz, hP, hK, hD0⟩ := hv
  have hx := B.exec
  have hb := B.bytes
  have hr := B.returns
  have hts := atoms_spec (ws := wsMX8_compareSize) B.pre
  have hown : s.vm.findClass RX8 = some m.cls := findClass_of_methodNamed B.named
  have hlocks := B.notSynchronized
  subst hsz
  have hD := hD0.self (sz := s.heap.size)
  generalize hAe : va_A (WW nW hw lw kw wl wb wG) s.heap.size = A at hD ⊢
  have hA : ∀ q : Nat, s.heap.size ≤ q → A q := fun q h => by rw [← hAe]; exact Or.inr h
  have hS : va_S A s.heap s.heap [] := va_S.rf
  have hl := lv_entry ([.ref (hw tt), .ref (hw ta)]) (n := 3) (Nat.le_of_ble_eq_true rfl)
  rw [lg_entry_eq]
  generalize (lg_sl ([.ref (hw tt), .ref (hw ta)]) ++ List.replicate (3 - (lg_sl ([.ref (hw tt), .ref (hw ta)])).length) Slot.unset).toArray = ls at hl ⊢
  have hl : lv_has ls 3 [(0, .ref (hw tt)), (1, .ref (hw ta))] := hl
  refine lv_aload_n hx hb dX8_compareSize_0 rfl (lv_at hl 0 rfl) ?_
  refine va_get (D := (dC, dI)) (ci := 8) (v := .int (wl tt)) (C := RX8) (T := TX8) (N := 3) hx hb hts iwsMX8_compareSize_in8 hown hK hP (tt) (WW_o (by omega)) rfl 1 (by decide) (hts _ hm_m_X8_compareSize_0) (fun _ h9 => h9) rfl dX8_compareSize_1 ?_
  have br1 := b_wl tt
  refine lv_aload_n hx hb dX8_compareSize_4 rfl (lv_at hl 1 rfl) ?_
  refine va_get (D := (dC, dI)) (ci := 8) (v := .int (wl ta)) (C := RX8) (T := TX8) (N := 3) hx hb hts iwsMX8_compareSize_in8 hown hK hP (ta) (WW_o (by omega)) rfl 1 (by decide) (hts _ hm_m_X8_compareSize_0) (fun _ h9 => h9) rfl dX8_compareSize_5 ?_
  have br5 := b_wl ta
  refine lv_icmp_eq (tgt := 28) hx hb dX8_compareSize_8 (by decide) (fun c_8 => ?_) (fun c_8 => ?_)
  · have t_8 : (wl tt).toInt = (wl ta).toInt := toI_eq c_8 rfl rfl
    refine lv_aload_n hx hb dX8_compareSize_28 rfl (lv_at hl 0 rfl) ?_
    refine va_get (D := (dC, dI)) (ci := 8) (v := .int (wl tt)) (C := RX8) (T := TX8) (N := 3) hx hb hts iwsMX8_compareSize_in8 hown hK hP (tt) (WW_o (by omega)) rfl 1 (by decide) (hts _ hm_m_X8_compareSize_0) (fun _ h9 => h9) rfl dX8_compareSize_29 ?_
    have br29 := b_wl tt
    refine lv_iconst (v := 1) hx hb dX8_compareSize_32 (by decide) ?_
    refine lv_isub hx hb dX8_compareSize_33 ?_
    refine lv_topi (fun y1 hy1 => ?_)
    obtain rfl : (iI ((wl tt).toInt - 1)) = y1 := (hy1.trans (iI_sub2 (iI_of _) (by decide : (1 : Int32) = iI 1))).symm
    refine lv_istore_n hx hb dX8_compareSize_34 rfl hl (by decide) rfl (fun ls (hl : lv_has ls _ ([(2, .int (iI ((wl tt).toInt - 1))), (0, .ref (hw tt)), (1, .ref (hw ta))])) => ?_)
    have hl : lv_has _ _ ([(2, .int (iI ((wl tt).toInt - 1))), (0, .ref (hw tt)), (1, .ref (hw ta))]) := lv_sub hl [0, 1, 2] rfl
    refine (fun (loop : ∀ (n9 : Nat) (l2_x35 : Int32) (H : Heap) (locs : List Loc) (ls : Array Slot), ((-1) ≤ l2_x35.toInt ∧ l2_x35.toInt ≤ 13) → (l2_x35.toInt - (-1) < ((n9 : Nat) : Int)) → va_P (dC, dI) vwCl (WW nW hw lw kw wl wb wG) H → va_D A (WW nW hw lw kw wl wb wG) → va_S A s.heap H locs → lv_has ls 3 [(2, .int l2_x35), (0, .ref (hw tt)), (1, .ref (hw ta))] → W p l e _ s m _ below meth c H locs 0 0 _ (F0 m 35 ls [])) => loop (15) (iI ((wl tt).toInt - 1)) _ _ _ (iI_rng (by omega) (by omega) (by decide) (by decide)) ((by have e9 : ((iI ((wl tt).toInt - 1))).toInt = ((wl tt).toInt - 1) := (iI_t (by omega) (by omega)); omega)) hP hD hS hl) ?_
    intro n9
    induction n9 with
    | zero => intro l2_x35 H locs ls b_l2_x35 hf9; exact False.elim (by omega)
    | succ n9 ihx35 =>
      intro l2_x35 H locs ls b_l2_x35 hfx35 hP hD hS hl
      refine lv_iload_n hx hb dX8_compareSize_35 rfl (lv_at hl 0 rfl) ?_
      refine lv_if_lt (tgt := 83) hx hb dX8_compareSize_36 (by decide) (fun c_36 => ?_) (fun c_36 => ?_)
      · have t_36 : l2_x35.toInt < 0 := toI_lt c_36 rfl (by decide : (0 : Int32).toInt = 0)
        refine lv_iconst (v := 0) hx hb dX8_compareSize_83 (by decide) ?_
        refine W.widen (k := 0) (n := 0) (by decide +kernel) (by decide +kernel) ?_
        exact W.iret (v := 0) hx hb hr (fun t9_ ht hW => ⟨⟨(0 : Int32), (), rfl, (show (-1) ≤ (0 : Int32).toInt ∧ (0 : Int32).toInt ≤ 1 from by decide), by rw [ht]; exact hP, hD⟩, hS.F ht⟩) hS.2.2 dX8_compareSize_84
      · have t_36 : ¬ l2_x35.toInt < 0 := toI_nlt c_36 rfl (by decide : (0 : Int32).toInt = 0)
        refine lv_aload_n hx hb dX8_compareSize_39 rfl (lv_at hl 1 rfl) ?_
        refine va_get (D := (dC, dI)) (ci := 8) (v := .ref (lw tt)) (C := RX8) (T := TX8) (N := 3) hx hb hts iwsMX8_compareSize_in8 hown hK hP (tt) (WW_o (by omega)) rfl 0 (by decide) (hts _ hm_m_X8_compareSize_1) (fun _ h9 => h9) rfl dX8_compareSize_40 ?_
        refine lv_iload_n hx hb dX8_compareSize_43 rfl (lv_at hl 0 rfl) ?_
        refine va_lald (cA := kw) (n := 14) (f := (wG tt)) hx hb hK hP (nW + tt) 0 (WW_a (by omega)) rfl (vp_in_iff.mpr ⟨(by omega), (Int.lt_of_le_of_lt (b_l2_x35.2) (by decide))⟩) dX8_compareSize_44 ?_
        refine lv_topl (fun v10 hv10 => ?_)
        clear hv10
        refine lv_aload_n hx hb dX8_compareSize_45 rfl (lv_at hl 2 rfl) ?_
        refine va_get (D := (dC, dI)) (ci := 8) (v := .ref (lw ta)) (C := RX8) (T := TX8) (N := 3) hx hb hts iwsMX8_compareSize_in8 hown hK hP (ta) (WW_o (by omega)) rfl 0 (by decide) (hts _ hm_m_X8_compareSize_1) (fun _ h9 => h9) rfl dX8_compareSize_46 ?_
        refine lv_iload_n hx hb dX8_compareSize_49 rfl (lv_at hl 0 rfl) ?_
        refine va_lald (cA := kw) (n := 14) (f := (wG ta)) hx hb hK hP (nW + ta) 0 (WW_a (by omega)) rfl (vp_in_iff.mpr ⟨(by omega), (Int.lt_of_le_of_lt (b_l2_x35.2) (by decide))⟩) dX8_compareSize_50 ?_
        refine lv_topl (fun v11 hv11 => ?_)
        clear hv11
        refine W.lcmp hx hb dX8_compareSize_51 ?_
        refine lv_if_eq (tgt := 77) hx hb dX8_compareSize_52 (by decide) (fun c_52 => ?_) (fun c_52 => ?_)
        · have t_52 : v10.toInt = v11.toInt := toL_eq c_52 rfl rfl
          refine lv_iinc (v := (iI (l2_x35.toInt + (-1)))) hx hb dX8_compareSize_77 hl (k := 0) rfl (iI_add2 (iI_of _) (by decide : ((-1) : Int32) = iI (-1))) (by decide) rfl (fun ls (hl : lv_has ls _ ([(2, .int (iI (l2_x35.toInt + (-1)))), (0, .ref (hw tt)), (1, .ref (hw ta))])) => ?_)
          refine lv_goto (tgt := 35) hx hb dX8_compareSize_80 (by decide) ?_
          have hl : lv_has _ _ ([(2, .int (iI (l2_x35.toInt + (-1)))), (0, .ref (hw tt)), (1, .ref (hw ta))]) := lv_sub hl [0, 1, 2] rfl
          exact ihx35 (iI (l2_x35.toInt + (-1))) _ _ _ (iI_rng (by omega) (Int.le_trans (Int.add_le_add (b_l2_x35.2) (Int.le_refl _)) (by decide)) (by decide) (by decide)) (by have e9 : ((iI (l2_x35.toInt + (-1)))).toInt = (l2_x35.toInt + (-1)) := (iI_t (Int.le_trans (by decide) (Int.add_le_add (b_l2_x35.1) (Int.le_refl _))) (Int.le_trans (Int.add_le_add (b_l2_x35.2) (Int.le_refl _)) (by decide))); omega) hP hD hS hl
        · have t_52 : ¬ v10.toInt = v11.toInt := toL_neq c_52 rfl rfl
          refine lv_aload_n hx hb dX8_compareSize_55 rfl (lv_at hl 1 rfl) ?_
          refine va_get (D := (dC, dI)) (ci := 8) (v := .ref (lw tt)) (C := RX8) (T := TX8) (N := 3) hx hb hts iwsMX8_compareSize_in8 hown hK hP (tt) (WW_o (by omega)) rfl 0 (by decide) (hts _ hm_m_X8_compareSize_1) (fun _ h9 => h9) rfl dX8_compareSize_56 ?_
          refine lv_iload_n hx hb dX8_compareSize_59 rfl (lv_at hl 0 rfl) ?_
          refine va_lald (cA := kw) (n := 14) (f := (wG tt)) hx hb hK hP (nW + tt) 0 (WW_a (by omega)) rfl (vp_in_iff.mpr ⟨(by omega), (Int.lt_of_le_of_lt (b_l2_x35.2) (by decide))⟩) dX8_compareSize_60 ?_
          refine lv_topl (fun v12 hv12 => ?_)
          clear hv12
          refine lv_aload_n hx hb dX8_compareSize_61 rfl (lv_at hl 2 rfl) ?_
          refine va_get (D := (dC, dI)) (ci := 8) (v := .ref (lw ta)) (C := RX8) (T := TX8) (N := 3) hx hb hts iwsMX8_compareSize_in8 hown hK hP (ta) (WW_o (by omega)) rfl 0 (by decide) (hts _ hm_m_X8_compareSize_1) (fun _ h9 => h9) rfl dX8_compareSize_62 ?_
          refine lv_iload_n hx hb dX8_compareSize_65 rfl (lv_at hl 0 rfl) ?_
          refine va_lald (cA := kw) (n := 14) (f := (wG ta)) hx hb hK hP (nW + ta) 0 (WW_a (by omega)) rfl (vp_in_iff.mpr ⟨(by omega), (Int.lt_of_le_of_lt (b_l2_x35.2) (by decide))⟩) dX8_compareSize_66 ?_
          refine lv_topl (fun v13 hv13 => ?_)
          clear hv13
          refine W.lcmp hx hb dX8_compareSize_67 ?_
          refine W.cut (pc := 76) (fun H locs ls stk => ∃ (k0_j7 : Int32), ((-1) ≤ k0_j7.toInt ∧ k0_j7.toInt ≤ 1) ∧  stk = [.int k0_j7] ∧ va_P (dC, dI) vwCl (WW nW hw lw kw wl wb wG) H ∧ va_D A (WW nW hw lw kw wl wb wG) ∧ va_S A s.heap H locs ∧ lv_has ls 3 [(2, .int l2_x35), (0, .ref (hw tt)), (1, .ref (hw ta))]) (fun join7 => ?_) ?_
          · refine lv_if_ge (tgt := 75) hx hb dX8_compareSize_68 (by decide) (fun c_68 => ?_) (fun c_68 => ?_)
            · have t_68 : v12.toInt ≥ v13.toInt := toL_ge c_68 rfl rfl
              refine lv_iconst (v := 1) hx hb dX8_compareSize_75 (by decide) ?_
              have hl : lv_has _ _ ([(2, .int l2_x35), (0, .ref (hw tt)), (1, .ref (hw ta))]) := lv_sub hl [0, 1, 2] rfl
              exact join7 _ _ _ _ ⟨1, (show (-1) ≤ (1 : Int32).toInt ∧ (1 : Int32).toInt ≤ 1 from by decide), rfl, hP, hD, hS, hl⟩
            · have t_68 : ¬ v12.toInt ≥ v13.toInt := toL_nge c_68 rfl rfl
              refine lv_iconst (v := (-1)) hx hb dX8_compareSize_71 (by decide) ?_
              refine lv_goto (tgt := 76) hx hb dX8_compareSize_72 (by decide) ?_
              have hl : lv_has _ _ ([(2, .int l2_x35), (0, .ref (hw tt)), (1, .ref (hw ta))]) := lv_sub hl [0, 1, 2] rfl
              exact join7 _ _ _ _ ⟨(-1), (show (-1) ≤ ((-1) : Int32).toInt ∧ ((-1) : Int32).toInt ≤ 1 from by decide), rfl, hP, hD, hS, hl⟩
          · rintro H locs ls stk ⟨k0_j7, b_k0_j7, rfl, hP, hD, hS, hl⟩
            refine W.widen (k := 0) (n := 0) (by decide +kernel) (by decide +kernel) ?_
            exact W.iret (v := k0_j7) hx hb hr (fun t9_ ht hW => ⟨⟨k0_j7, (), rfl, (b_k0_j7), by rw [ht]; exact hP, hD⟩, hS.F ht⟩) hS.2.2 dX8_compareSize_76
  · have t_8 : ¬ (wl tt).toInt = (wl ta).toInt := toI_neq c_8 rfl rfl
    refine lv_aload_n hx hb dX8_compareSize_11 rfl (lv_at hl 0 rfl) ?_
    refine va_get (D := (dC, dI)) (ci := 8) (v := .int (wl tt)) (C := RX8) (T := TX8) (N := 3) hx hb hts iwsMX8_compareSize_in8 hown hK hP (tt) (WW_o (by omega)) rfl 1 (by decide) (hts _ hm_m_X8_compareSize_0) (fun _ h9 => h9) rfl dX8_compareSize_12 ?_
    have br12 := b_wl tt
    refine lv_aload_n hx hb dX8_compareSize_15 rfl (lv_at hl 1 rfl) ?_
    refine va_get (D := (dC, dI)) (ci := 8) (v := .int (wl ta)) (C := RX8) (T := TX8) (N := 3) hx hb hts iwsMX8_compareSize_in8 hown hK hP (ta) (WW_o (by omega)) rfl 1 (by decide) (hts _ hm_m_X8_compareSize_0) (fun _ h9 => h9) rfl dX8_compareSize_16 ?_
    have br16 := b_wl ta
    refine W.cut (pc := 27) (fun H locs ls stk => ∃ (k0_j8 : Int32), ((-1) ≤ k0_j8.toInt ∧ k0_j8.toInt ≤ 1) ∧  stk = [.int k0_j8] ∧ va_P (dC, dI) vwCl (WW nW hw lw kw wl wb wG) H ∧ va_D A (WW nW hw lw kw wl wb wG) ∧ va_S A s.heap H locs ∧ lv_has ls 3 [(0, .ref (hw tt)), (1, .ref (hw ta))]) (fun join8 => ?_) ?_
    · refine lv_icmp_ge (tgt := 26) hx hb dX8_compareSize_19 (by decide) (fun c_19 => ?_) (fun c_19 => ?_)
      · have t_19 : (wl tt).toInt ≥ (wl ta).toInt := toI_ge c_19 rfl rfl
        refine lv_iconst (v := 1) hx hb dX8_compareSize_26 (by decide) ?_
        have hl : lv_has _ _ ([(0, .ref (hw tt)), (1, .ref (hw ta))]) := lv_sub hl [0, 1] rfl
        exact join8 _ _ _ _ ⟨1, (show (-1) ≤ (1 : Int32).toInt ∧ (1 : Int32).toInt ≤ 1 from by decide), rfl, hP, hD, hS, hl⟩
      · have t_19 : ¬ (wl tt).toInt ≥ (wl ta).toInt := toI_nge c_19 rfl rfl
        refine lv_iconst (v := (-1)) hx hb dX8_compareSize_22 (by decide) ?_
        refine lv_goto (tgt := 27) hx hb dX8_compareSize_23 (by decide) ?_
        have hl : lv_has _ _ ([(0, .ref (hw tt)), (1, .ref (hw ta))]) := lv_sub hl [0, 1] rfl
        exact join8 _ _ _ _ ⟨(-1), (show (-1) ≤ ((-1) : Int32).toInt ∧ ((-1) : Int32).toInt ≤ 1 from by decide), rfl, hP, hD, hS, hl⟩
    · rintro H locs ls stk ⟨k0_j8, b_k0_j8, rfl, hP, hD, hS, hl⟩
      refine W.widen (k := 0) (n := 0) (by decide +kernel) (by decide +kernel) ?_
      exact W.iret (v := k0_j8) hx hb hr (fun t9_ ht hW => ⟨⟨k0_j8, (), rfl, (b_k0_j8), by rw [ht]; exact hP, hD⟩, hS.F ht⟩) hS.2.2 dX8_compareSize_27
theorem dX8_addSize_0 : decode cX8_addSize 0 = .ok (.aload_n 0, 1) := dk_42 (by decide +kernel)
theorem dX8_addSize_1 : decode cX8_addSize 1 = .ok (.getfield 17, 3) := dk_180 (by decide +kernel)
theorem dX8_addSize_4 : decode cX8_addSize 4 = .ok (.aload_n 1, 1) := dk_43 (by decide +kernel)
theorem dX8_addSize_5 : decode cX8_addSize 5 = .ok (.getfield 17, 3) := dk_180 (by decide +kernel)
theorem dX8_addSize_8 : decode cX8_addSize 8 = .ok (.invokestatic 44, 3) := dk_184 (by decide +kernel)
theorem dX8_addSize_11 : decode cX8_addSize 11 = .ok (.istore_n 2, 1) := dk_61 (by decide +kernel)
theorem dX8_addSize_12 : decode cX8_addSize 12 = .ok (.lconst 0, 1) := dk_9 (by decide +kernel)
theorem dX8_addSize_13 : decode cX8_addSize 13 = .ok (.lstore_n 3, 1) := dk_66 (by decide +kernel)
theorem dX8_addSize_14 : decode cX8_addSize 14 = .ok (.iconst 0, 1) := dk_3 (by decide +kernel)
theorem dX8_addSize_15 : decode cX8_addSize 15 = .ok (.istore 5, 2) := dk_54 (by decide +kernel)
theorem dX8_addSize_17 : decode cX8_addSize 17 = .ok (.iload 5, 2) := dk_21 (by decide +kernel)
theorem dX8_addSize_19 : decode cX8_addSize 19 = .ok (.iload_n 2, 1) := dk_28 (by decide +kernel)
theorem dX8_addSize_20 : decode cX8_addSize 20 = .ok (.if_icmp .ge 73, 3) := dk_162 (by decide +kernel)
theorem dX8_addSize_23 : decode cX8_addSize 23 = .ok (.iload 5, 2) := dk_21 (by decide +kernel)
theorem dX8_addSize_25 : decode cX8_addSize 25 = .ok (.aload_n 0, 1) := dk_42 (by decide +kernel)
theorem dX8_addSize_26 : decode cX8_addSize 26 = .ok (.getfield 17, 3) := dk_180 (by decide +kernel)
theorem dX8_addSize_29 : decode cX8_addSize 29 = .ok (.if_icmp .ge 13, 3) := dk_162 (by decide +kernel)
theorem dX8_addSize_32 : decode cX8_addSize 32 = .ok (.aload_n 0, 1) := dk_42 (by decide +kernel)
theorem dX8_addSize_33 : decode cX8_addSize 33 = .ok (.getfield 9, 3) := dk_180 (by decide +kernel)
theorem dX8_addSize_36 : decode cX8_addSize 36 = .ok (.iload 5, 2) := dk_21 (by decide +kernel)
theorem dX8_addSize_38 : decode cX8_addSize 38 = .ok (.laload, 1) := dk_47 (by decide +kernel)
theorem dX8_addSize_39 : decode cX8_addSize 39 = .ok (.goto 4, 3) := dk_167 (by decide +kernel)
theorem dX8_addSize_42 : decode cX8_addSize 42 = .ok (.lconst 0, 1) := dk_9 (by decide +kernel)
theorem dX8_addSize_43 : decode cX8_addSize 43 = .ok (.iload 5, 2) := dk_21 (by decide +kernel)
theorem dX8_addSize_45 : decode cX8_addSize 45 = .ok (.aload_n 1, 1) := dk_43 (by decide +kernel)
theorem dX8_addSize_46 : decode cX8_addSize 46 = .ok (.getfield 17, 3) := dk_180 (by decide +kernel)
theorem dX8_addSize_49 : decode cX8_addSize 49 = .ok (.if_icmp .ge 13, 3) := dk_162 (by decide +kernel)
theorem dX8_addSize_52 : decode cX8_addSize 52 = .ok (.aload_n 1, 1) := dk_43 (by decide +kernel)
theorem dX8_addSize_53 : decode cX8_addSize 53 = .ok (.getfield 9, 3) := dk_180 (by decide +kernel)
theorem dX8_addSize_56 : decode cX8_addSize 56 = .ok (.iload 5, 2) := dk_21 (by decide +kernel)
theorem dX8_addSize_58 : decode cX8_addSize 58 = .ok (.laload, 1) := dk_47 (by decide +kernel)
theorem dX8_addSize_59 : decode cX8_addSize 59 = .ok (.goto 4, 3) := dk_167 (by decide +kernel)
theorem dX8_addSize_62 : decode cX8_addSize 62 = .ok (.lconst 0, 1) := dk_9 (by decide +kernel)
theorem dX8_addSize_63 : decode cX8_addSize 63 = .ok (.ladd, 1) := dk_97 (by decide +kernel)
theorem dX8_addSize_64 : decode cX8_addSize 64 = .ok (.lload_n 3, 1) := dk_33 (by decide +kernel)
theorem dX8_addSize_65 : decode cX8_addSize 65 = .ok (.ladd, 1) := dk_97 (by decide +kernel)
theorem dX8_addSize_66 : decode cX8_addSize 66 = .ok (.lstore 6, 2) := dk_55 (by decide +kernel)
theorem dX8_addSize_68 : decode cX8_addSize 68 = .ok (.aload_n 0, 1) := dk_42 (by decide +kernel)
theorem dX8_addSize_69 : decode cX8_addSize 69 = .ok (.getfield 9, 3) := dk_180 (by decide +kernel)
theorem dX8_addSize_72 : decode cX8_addSize 72 = .ok (.iload 5, 2) := dk_21 (by decide +kernel)
theorem dX8_addSize_74 : decode cX8_addSize 74 = .ok (.lload 6, 2) := dk_22 (by decide +kernel)
theorem dX8_addSize_76 : decode cX8_addSize 76 = .ok (.ldc2_w 21, 3) := dk_20 (by decide +kernel)
theorem dX8_addSize_79 : decode cX8_addSize 79 = .ok (.land, 1) := dk_127 (by decide +kernel)
theorem dX8_addSize_80 : decode cX8_addSize 80 = .ok (.lastore, 1) := dk_80 (by decide +kernel)
theorem dX8_addSize_81 : decode cX8_addSize 81 = .ok (.lload 6, 2) := dk_22 (by decide +kernel)
theorem dX8_addSize_83 : decode cX8_addSize 83 = .ok (.bipush 30, 2) := dk_16 (by decide +kernel)
theorem dX8_addSize_85 : decode cX8_addSize 85 = .ok (.lushr, 1) := dk_125 (by decide +kernel)
theorem dX8_addSize_86 : decode cX8_addSize 86 = .ok (.lstore_n 3, 1) := dk_66 (by decide +kernel)
theorem dX8_addSize_87 : decode cX8_addSize 87 = .ok (.iinc 5 1, 3) := dk_132 (by decide +kernel)
theorem dX8_addSize_90 : decode cX8_addSize 90 = .ok (.goto (-73), 3) := dk_167 (by decide +kernel)
theorem dX8_addSize_93 : decode cX8_addSize 93 = .ok (.aload_n 0, 1) := dk_42 (by decide +kernel)
theorem dX8_addSize_94 : decode cX8_addSize 94 = .ok (.iload_n 2, 1) := dk_28 (by decide +kernel)
theorem dX8_addSize_95 : decode cX8_addSize 95 = .ok (.putfield 17, 3) := dk_181 (by decide +kernel)
theorem dX8_addSize_98 : decode cX8_addSize 98 = .ok (.lload_n 3, 1) := dk_33 (by decide +kernel)
theorem dX8_addSize_99 : decode cX8_addSize 99 = .ok (.lconst 0, 1) := dk_9 (by decide +kernel)
theorem dX8_addSize_100 : decode cX8_addSize 100 = .ok (.lcmp, 1) := dk_148 (by decide +kernel)
theorem dX8_addSize_101 : decode cX8_addSize 101 = .ok (.ifCond .eq 26, 3) := dk_153 (by decide +kernel)
theorem dX8_addSize_104 : decode cX8_addSize 104 = .ok (.iload_n 2, 1) := dk_28 (by decide +kernel)
theorem dX8_addSize_105 : decode cX8_addSize 105 = .ok (.bipush 14, 2) := dk_16 (by decide +kernel)
theorem dX8_addSize_107 : decode cX8_addSize 107 = .ok (.if_icmp .ge 20, 3) := dk_162 (by decide +kernel)
theorem dX8_addSize_110 : decode cX8_addSize 110 = .ok (.aload_n 0, 1) := dk_42 (by decide +kernel)
theorem dX8_addSize_111 : decode cX8_addSize 111 = .ok (.getfield 9, 3) := dk_180 (by decide +kernel)
theorem dX8_addSize_114 : decode cX8_addSize 114 = .ok (.iload_n 2, 1) := dk_28 (by decide +kernel)
theorem dX8_addSize_115 : decode cX8_addSize 115 = .ok (.lload_n 3, 1) := dk_33 (by decide +kernel)
theorem dX8_addSize_116 : decode cX8_addSize 116 = .ok (.lastore, 1) := dk_80 (by decide +kernel)
theorem dX8_addSize_117 : decode cX8_addSize 117 = .ok (.aload_n 0, 1) := dk_42 (by decide +kernel)
theorem dX8_addSize_118 : decode cX8_addSize 118 = .ok (.dup, 1) := dk_89 (by decide +kernel)
theorem dX8_addSize_119 : decode cX8_addSize 119 = .ok (.getfield 17, 3) := dk_180 (by decide +kernel)
theorem dX8_addSize_122 : decode cX8_addSize 122 = .ok (.iconst 1, 1) := dk_4 (by decide +kernel)
theorem dX8_addSize_123 : decode cX8_addSize 123 = .ok (.iadd, 1) := dk_96 (by decide +kernel)
theorem dX8_addSize_124 : decode cX8_addSize 124 = .ok (.putfield 17, 3) := dk_181 (by decide +kernel)
theorem dX8_addSize_127 : decode cX8_addSize 127 = .ok (.return_, 1) := dk_177 (by decide +kernel)
def wsMX8_addSize : List Cond := .code yX8_addSize cX8_addSize 8 none :: ([.fieldLink RX8 17 "OptimaWorks$Whole" "length" "I", .methodLink RX8 44 Lib.Math.max.name, .static Lib.Math.max.name, .initialized "java/lang/Math", .code Lib.Math.max.name Lib.Math.max.code 2 (some .int), .fieldLink RX8 9 "OptimaWorks$Whole" "limb" "[J", .constantLong RX8 21 1073741823] ++ wsX80)
theorem iwsMX8_addSize_in8 : ∀ w ∈ wsX80, w ∈ wsMX8_addSize := fun _ h => List.mem_cons_of_mem _ (List.mem_append_right _ h)
theorem gdwsMX8_addSize : wsMX8_addSize.all goodWord = true := gdC rfl (gdA (by decide +kernel : ([.fieldLink RX8 17 "OptimaWorks$Whole" "length" "I", .methodLink RX8 44 Lib.Math.max.name, .static Lib.Math.max.name, .initialized "java/lang/Math", .code Lib.Math.max.name Lib.Math.max.code 2 (some .int), .fieldLink RX8 9 "OptimaWorks$Whole" "limb" "[J", .constantLong RX8 21 1073741823] : List Cond).all goodWord = true) gdwsX80)
theorem hm_m_X8_addSize_0 : (.fieldLink RX8 17 "OptimaWorks$Whole" "length" "I" : Cond) ∈ wsMX8_addSize := by decide +kernel
theorem hm_m_X8_addSize_1 : (.fieldLink RX8 9 "OptimaWorks$Whole" "limb" "[J" : Cond) ∈ wsMX8_addSize := by decide +kernel
set_option maxHeartbeats 4000000 in
set_option maxRecDepth 100000 in
/-- sizes added -/
theorem m_X8_addSize (l : Launch) (dC : Nat → ClassId) (dI : Nat → Nat → Nat) (nW : Nat) (hw : Nat → Nat) (lw : Nat → Nat) (kw : ClassId) (wl : Nat → Int32) (wb : Nat → Int32) (wG : Nat → Nat → Int64) (tt : Nat) (ta : Nat) (b_wl : ∀ q : Nat, 0 ≤ (wl q).toInt ∧ (wl q).toInt ≤ 14) (b_wb : ∀ q : Nat, 0 ≤ (wb q).toInt ∧ (wb q).toInt ≤ 1) (htt : tt < nW) (hta : ta < nW) (sz : Nat) : Met l yX8_addSize wsMX8_addSize ({ frames := 1, cells := 0, slots := 0, locals := 13 }) (va_Pc [.ref (hw tt), .ref (hw ta)] (fun U => U.heap.size = sz ∧ va_P (dC, dI) vwCl (WW nW hw lw kw wl wb wG) U.heap ∧ va_K (dC, dI) vwCl (tW kw) U ∧ va_D (fun _ => True) (WW nW hw lw kw wl wb wG))) (va_Qv (fun (u : (Nat → Int32) × (Nat → Nat → Int64)) => (∀ q : Nat, 0 ≤ ((u.1) q).toInt ∧ ((u.1) q).toInt ≤ 14)) (fun (u : (Nat → Int32) × (Nat → Nat → Int64)) t => va_P (dC, dI) vwCl (WW nW hw lw kw (u.1) wb (u.2)) t.heap ∧ va_D (va_A (WW nW hw lw kw wl wb wG) sz) (WW nW hw lw kw (u.1) wb (u.2))) (va_A (WW nW hw lw kw wl wb wG) sz)) 0 0 (va_A (WW nW hw lw kw wl wb wG) sz) := by
  refine Met.ofW (cc := cX8_addSize) (maxL := 8) (ret := none) (by decide) rfl ?_
  intro p e s m args below meth c s₁ B hml hv
  obtain ⟨rfl, hsz, hP, hK, hD0⟩ := hv
  have hx := B.exec
  have hb := B.bytes
  have hr := B.returns
  have hts := atoms_spec (ws := wsMX8_addSize) B.pre
  have hown : s.vm.findClass RX8 = some m.cls := findClass_of_methodNamed B.named
  have hlocks := B.notSynchronized
  subst hsz
  have hD := hD0.self (sz := s.heap.size)
  generalize hAe : va_A (WW nW hw lw kw wl wb wG) s.heap.size = A at hD ⊢
  have hA : ∀ q : Nat, s.heap.size ≤ q → A q := fun q h => by rw [← hAe]; exact Or.inr h
  have hS : va_S A s.heap s.heap [] := va_S.rf
  have hl := lv_entry ([.ref (hw tt), .ref (hw ta)]) (n := 8) (Nat.le_of_ble_eq_true rfl)
  rw [lg_entry_eq]
  generalize (lg_sl ([.ref (hw tt), .ref (hw ta)]) ++ List.replicate (8 - (lg_sl ([.ref (hw tt), .ref (hw ta)])).length) Slot.unset).toArray = ls at hl ⊢
  have hl : lv_has ls 8 [(0, .ref (hw tt)), (1, .ref (hw ta))] := hl
  refine lv_aload_n hx hb dX8_addSize_0 rfl (lv_at hl 0 rfl) ?_
  refine va_get (D := (dC, dI)) (ci := 8) (v := .int (wl tt)) (C := RX8) (T := TX8) (N := 3) hx hb hts iwsMX8_addSize_in8 hown hK hP (tt) (WW_o (by omega)) rfl 1 (by decide) (hts _ hm_m_X8_addSize_0) (fun _ h9 => h9) rfl dX8_addSize_1 ?_
  have br1 := b_wl tt
  refine lv_aload_n hx hb dX8_addSize_4 rfl (lv_at hl 1 rfl) ?_
  refine va_get (D := (dC, dI)) (ci := 8) (v := .int (wl ta)) (C := RX8) (T := TX8) (N := 3) hx hb hts iwsMX8_addSize_in8 hown hK hP (ta) (WW_o (by omega)) rfl 1 (by decide) (hts _ hm_m_X8_addSize_0) (fun _ h9 => h9) rfl dX8_addSize_5 ?_
  have br5 := b_wl ta
  refine va_mmax hx hb (by rw [hml]; exact hl.1.symm) hown (hts (.methodLink RX8 44 Lib.Math.max.name) (by decide +kernel)) (hts (.static Lib.Math.max.name) (by decide +kernel)) (hts (.initialized "java/lang/Math") (by decide +kernel)) (hts (.code Lib.Math.max.name Lib.Math.max.code 2 (some .int)) (by decide +kernel)) (by decide +kernel) (Nat.le_of_ble_eq_true rfl) (by decide +kernel) (by decide +kernel) dX8_addSize_8 ?_
  refine lv_topi (fun v1 hv1 => ?_)
  have b_v1 : ((wl tt).toInt ≤ v1.toInt ∧ (wl ta).toInt ≤ v1.toInt) ∧ (v1.toInt = (wl tt).toInt ∨ v1.toInt = (wl ta).toInt) := by rw [hv1]; exact max_t rfl rfl
  clear hv1
  refine lv_istore_n hx hb dX8_addSize_11 rfl hl (by decide) rfl (fun ls (hl : lv_has ls _ ([(2, .int v1), (0, .ref (hw tt)), (1, .ref (hw ta))])) => ?_)
  refine lv_lconst (v := 0) hx hb dX8_addSize_12 (by decide) ?_
  refine lv_lstore_n hx hb dX8_addSize_13 rfl hl (by decide) rfl (fun ls (hl : lv_has ls _ ([(3, .long 0), (2, .int v1), (0, .ref (hw tt)), (1, .ref (hw ta))])) => ?_)
  refine lv_iconst (v := 0) hx hb dX8_addSize_14 (by decide) ?_
  refine lv_istore hx hb dX8_addSize_15 hl (by decide) rfl (fun ls (hl : lv_has ls _ ([(5, .int 0), (3, .long 0), (2, .int v1), (0, .ref (hw tt)), (1, .ref (hw ta))])) => ?_)
  have hl : lv_has _ _ ([(5, .int 0), (3, .long 0), (2, .int v1), (0, .ref (hw tt)), (1, .ref (hw ta))]) := lv_sub hl [0, 1, 2, 3, 4] rfl
  refine (fun (loop : ∀ (n9 : Nat) (wG_x17 : Nat → Nat → Int64) (l5_x17 : Int32) (l3_x17 : Int64) (H : Heap) (locs : List Loc) (ls : Array Slot), (0 ≤ l5_x17.toInt ∧ l5_x17.toInt ≤ 14) → (14 - l5_x17.toInt < ((n9 : Nat) : Int)) → va_P (dC, dI) vwCl (WW nW hw lw kw wl wb wG_x17) H → va_D A (WW nW hw lw kw wl wb wG_x17) → va_S A s.heap H locs → lv_has ls 8 [(5, .int l5_x17), (3, .long l3_x17), (2, .int v1), (0, .ref (hw tt)), (1, .ref (hw ta))] → W p l e _ s m _ below meth c H locs 0 0 _ (F0 m 17 ls [])) => loop (15) wG 0 0 _ _ _ (show 0 ≤ (0 : Int32).toInt ∧ (0 : Int32).toInt ≤ 14 from by decide) ((by have e9 : (0 : Int32).toInt = 0 := (by decide : (0 : Int32).toInt = 0); omega)) hP hD hS hl) ?_
  intro n9
  induction n9 with
  | zero => intro wG_x17 l5_x17 l3_x17 H locs ls b_l5_x17 hf9; exact False.elim (by omega)
  | succ n9 ihx17 =>
    intro wG_x17 l5_x17 l3_x17 H locs ls b_l5_x17 hfx17 hP hD hS hl
    refine lv_iload hx hb dX8_addSize_17 (lv_at hl 0 rfl) ?_
    refine lv_iload_n hx hb dX8_addSize_19 rfl (lv_at hl 2 rfl) ?_
    refine lv_icmp_ge (tgt := 93) hx hb dX8_addSize_20 (by decide) (fun c_20 => ?_) (fun c_20 => ?_)
    · have t_20 : l5_x17.toInt ≥ v1.toInt := toI_ge c_20 rfl rfl
      refine lv_aload_n hx hb dX8_addSize_93 rfl (lv_at hl 3 rfl) ?_
      refine lv_iload_n hx hb dX8_addSize_94 rfl (lv_at hl 2 rfl) ?_
      refine va_put (D := (dC, dI)) (ci := 8) (v := .int v1) (ty := .int) (C := RX8) (T := TX8) (N := 3) hx hb hts iwsMX8_addSize_in8 tyX8 tyX8_ok nmX8 hown hK hP hD hS (tt) (WW_o (by omega)) rfl 1 (by decide) (hts _ hm_m_X8_addSize_0) (fun _ h9 => h9) rfl (by decide +kernel) rfl rfl (Nat.le_of_ble_eq_true rfl) dX8_addSize_95 (fun H locs hP hD hS => ?_)
      obtain ⟨u56, hu56⟩ : ∃ f9, f9 = fT wl tt v1 := ⟨_, rfl⟩
      have hP : va_P (dC, dI) vwCl (WW nW hw lw kw u56 wb wG_x17) H := by rw [hu56]; exact Eq.mp (congrArg (fun z9 => va_P (dC, dI) vwCl z9 H) (WW_sl (by omega) v1)) hP
      have hD : va_D A (WW nW hw lw kw u56 wb wG_x17) := by rw [hu56]; exact Eq.mp (congrArg (fun z9 => va_D A z9) (WW_sl (by omega) v1)) hD
      have b_u56 : ∀ q : Nat, 0 ≤ (u56 q).toInt ∧ (u56 q).toInt ≤ 14 := by rw [hu56]; exact fT_r b_wl (by first | exact b_v1 | with_reducible assumption | exact ⟨by omega, by omega⟩ | assumption)
      have q_u56 : (u56 tt).toInt = v1.toInt := by rw [hu56, fT_eq]
      clear hu56
      refine lv_lload_n hx hb dX8_addSize_98 rfl (lv_at hl 1 rfl) ?_
      refine lv_lconst (v := 0) hx hb dX8_addSize_99 (by decide) ?_
      refine W.lcmp hx hb dX8_addSize_100 ?_
      refine W.cut (pc := 127) (fun H locs ls stk => ∃ (wl_j26 : Nat → Int32) (wG_j26 : Nat → Nat → Int64), (∀ q : Nat, 0 ≤ (wl_j26 q).toInt ∧ (wl_j26 q).toInt ≤ 14) ∧  stk = [] ∧ va_P (dC, dI) vwCl (WW nW hw lw kw wl_j26 wb wG_j26) H ∧ va_D A (WW nW hw lw kw wl_j26 wb wG_j26) ∧ va_S A s.heap H locs ∧ lv_has ls 8 [(5, .int l5_x17), (3, .long l3_x17), (2, .int v1), (0, .ref (hw tt)), (1, .ref (hw ta))]) (fun join26 => ?_) ?_
      · refine lv_if_eq (tgt := 127) hx hb dX8_addSize_101 (by decide) (fun c_101 => ?_) (fun c_101 => ?_)
        · have t_101 : l3_x17.toInt = 0 := toL_eq c_101 rfl (by decide : (0 : Int64).toInt = 0)
          have hl : lv_has _ _ ([(5, .int l5_x17), (3, .long l3_x17), (2, .int v1), (0, .ref (hw tt)), (1, .ref (hw ta))]) := lv_sub hl [0, 1, 2, 3, 4] rfl
          exact join26 _ _ _ _ ⟨u56, wG_x17, b_u56, rfl, hP, hD, hS, hl⟩
        · have t_101 : ¬ l3_x17.toInt = 0 := toL_neq c_101 rfl (by decide : (0 : Int64).toInt = 0)
          refine lv_iload_n hx hb dX8_addSize_104 rfl (lv_at hl 2 rfl) ?_
          refine lv_bipush (v := 14) hx hb dX8_addSize_105 (by decide) ?_
          refine lv_icmp_ge (tgt := 127) hx hb dX8_addSize_107 (by decide) (fun c_107 => ?_) (fun c_107 => ?_)
          · have t_107 : v1.toInt ≥ 14 := toI_ge c_107 rfl (by decide : (14 : Int32).toInt = 14)
            have hl : lv_has _ _ ([(5, .int l5_x17), (3, .long l3_x17), (2, .int v1), (0, .ref (hw tt)), (1, .ref (hw ta))]) := lv_sub hl [0, 1, 2, 3, 4] rfl
            exact join26 _ _ _ _ ⟨u56, wG_x17, b_u56, rfl, hP, hD, hS, hl⟩
          · have t_107 : ¬ v1.toInt ≥ 14 := toI_nge c_107 rfl (by decide : (14 : Int32).toInt = 14)
            refine lv_aload_n hx hb dX8_addSize_110 rfl (lv_at hl 3 rfl) ?_
            refine va_get (D := (dC, dI)) (ci := 8) (v := .ref (lw tt)) (C := RX8) (T := TX8) (N := 3) hx hb hts iwsMX8_addSize_in8 hown hK hP (tt) (WW_o (by omega)) rfl 0 (by decide) (hts _ hm_m_X8_addSize_1) (fun _ h9 => h9) rfl dX8_addSize_111 ?_
            refine lv_iload_n hx hb dX8_addSize_114 rfl (lv_at hl 2 rfl) ?_
            refine lv_lload_n hx hb dX8_addSize_115 rfl (lv_at hl 1 rfl) ?_
            refine va_last (cA := kw) (n := 14) (f := (wG_x17 tt)) hx hb hK hP hD hS (nW + tt) 0 (WW_a (by omega)) rfl (vp_in_iff.mpr ⟨(by omega), (Int.lt_of_lt_of_le (Int.not_le.mp t_107) (by decide))⟩) dX8_addSize_116 (fun H locs hP hD hS => ?_)
            obtain ⟨u60, hu60⟩ : ∃ f9, f9 = fT wG_x17 tt (vp_updL (wG_x17 tt) (v1).toNatClampNeg l3_x17) := ⟨_, rfl⟩
            have hP : va_P (dC, dI) vwCl (WW nW hw lw kw u56 wb u60) H := by rw [hu60]; exact Eq.mp (congrArg (fun z9 => va_P (dC, dI) vwCl z9 H) (WW_sg (by omega) (vp_updL (wG_x17 tt) (v1).toNatClampNeg l3_x17))) hP
            have hD : va_D A (WW nW hw lw kw u56 wb u60) := by rw [hu60]; exact Eq.mp (congrArg (fun z9 => va_D A z9) (WW_sg (by omega) (vp_updL (wG_x17 tt) (v1).toNatClampNeg l3_x17))) hD
            clear hu60
            refine lv_aload_n hx hb dX8_addSize_117 rfl (lv_at hl 3 rfl) ?_
            refine lv_dup hx hb dX8_addSize_118 rfl ?_
            refine va_get (D := (dC, dI)) (ci := 8) (v := .int (u56 tt)) (C := RX8) (T := TX8) (N := 3) hx hb hts iwsMX8_addSize_in8 hown hK hP (tt) (WW_o (by omega)) rfl 1 (by decide) (hts _ hm_m_X8_addSize_0) (fun _ h9 => h9) rfl dX8_addSize_119 ?_
            have br119 := b_u56 tt
            refine lv_iconst (v := 1) hx hb dX8_addSize_122 (by decide) ?_
            refine lv_iadd hx hb dX8_addSize_123 ?_
            refine lv_topi (fun y61 hy61 => ?_)
            obtain rfl : (iI ((u56 tt).toInt + 1)) = y61 := (hy61.trans (iI_add2 (iI_of _) (by decide : (1 : Int32) = iI 1))).symm
            refine va_put (D := (dC, dI)) (ci := 8) (v := .int (iI ((u56 tt).toInt + 1))) (ty := .int) (C := RX8) (T := TX8) (N := 3) hx hb hts iwsMX8_addSize_in8 tyX8 tyX8_ok nmX8 hown hK hP hD hS (tt) (WW_o (by omega)) rfl 1 (by decide) (hts _ hm_m_X8_addSize_0) (fun _ h9 => h9) rfl (by decide +kernel) rfl rfl (Nat.le_of_ble_eq_true rfl) dX8_addSize_124 (fun H locs hP hD hS => ?_)
            obtain ⟨u62, hu62⟩ : ∃ f9, f9 = fT u56 tt (iI ((u56 tt).toInt + 1)) := ⟨_, rfl⟩
            have hP : va_P (dC, dI) vwCl (WW nW hw lw kw u62 wb u60) H := by rw [hu62]; exact Eq.mp (congrArg (fun z9 => va_P (dC, dI) vwCl z9 H) (WW_sl (by omega) (iI ((u56 tt).toInt + 1)))) hP
            have hD : va_D A (WW nW hw lw kw u62 wb u60) := by rw [hu62]; exact Eq.mp (congrArg (fun z9 => va_D A z9) (WW_sl (by omega) (iI ((u56 tt).toInt + 1)))) hD
            have b_u62 : ∀ q : Nat, 0 ≤ (u62 q).toInt ∧ (u62 q).toInt ≤ 14 := by rw [hu62]; exact fT_r b_u56 (iI_rng (by omega) (by omega) (by decide) (by decide))
            have q_u62 : (u62 tt).toInt = ((u56 tt).toInt + 1) := by rw [hu62, fT_eq]; exact (iI_t (by omega) (by omega))
            clear hu62
            have hl : lv_has _ _ ([(5, .int l5_x17), (3, .long l3_x17), (2, .int v1), (0, .ref (hw tt)), (1, .ref (hw ta))]) := lv_sub hl [0, 1, 2, 3, 4] rfl
            exact join26 _ _ _ _ ⟨u62, u60, b_u62, rfl, hP, hD, hS, hl⟩
      · rintro H locs ls stk ⟨wl_j26, wG_j26, b_wl_j26, rfl, hP, hD, hS, hl⟩
        refine W.widen (k := 0) (n := 0) (by decide +kernel) (by decide +kernel) ?_
        exact W.vret hx hb hr (fun t9_ ht hW => ⟨⟨(wl_j26, wG_j26), rfl, b_wl_j26, by rw [ht]; exact hP, hD⟩, hS.F ht⟩) hS.2.2 dX8_addSize_127
    · have t_20 : ¬ l5_x17.toInt ≥ v1.toInt := toI_nge c_20 rfl rfl
      refine lv_iload hx hb dX8_addSize_23 (lv_at hl 0 rfl) ?_
      refine lv_aload_n hx hb dX8_addSize_25 rfl (lv_at hl 3 rfl) ?_
      refine va_get (D := (dC, dI)) (ci := 8) (v := .int (wl tt)) (C := RX8) (T := TX8) (N := 3) hx hb hts iwsMX8_addSize_in8 hown hK hP (tt) (WW_o (by omega)) rfl 1 (by decide) (hts _ hm_m_X8_addSize_0) (fun _ h9 => h9) rfl dX8_addSize_26 ?_
      have br26 := b_wl tt
      refine W.cut (pc := 43) (fun H locs ls stk => ∃ (k0_j27 : Int64),  stk = [.long k0_j27] ∧ va_P (dC, dI) vwCl (WW nW hw lw kw wl wb wG_x17) H ∧ va_D A (WW nW hw lw kw wl wb wG_x17) ∧ va_S A s.heap H locs ∧ lv_has ls 8 [(5, .int l5_x17), (3, .long l3_x17), (2, .int v1), (0, .ref (hw tt)), (1, .ref (hw ta))]) (fun join27 => ?_) ?_
      · refine lv_icmp_ge (tgt := 42) hx hb dX8_addSize_29 (by decide) (fun c_29 => ?_) (fun c_29 => ?_)
        · have t_29 : l5_x17.toInt ≥ (wl tt).toInt := toI_ge c_29 rfl rfl
          refine lv_lconst (v := 0) hx hb dX8_addSize_42 (by decide) ?_
          have hl : lv_has _ _ ([(5, .int l5_x17), (3, .long l3_x17), (2, .int v1), (0, .ref (hw tt)), (1, .ref (hw ta))]) := lv_sub hl [0, 1, 2, 3, 4] rfl
          exact join27 _ _ _ _ ⟨0, rfl, hP, hD, hS, hl⟩
        · have t_29 : ¬ l5_x17.toInt ≥ (wl tt).toInt := toI_nge c_29 rfl rfl
          refine lv_aload_n hx hb dX8_addSize_32 rfl (lv_at hl 3 rfl) ?_
          refine va_get (D := (dC, dI)) (ci := 8) (v := .ref (lw tt)) (C := RX8) (T := TX8) (N := 3) hx hb hts iwsMX8_addSize_in8 hown hK hP (tt) (WW_o (by omega)) rfl 0 (by decide) (hts _ hm_m_X8_addSize_1) (fun _ h9 => h9) rfl dX8_addSize_33 ?_
          refine lv_iload hx hb dX8_addSize_36 (lv_at hl 0 rfl) ?_
          refine va_lald (cA := kw) (n := 14) (f := (wG_x17 tt)) hx hb hK hP (nW + tt) 0 (WW_a (by omega)) rfl (vp_in_iff.mpr ⟨b_l5_x17.1, (by omega)⟩) dX8_addSize_38 ?_
          refine lv_topl (fun v64 hv64 => ?_)
          clear hv64
          refine lv_goto (tgt := 43) hx hb dX8_addSize_39 (by decide) ?_
          have hl : lv_has _ _ ([(5, .int l5_x17), (3, .long l3_x17), (2, .int v1), (0, .ref (hw tt)), (1, .ref (hw ta))]) := lv_sub hl [0, 1, 2, 3, 4] rfl
          exact join27 _ _ _ _ ⟨v64, rfl, hP, hD, hS, hl⟩
      · rintro H locs ls stk ⟨k0_j27, rfl, hP, hD, hS, hl⟩
        refine lv_iload hx hb dX8_addSize_43 (lv_at hl 0 rfl) ?_
        refine lv_aload_n hx hb dX8_addSize_45 rfl (lv_at hl 4 rfl) ?_
        refine va_get (D := (dC, dI)) (ci := 8) (v := .int (wl ta)) (C := RX8) (T := TX8) (N := 3) hx hb hts iwsMX8_addSize_in8 hown hK hP (ta) (WW_o (by omega)) rfl 1 (by decide) (hts _ hm_m_X8_addSize_0) (fun _ h9 => h9) rfl dX8_addSize_46 ?_
        have br46 := b_wl ta
        refine W.cut (pc := 63) (fun H locs ls stk => ∃ (k0_j28 : Int64),  stk = [.long k0_j28, .long k0_j27] ∧ va_P (dC, dI) vwCl (WW nW hw lw kw wl wb wG_x17) H ∧ va_D A (WW nW hw lw kw wl wb wG_x17) ∧ va_S A s.heap H locs ∧ lv_has ls 8 [(5, .int l5_x17), (3, .long l3_x17), (2, .int v1), (0, .ref (hw tt)), (1, .ref (hw ta))]) (fun join28 => ?_) ?_
        · refine lv_icmp_ge (tgt := 62) hx hb dX8_addSize_49 (by decide) (fun c_49 => ?_) (fun c_49 => ?_)
          · have t_49 : l5_x17.toInt ≥ (wl ta).toInt := toI_ge c_49 rfl rfl
            refine lv_lconst (v := 0) hx hb dX8_addSize_62 (by decide) ?_
            have hl : lv_has _ _ ([(5, .int l5_x17), (3, .long l3_x17), (2, .int v1), (0, .ref (hw tt)), (1, .ref (hw ta))]) := lv_sub hl [0, 1, 2, 3, 4] rfl
            exact join28 _ _ _ _ ⟨0, rfl, hP, hD, hS, hl⟩
          · have t_49 : ¬ l5_x17.toInt ≥ (wl ta).toInt := toI_nge c_49 rfl rfl
            refine lv_aload_n hx hb dX8_addSize_52 rfl (lv_at hl 4 rfl) ?_
            refine va_get (D := (dC, dI)) (ci := 8) (v := .ref (lw ta)) (C := RX8) (T := TX8) (N := 3) hx hb hts iwsMX8_addSize_in8 hown hK hP (ta) (WW_o (by omega)) rfl 0 (by decide) (hts _ hm_m_X8_addSize_1) (fun _ h9 => h9) rfl dX8_addSize_53 ?_
            refine lv_iload hx hb dX8_addSize_56 (lv_at hl 0 rfl) ?_
            refine va_lald (cA := kw) (n := 14) (f := (wG_x17 ta)) hx hb hK hP (nW + ta) 0 (WW_a (by omega)) rfl (vp_in_iff.mpr ⟨b_l5_x17.1, (by omega)⟩) dX8_addSize_58 ?_
            refine lv_topl (fun v66 hv66 => ?_)
            clear hv66
            refine lv_goto (tgt := 63) hx hb dX8_addSize_59 (by decide) ?_
            have hl : lv_has _ _ ([(5, .int l5_x17), (3, .long l3_x17), (2, .int v1), (0, .ref (hw tt)), (1, .ref (hw ta))]) := lv_sub hl [0, 1, 2, 3, 4] rfl
            exact join28 _ _ _ _ ⟨v66, rfl, hP, hD, hS, hl⟩
        · rintro H locs ls stk ⟨k0_j28, rfl, hP, hD, hS, hl⟩
          refine lv_ladd hx hb dX8_addSize_63 ?_
          refine lv_topl (fun v67 hv67 => ?_)
          clear hv67
          refine lv_lload_n hx hb dX8_addSize_64 rfl (lv_at hl 1 rfl) ?_
          refine lv_ladd hx hb dX8_addSize_65 ?_
          refine lv_topl (fun v68 hv68 => ?_)
          clear hv68
          refine lv_lstore hx hb dX8_addSize_66 hl (by decide) rfl (fun ls (hl : lv_has ls _ ([(6, .long v68), (5, .int l5_x17), (3, .long l3_x17), (2, .int v1), (0, .ref (hw tt)), (1, .ref (hw ta))])) => ?_)
          refine lv_aload_n hx hb dX8_addSize_68 rfl (lv_at hl 4 rfl) ?_
          refine va_get (D := (dC, dI)) (ci := 8) (v := .ref (lw tt)) (C := RX8) (T := TX8) (N := 3) hx hb hts iwsMX8_addSize_in8 hown hK hP (tt) (WW_o (by omega)) rfl 0 (by decide) (hts _ hm_m_X8_addSize_1) (fun _ h9 => h9) rfl dX8_addSize_69 ?_
          refine lv_iload hx hb dX8_addSize_72 (lv_at hl 1 rfl) ?_
          refine lv_lload hx hb dX8_addSize_74 (lv_at hl 0 rfl) ?_
          refine lv_ldc2 (v := 1073741823) hx hb hown (hts (.constantLong RX8 21 1073741823) (by decide +kernel)) dX8_addSize_76 ?_
          refine lv_land hx hb dX8_addSize_79 ?_
          refine lv_topl (fun v69 hv69 => ?_)
          clear hv69
          refine va_last (cA := kw) (n := 14) (f := (wG_x17 tt)) hx hb hK hP hD hS (nW + tt) 0 (WW_a (by omega)) rfl (vp_in_iff.mpr ⟨b_l5_x17.1, (by omega)⟩) dX8_addSize_80 (fun H locs hP hD hS => ?_)
          obtain ⟨u70, hu70⟩ : ∃ f9, f9 = fT wG_x17 tt (vp_updL (wG_x17 tt) (l5_x17).toNatClampNeg v69) := ⟨_, rfl⟩
          have hP : va_P (dC, dI) vwCl (WW nW hw lw kw wl wb u70) H := by rw [hu70]; exact Eq.mp (congrArg (fun z9 => va_P (dC, dI) vwCl z9 H) (WW_sg (by omega) (vp_updL (wG_x17 tt) (l5_x17).toNatClampNeg v69))) hP
          have hD : va_D A (WW nW hw lw kw wl wb u70) := by rw [hu70]; exact Eq.mp (congrArg (fun z9 => va_D A z9) (WW_sg (by omega) (vp_updL (wG_x17 tt) (l5_x17).toNatClampNeg v69))) hD
          clear hu70
          refine lv_lload hx hb dX8_addSize_81 (lv_at hl 0 rfl) ?_
          refine lv_bipush (v := 30) hx hb dX8_addSize_83 (by decide) ?_
          refine lv_lushr hx hb dX8_addSize_85 rfl ?_
          refine lv_topl (fun v71 hv71 => ?_)
          clear hv71
          refine lv_lstore_n hx hb dX8_addSize_86 rfl hl (by decide) rfl (fun ls (hl : lv_has ls _ ([(3, .long v71), (6, .long v68), (5, .int l5_x17), (2, .int v1), (0, .ref (hw tt)), (1, .ref (hw ta))])) => ?_)
          refine lv_iinc (v := (iI (l5_x17.toInt + 1))) hx hb dX8_addSize_87 hl (k := 2) rfl (iI_add2 (iI_of _) (by decide : (1 : Int32) = iI 1)) (by decide) rfl (fun ls (hl : lv_has ls _ ([(5, .int (iI (l5_x17.toInt + 1))), (3, .long v71), (6, .long v68), (2, .int v1), (0, .ref (hw tt)), (1, .ref (hw ta))])) => ?_)
          refine lv_goto (tgt := 17) hx hb dX8_addSize_90 (by decide) ?_
          have hl : lv_has _ _ ([(5, .int (iI (l5_x17.toInt + 1))), (3, .long v71), (2, .int v1), (0, .ref (hw tt)), (1, .ref (hw ta))]) := lv_sub hl [0, 1, 3, 4, 5] rfl
          exact ihx17 u70 (iI (l5_x17.toInt + 1)) v71 _ _ _ (iI_rng (Int.le_trans (by decide) (Int.add_le_add (b_l5_x17.1) (Int.le_refl _))) (by omega) (by decide) (by decide)) (by have e9 : ((iI (l5_x17.toInt + 1))).toInt = (l5_x17.toInt + 1) := (iI_t (Int.le_trans (by decide) (Int.add_le_add (b_l5_x17.1) (Int.le_refl _))) (Int.le_trans (Int.add_le_add (b_l5_x17.2) (Int.le_refl _)) (by decide))); omega) hP hD hS hl
theorem dX8_takeSize_0 : decode cX8_takeSize 0 = .ok (.aload_n 1, 1) := dk_43 (by decide +kernel)
theorem dX8_takeSize_1 : decode cX8_takeSize 1 = .ok (.getfield 17, 3) := dk_180 (by decide +kernel)
theorem dX8_takeSize_4 : decode cX8_takeSize 4 = .ok (.istore_n 3, 1) := dk_62 (by decide +kernel)
theorem dX8_takeSize_5 : decode cX8_takeSize 5 = .ok (.lconst 0, 1) := dk_9 (by decide +kernel)
theorem dX8_takeSize_6 : decode cX8_takeSize 6 = .ok (.lstore 4, 2) := dk_55 (by decide +kernel)
theorem dX8_takeSize_8 : decode cX8_takeSize 8 = .ok (.iconst 0, 1) := dk_3 (by decide +kernel)
theorem dX8_takeSize_9 : decode cX8_takeSize 9 = .ok (.istore 6, 2) := dk_54 (by decide +kernel)
theorem dX8_takeSize_11 : decode cX8_takeSize 11 = .ok (.iload 6, 2) := dk_21 (by decide +kernel)
theorem dX8_takeSize_13 : decode cX8_takeSize 13 = .ok (.iload_n 3, 1) := dk_29 (by decide +kernel)
theorem dX8_takeSize_14 : decode cX8_takeSize 14 = .ok (.if_icmp .ge 69, 3) := dk_162 (by decide +kernel)
theorem dX8_takeSize_17 : decode cX8_takeSize 17 = .ok (.aload_n 1, 1) := dk_43 (by decide +kernel)
theorem dX8_takeSize_18 : decode cX8_takeSize 18 = .ok (.getfield 9, 3) := dk_180 (by decide +kernel)
theorem dX8_takeSize_21 : decode cX8_takeSize 21 = .ok (.iload 6, 2) := dk_21 (by decide +kernel)
theorem dX8_takeSize_23 : decode cX8_takeSize 23 = .ok (.laload, 1) := dk_47 (by decide +kernel)
theorem dX8_takeSize_24 : decode cX8_takeSize 24 = .ok (.iload 6, 2) := dk_21 (by decide +kernel)
theorem dX8_takeSize_26 : decode cX8_takeSize 26 = .ok (.aload_n 2, 1) := dk_44 (by decide +kernel)
theorem dX8_takeSize_27 : decode cX8_takeSize 27 = .ok (.getfield 17, 3) := dk_180 (by decide +kernel)
theorem dX8_takeSize_30 : decode cX8_takeSize 30 = .ok (.if_icmp .ge 13, 3) := dk_162 (by decide +kernel)
theorem dX8_takeSize_33 : decode cX8_takeSize 33 = .ok (.aload_n 2, 1) := dk_44 (by decide +kernel)
theorem dX8_takeSize_34 : decode cX8_takeSize 34 = .ok (.getfield 9, 3) := dk_180 (by decide +kernel)
theorem dX8_takeSize_37 : decode cX8_takeSize 37 = .ok (.iload 6, 2) := dk_21 (by decide +kernel)
theorem dX8_takeSize_39 : decode cX8_takeSize 39 = .ok (.laload, 1) := dk_47 (by decide +kernel)
theorem dX8_takeSize_40 : decode cX8_takeSize 40 = .ok (.goto 4, 3) := dk_167 (by decide +kernel)
theorem dX8_takeSize_43 : decode cX8_takeSize 43 = .ok (.lconst 0, 1) := dk_9 (by decide +kernel)
theorem dX8_takeSize_44 : decode cX8_takeSize 44 = .ok (.lsub, 1) := dk_101 (by decide +kernel)
theorem dX8_takeSize_45 : decode cX8_takeSize 45 = .ok (.lload 4, 2) := dk_22 (by decide +kernel)
theorem dX8_takeSize_47 : decode cX8_takeSize 47 = .ok (.lsub, 1) := dk_101 (by decide +kernel)
theorem dX8_takeSize_48 : decode cX8_takeSize 48 = .ok (.lstore 7, 2) := dk_55 (by decide +kernel)
theorem dX8_takeSize_50 : decode cX8_takeSize 50 = .ok (.lload 7, 2) := dk_22 (by decide +kernel)
theorem dX8_takeSize_52 : decode cX8_takeSize 52 = .ok (.lconst 0, 1) := dk_9 (by decide +kernel)
theorem dX8_takeSize_53 : decode cX8_takeSize 53 = .ok (.lcmp, 1) := dk_148 (by decide +kernel)
theorem dX8_takeSize_54 : decode cX8_takeSize 54 = .ok (.ifCond .ge 7, 3) := dk_156 (by decide +kernel)
theorem dX8_takeSize_57 : decode cX8_takeSize 57 = .ok (.lconst 1, 1) := dk_10 (by decide +kernel)
theorem dX8_takeSize_58 : decode cX8_takeSize 58 = .ok (.goto 4, 3) := dk_167 (by decide +kernel)
theorem dX8_takeSize_61 : decode cX8_takeSize 61 = .ok (.lconst 0, 1) := dk_9 (by decide +kernel)
theorem dX8_takeSize_62 : decode cX8_takeSize 62 = .ok (.lstore 4, 2) := dk_55 (by decide +kernel)
theorem dX8_takeSize_64 : decode cX8_takeSize 64 = .ok (.aload_n 0, 1) := dk_42 (by decide +kernel)
theorem dX8_takeSize_65 : decode cX8_takeSize 65 = .ok (.getfield 9, 3) := dk_180 (by decide +kernel)
theorem dX8_takeSize_68 : decode cX8_takeSize 68 = .ok (.iload 6, 2) := dk_21 (by decide +kernel)
theorem dX8_takeSize_70 : decode cX8_takeSize 70 = .ok (.lload 7, 2) := dk_22 (by decide +kernel)
theorem dX8_takeSize_72 : decode cX8_takeSize 72 = .ok (.ldc2_w 21, 3) := dk_20 (by decide +kernel)
theorem dX8_takeSize_75 : decode cX8_takeSize 75 = .ok (.land, 1) := dk_127 (by decide +kernel)
theorem dX8_takeSize_76 : decode cX8_takeSize 76 = .ok (.lastore, 1) := dk_80 (by decide +kernel)
theorem dX8_takeSize_77 : decode cX8_takeSize 77 = .ok (.iinc 6 1, 3) := dk_132 (by decide +kernel)
theorem dX8_takeSize_80 : decode cX8_takeSize 80 = .ok (.goto (-69), 3) := dk_167 (by decide +kernel)
theorem dX8_takeSize_83 : decode cX8_takeSize 83 = .ok (.aload_n 0, 1) := dk_42 (by decide +kernel)
theorem dX8_takeSize_84 : decode cX8_takeSize 84 = .ok (.iload_n 3, 1) := dk_29 (by decide +kernel)
theorem dX8_takeSize_85 : decode cX8_takeSize 85 = .ok (.putfield 17, 3) := dk_181 (by decide +kernel)
theorem dX8_takeSize_88 : decode cX8_takeSize 88 = .ok (.return_, 1) := dk_177 (by decide +kernel)
def wsMX8_takeSize : List Cond := .code yX8_takeSize cX8_takeSize 9 none :: ([.fieldLink RX8 17 "OptimaWorks$Whole" "length" "I", .fieldLink RX8 9 "OptimaWorks$Whole" "limb" "[J", .constantLong RX8 21 1073741823] ++ wsX80)
theorem iwsMX8_takeSize_in8 : ∀ w ∈ wsX80, w ∈ wsMX8_takeSize := fun _ h => List.mem_cons_of_mem _ (List.mem_append_right _ h)
theorem gdwsMX8_takeSize : wsMX8_takeSize.all goodWord = true := gdC rfl (gdA (by decide +kernel : ([.fieldLink RX8 17 "OptimaWorks$Whole" "length" "I", .fieldLink RX8 9 "OptimaWorks$Whole" "limb" "[J", .constantLong RX8 21 1073741823] : List Cond).all goodWord = true) gdwsX80)
theorem hm_m_X8_takeSize_0 : (.fieldLink RX8 17 "OptimaWorks$Whole" "length" "I" : Cond) ∈ wsMX8_takeSize := by decide +kernel
theorem hm_m_X8_takeSize_1 : (.fieldLink RX8 9 "OptimaWorks$Whole" "limb" "[J" : Cond) ∈ wsMX8_takeSize := by decide +kernel
set_option maxHeartbeats 4000000 in
set_option maxRecDepth 100000 in
/-- sizes taken off -/
theorem m_X8_takeSize (l : Launch) (dC : Nat → ClassId) (dI : Nat → Nat → Nat) (nW : Nat) (hw : Nat → Nat) (lw : Nat → Nat) (kw : ClassId) (wl : Nat → Int32) (wb : Nat → Int32) (wG : Nat → Nat → Int64) (tt : Nat) (ta : Nat) (tb : Nat) (b_wl : ∀ q : Nat, 0 ≤ (wl q).toInt ∧ (wl q).toInt ≤ 14) (b_wb : ∀ q : Nat, 0 ≤ (wb q).toInt ∧ (wb q).toInt ≤ 1) (htt : tt < nW) (hta : ta < nW) (htb : tb < nW) (sz : Nat) : Met l yX8_takeSize wsMX8_takeSize ({ frames := 0, cells := 0, slots := 0, locals := 0 }) (va_Pc [.ref (hw tt), .ref (hw ta), .ref (hw tb)] (fun U => U.heap.size = sz ∧ va_P (dC, dI) vwCl (WW nW hw lw kw wl wb wG) U.heap ∧ va_K (dC, dI) vwCl (tW kw) U ∧ va_D (fun _ => True) (WW nW hw lw kw wl wb wG))) (va_Qv (fun (u : (Nat → Int32) × (Nat → Nat → Int64)) => (∀ q : Nat, 0 ≤ ((u.1) q).toInt ∧ ((u.1) q).toInt ≤ 14)) (fun (u : (Nat → Int32) × (Nat → Nat → Int64)) t => va_P (dC, dI) vwCl (WW nW hw lw kw (u.1) wb (u.2)) t.heap ∧ va_D (va_A (WW nW hw lw kw wl wb wG) sz) (WW nW hw lw kw (u.1) wb (u.2))) (va_A (WW nW hw lw kw wl wb wG) sz)) 0 0 (va_A (WW nW hw lw kw wl wb wG) sz) := by
  refine Met.ofW (cc := cX8_takeSize) (maxL := 9) (ret := none) (by decide) rfl ?_
  intro p e s m args below meth c s₁ B hml hv
  obtain ⟨rfl, hsz, hP, hK, hD0⟩ := hv
  have hx := B.exec
  have hb := B.bytes
  have hr := B.returns
  have hts := atoms_spec (ws := wsMX8_takeSize) B.pre
  have hown : s.vm.findClass RX8 = some m.cls := findClass_of_methodNamed B.named
  have hlocks := B.notSynchronized
  subst hsz
  have hD := hD0.self (sz := s.heap.size)
  generalize hAe : va_A (WW nW hw lw kw wl wb wG) s.heap.size = A at hD ⊢
  have hA : ∀ q : Nat, s.heap.size ≤ q → A q := fun q h => by rw [← hAe]; exact Or.inr h
  have hS : va_S A s.heap s.heap [] := va_S.rf
  have hl := lv_entry ([.ref (hw tt), .ref (hw ta), .ref (hw tb)]) (n := 9) (Nat.le_of_ble_eq_true rfl)
  rw [lg_entry_eq]
  generalize (lg_sl ([.ref (hw tt), .ref (hw ta), .ref (hw tb)]) ++ List.replicate (9 - (lg_sl ([.ref (hw tt), .ref (hw ta), .ref (hw tb)])).length) Slot.unset).toArray = ls at hl ⊢
  have hl : lv_has ls 9 [(0, .ref (hw tt)), (1, .ref (hw ta)), (2, .ref (hw tb))] := hl
  refine lv_aload_n hx hb dX8_takeSize_0 rfl (lv_at hl 1 rfl) ?_
  refine va_get (D := (dC, dI)) (ci := 8) (v := .int (wl ta)) (C := RX8) (T := TX8) (N := 3) hx hb hts iwsMX8_takeSize_in8 hown hK hP (ta) (WW_o (by omega)) rfl 1 (by decide) (hts _ hm_m_X8_takeSize_0) (fun _ h9 => h9) rfl dX8_takeSize_1 ?_
  have br1 := b_wl ta
  refine lv_istore_n hx hb dX8_takeSize_4 rfl hl (by decide) rfl (fun ls (hl : lv_has ls _ ([(3, .int (wl ta)), (0, .ref (hw tt)), (1, .ref (hw ta)), (2, .ref (hw tb))])) => ?_)
  refine lv_lconst (v := 0) hx hb dX8_takeSize_5 (by decide) ?_
  refine lv_lstore hx hb dX8_takeSize_6 hl (by decide) rfl (fun ls (hl : lv_has ls _ ([(4, .long 0), (3, .int (wl ta)), (0, .ref (hw tt)), (1, .ref (hw ta)), (2, .ref (hw tb))])) => ?_)
  refine lv_iconst (v := 0) hx hb dX8_takeSize_8 (by decide) ?_
  refine lv_istore hx hb dX8_takeSize_9 hl (by decide) rfl (fun ls (hl : lv_has ls _ ([(6, .int 0), (4, .long 0), (3, .int (wl ta)), (0, .ref (hw tt)), (1, .ref (hw ta)), (2, .ref (hw tb))])) => ?_)
  have hl : lv_has _ _ ([(6, .int 0), (4, .long 0), (3, .int (wl ta)), (0, .ref (hw tt)), (1, .ref (hw ta)), (2, .ref (hw tb))]) := lv_sub hl [0, 1, 2, 3, 4, 5] rfl
  refine (fun (loop : ∀ (n9 : Nat) (wG_x11 : Nat → Nat → Int64) (l6_x11 : Int32) (l4_x11 : Int64) (H : Heap) (locs : List Loc) (ls : Array Slot), (0 ≤ l6_x11.toInt ∧ l6_x11.toInt ≤ 14) → (14 - l6_x11.toInt < ((n9 : Nat) : Int)) → va_P (dC, dI) vwCl (WW nW hw lw kw wl wb wG_x11) H → va_D A (WW nW hw lw kw wl wb wG_x11) → va_S A s.heap H locs → lv_has ls 9 [(6, .int l6_x11), (4, .long l4_x11), (3, .int (wl ta)), (0, .ref (hw tt)), (1, .ref (hw ta)), (2, .ref (hw tb))] → W p l e _ s m _ below meth c H locs 0 0 _ (F0 m 11 ls [])) => loop (15) wG 0 0 _ _ _ (show 0 ≤ (0 : Int32).toInt ∧ (0 : Int32).toInt ≤ 14 from by decide) ((by have e9 : (0 : Int32).toInt = 0 := (by decide : (0 : Int32).toInt = 0); omega)) hP hD hS hl) ?_
  intro n9
  induction n9 with
  | zero => intro wG_x11 l6_x11 l4_x11 H locs ls b_l6_x11 hf9; exact False.elim (by omega)
  | succ n9 ihx11 =>
    intro wG_x11 l6_x11 l4_x11 H locs ls b_l6_x11 hfx11 hP hD hS hl
    refine lv_iload hx hb dX8_takeSize_11 (lv_at hl 0 rfl) ?_
    refine lv_iload_n hx hb dX8_takeSize_13 rfl (lv_at hl 2 rfl) ?_
    refine lv_icmp_ge (tgt := 83) hx hb dX8_takeSize_14 (by decide) (fun c_14 => ?_) (fun c_14 => ?_)
    · have t_14 : l6_x11.toInt ≥ (wl ta).toInt := toI_ge c_14 rfl rfl
      refine lv_aload_n hx hb dX8_takeSize_83 rfl (lv_at hl 3 rfl) ?_
      refine lv_iload_n hx hb dX8_takeSize_84 rfl (lv_at hl 2 rfl) ?_
      refine va_put (D := (dC, dI)) (ci := 8) (v := .int (wl ta)) (ty := .int) (C := RX8) (T := TX8) (N := 3) hx hb hts iwsMX8_takeSize_in8 tyX8 tyX8_ok nmX8 hown hK hP hD hS (tt) (WW_o (by omega)) rfl 1 (by decide) (hts _ hm_m_X8_takeSize_0) (fun _ h9 => h9) rfl (by decide +kernel) rfl rfl (Nat.le_of_ble_eq_true rfl) dX8_takeSize_85 (fun H locs hP hD hS => ?_)
      obtain ⟨u38, hu38⟩ : ∃ f9, f9 = fT wl tt (wl ta) := ⟨_, rfl⟩
      have hP : va_P (dC, dI) vwCl (WW nW hw lw kw u38 wb wG_x11) H := by rw [hu38]; exact Eq.mp (congrArg (fun z9 => va_P (dC, dI) vwCl z9 H) (WW_sl (by omega) (wl ta))) hP
      have hD : va_D A (WW nW hw lw kw u38 wb wG_x11) := by rw [hu38]; exact Eq.mp (congrArg (fun z9 => va_D A z9) (WW_sl (by omega) (wl ta))) hD
      have b_u38 : ∀ q : Nat, 0 ≤ (u38 q).toInt ∧ (u38 q).toInt ≤ 14 := by rw [hu38]; exact fT_r b_wl (by first | assumption | exact ⟨by omega, by omega⟩)
      have q_u38 : (u38 tt).toInt = (wl ta).toInt := by rw [hu38, fT_eq]
      clear hu38
      refine W.widen (k := 0) (n := 0) (by decide +kernel) (by decide +kernel) ?_
      exact W.vret hx hb hr (fun t9_ ht hW => ⟨⟨(u38, wG_x11), rfl, b_u38, by rw [ht]; exact hP, hD⟩, hS.F ht⟩) hS.2.2 dX8_takeSize_88
    · have t_14 : ¬ l6_x11.toInt ≥ (wl ta).toInt := toI_nge c_14 rfl rfl
      refine lv_aload_n hx hb dX8_takeSize_17 rfl (lv_at hl 4 rfl) ?_
      refine va_get (D := (dC, dI)) (ci := 8) (v := .ref (lw ta)) (C := RX8) (T := TX8) (N := 3) hx hb hts iwsMX8_takeSize_in8 hown hK hP (ta) (WW_o (by omega)) rfl 0 (by decide) (hts _ hm_m_X8_takeSize_1) (fun _ h9 => h9) rfl dX8_takeSize_18 ?_
      refine lv_iload hx hb dX8_takeSize_21 (lv_at hl 0 rfl) ?_
      refine va_lald (cA := kw) (n := 14) (f := (wG_x11 ta)) hx hb hK hP (nW + ta) 0 (WW_a (by omega)) rfl (vp_in_iff.mpr ⟨b_l6_x11.1, (by omega)⟩) dX8_takeSize_23 ?_
      refine lv_topl (fun v39 hv39 => ?_)
      clear hv39
      refine lv_iload hx hb dX8_takeSize_24 (lv_at hl 0 rfl) ?_
      refine lv_aload_n hx hb dX8_takeSize_26 rfl (lv_at hl 5 rfl) ?_
      refine va_get (D := (dC, dI)) (ci := 8) (v := .int (wl tb)) (C := RX8) (T := TX8) (N := 3) hx hb hts iwsMX8_takeSize_in8 hown hK hP (tb) (WW_o (by omega)) rfl 1 (by decide) (hts _ hm_m_X8_takeSize_0) (fun _ h9 => h9) rfl dX8_takeSize_27 ?_
      have br27 := b_wl tb
      refine W.cut (pc := 44) (fun H locs ls stk => ∃ (k0_j23 : Int64),  stk = [.long k0_j23, .long v39] ∧ va_P (dC, dI) vwCl (WW nW hw lw kw wl wb wG_x11) H ∧ va_D A (WW nW hw lw kw wl wb wG_x11) ∧ va_S A s.heap H locs ∧ lv_has ls 9 [(6, .int l6_x11), (4, .long l4_x11), (3, .int (wl ta)), (0, .ref (hw tt)), (1, .ref (hw ta)), (2, .ref (hw tb))]) (fun join23 => ?_) ?_
      · refine lv_icmp_ge (tgt := 43) hx hb dX8_takeSize_30 (by decide) (fun c_30 => ?_) (fun c_30 => ?_)
        · have t_30 : l6_x11.toInt ≥ (wl tb).toInt := toI_ge c_30 rfl rfl
          refine lv_lconst (v := 0) hx hb dX8_takeSize_43 (by decide) ?_
          have hl : lv_has _ _ ([(6, .int l6_x11), (4, .long l4_x11), (3, .int (wl ta)), (0, .ref (hw tt)), (1, .ref (hw ta)), (2, .ref (hw tb))]) := lv_sub hl [0, 1, 2, 3, 4, 5] rfl
          exact join23 _ _ _ _ ⟨0, rfl, hP, hD, hS, hl⟩
        · have t_30 : ¬ l6_x11.toInt ≥ (wl tb).toInt := toI_nge c_30 rfl rfl
          refine lv_aload_n hx hb dX8_takeSize_33 rfl (lv_at hl 5 rfl) ?_
          refine va_get (D := (dC, dI)) (ci := 8) (v := .ref (lw tb)) (C := RX8) (T := TX8) (N := 3) hx hb hts iwsMX8_takeSize_in8 hown hK hP (tb) (WW_o (by omega)) rfl 0 (by decide) (hts _ hm_m_X8_takeSize_1) (fun _ h9 => h9) rfl dX8_takeSize_34 ?_
          refine lv_iload hx hb dX8_takeSize_37 (lv_at hl 0 rfl) ?_
          refine va_lald (cA := kw) (n := 14) (f := (wG_x11 tb)) hx hb hK hP (nW + tb) 0 (WW_a (by omega)) rfl (vp_in_iff.mpr ⟨b_l6_x11.1, (by omega)⟩) dX8_takeSize_39 ?_
          refine lv_topl (fun v41 hv41 => ?_)
          clear hv41
          refine lv_goto (tgt := 44) hx hb dX8_takeSize_40 (by decide) ?_
          have hl : lv_has _ _ ([(6, .int l6_x11), (4, .long l4_x11), (3, .int (wl ta)), (0, .ref (hw tt)), (1, .ref (hw ta)), (2, .ref (hw tb))]) := lv_sub hl [0, 1, 2, 3, 4, 5] rfl
          exact join23 _ _ _ _ ⟨v41, rfl, hP, hD, hS, hl⟩
      · rintro H locs ls stk ⟨k0_j23, rfl, hP, hD, hS, hl⟩
        refine lv_lsub hx hb dX8_takeSize_44 ?_
        refine lv_topl (fun v42 hv42 => ?_)
        clear hv42
        refine lv_lload hx hb dX8_takeSize_45 (lv_at hl 1 rfl) ?_
        refine lv_lsub hx hb dX8_takeSize_47 ?_
        refine lv_topl (fun v43 hv43 => ?_)
        clear hv43
        refine lv_lstore hx hb dX8_takeSize_48 hl (by decide) rfl (fun ls (hl : lv_has ls _ ([(7, .long v43), (6, .int l6_x11), (4, .long l4_x11), (3, .int (wl ta)), (0, .ref (hw tt)), (1, .ref (hw ta)), (2, .ref (hw tb))])) => ?_)
        refine lv_lload hx hb dX8_takeSize_50 (lv_at hl 0 rfl) ?_
        refine lv_lconst (v := 0) hx hb dX8_takeSize_52 (by decide) ?_
        refine W.lcmp hx hb dX8_takeSize_53 ?_
        refine W.cut (pc := 62) (fun H locs ls stk => ∃ (k0_j24 : Int64), (0 ≤ k0_j24.toInt ∧ k0_j24.toInt ≤ 1) ∧  stk = [.long k0_j24] ∧ va_P (dC, dI) vwCl (WW nW hw lw kw wl wb wG_x11) H ∧ va_D A (WW nW hw lw kw wl wb wG_x11) ∧ va_S A s.heap H locs ∧ lv_has ls 9 [(7, .long v43), (6, .int l6_x11), (4, .long l4_x11), (3, .int (wl ta)), (0, .ref (hw tt)), (1, .ref (hw ta)), (2, .ref (hw tb))]) (fun join24 => ?_) ?_
        · refine lv_if_ge (tgt := 61) hx hb dX8_takeSize_54 (by decide) (fun c_54 => ?_) (fun c_54 => ?_)
          · have t_54 : v43.toInt ≥ 0 := toL_ge c_54 rfl (by decide : (0 : Int64).toInt = 0)
            refine lv_lconst (v := 0) hx hb dX8_takeSize_61 (by decide) ?_
            have hl : lv_has _ _ ([(7, .long v43), (6, .int l6_x11), (4, .long l4_x11), (3, .int (wl ta)), (0, .ref (hw tt)), (1, .ref (hw ta)), (2, .ref (hw tb))]) := lv_sub hl [0, 1, 2, 3, 4, 5, 6] rfl
            exact join24 _ _ _ _ ⟨0, (show 0 ≤ (0 : Int32).toInt ∧ (0 : Int32).toInt ≤ 1 from by decide), rfl, hP, hD, hS, hl⟩
          · have t_54 : ¬ v43.toInt ≥ 0 := toL_nge c_54 rfl (by decide : (0 : Int64).toInt = 0)
            refine lv_lconst (v := 1) hx hb dX8_takeSize_57 (by decide) ?_
            refine lv_goto (tgt := 62) hx hb dX8_takeSize_58 (by decide) ?_
            have hl : lv_has _ _ ([(7, .long v43), (6, .int l6_x11), (4, .long l4_x11), (3, .int (wl ta)), (0, .ref (hw tt)), (1, .ref (hw ta)), (2, .ref (hw tb))]) := lv_sub hl [0, 1, 2, 3, 4, 5, 6] rfl
            exact join24 _ _ _ _ ⟨1, (show 0 ≤ (1 : Int32).toInt ∧ (1 : Int32).toInt ≤ 1 from by decide), rfl, hP, hD, hS, hl⟩
        · rintro H locs ls stk ⟨k0_j24, b_k0_j24, rfl, hP, hD, hS, hl⟩
          refine lv_lstore hx hb dX8_takeSize_62 hl (by decide) rfl (fun ls (hl : lv_has ls _ ([(4, .long k0_j24), (7, .long v43), (6, .int l6_x11), (3, .int (wl ta)), (0, .ref (hw tt)), (1, .ref (hw ta)), (2, .ref (hw tb))])) => ?_)
          refine lv_aload_n hx hb dX8_takeSize_64 rfl (lv_at hl 4 rfl) ?_
          refine va_get (D := (dC, dI)) (ci := 8) (v := .ref (lw tt)) (C := RX8) (T := TX8) (N := 3) hx hb hts iwsMX8_takeSize_in8 hown hK hP (tt) (WW_o (by omega)) rfl 0 (by decide) (hts _ hm_m_X8_takeSize_1) (fun _ h9 => h9) rfl dX8_takeSize_65 ?_
          refine lv_iload hx hb dX8_takeSize_68 (lv_at hl 2 rfl) ?_
          refine lv_lload hx hb dX8_takeSize_70 (lv_at hl 1 rfl) ?_
          refine lv_ldc2 (v := 1073741823) hx hb hown (hts (.constantLong RX8 21 1073741823) (by decide +kernel)) dX8_takeSize_72 ?_
          refine lv_land hx hb dX8_takeSize_75 ?_
          refine lv_topl (fun v44 hv44 => ?_)
          clear hv44
          refine va_last (cA := kw) (n := 14) (f := (wG_x11 tt)) hx hb hK hP hD hS (nW + tt) 0 (WW_a (by omega)) rfl (vp_in_iff.mpr ⟨b_l6_x11.1, (by omega)⟩) dX8_takeSize_76 (fun H locs hP hD hS => ?_)
          obtain ⟨u45, hu45⟩ : ∃ f9, f9 = fT wG_x11 tt (vp_updL (wG_x11 tt) (l6_x11).toNatClampNeg v44) := ⟨_, rfl⟩
          have hP : va_P (dC, dI) vwCl (WW nW hw lw kw wl wb u45) H := by rw [hu45]; exact Eq.mp (congrArg (fun z9 => va_P (dC, dI) vwCl z9 H) (WW_sg (by omega) (vp_updL (wG_x11 tt) (l6_x11).toNatClampNeg v44))) hP
          have hD : va_D A (WW nW hw lw kw wl wb u45) := by rw [hu45]; exact Eq.mp (congrArg (fun z9 => va_D A z9) (WW_sg (by omega) (vp_updL (wG_x11 tt) (l6_x11).toNatClampNeg v44))) hD
          clear hu45
          refine lv_iinc (v := (iI (l6_x11.toInt + 1))) hx hb dX8_takeSize_77 hl (k := 2) rfl (iI_add2 (iI_of _) (by decide : (1 : Int32) = iI 1)) (by decide) rfl (fun ls (hl : lv_has ls _ ([(6, .int (iI (l6_x11.toInt + 1))), (4, .long k0_j24), (7, .long v43), (3, .int (wl ta)), (0, .ref (hw tt)), (1, .ref (hw ta)), (2, .ref (hw tb))])) => ?_)
          refine lv_goto (tgt := 11) hx hb dX8_takeSize_80 (by decide) ?_
          have hl : lv_has _ _ ([(6, .int (iI (l6_x11.toInt + 1))), (4, .long k0_j24), (3, .int (wl ta)), (0, .ref (hw tt)), (1, .ref (hw ta)), (2, .ref (hw tb))]) := lv_sub hl [0, 1, 3, 4, 5, 6] rfl
          exact ihx11 u45 (iI (l6_x11.toInt + 1)) k0_j24 _ _ _ (iI_rng (Int.le_trans (by decide) (Int.add_le_add (b_l6_x11.1) (Int.le_refl _))) (by omega) (by decide) (by decide)) (by have e9 : ((iI (l6_x11.toInt + 1))).toInt = (l6_x11.toInt + 1) := (iI_t (Int.le_trans (by decide) (Int.add_le_add (b_l6_x11.1) (Int.le_refl _))) (Int.le_trans (Int.add_le_add (b_l6_x11.2) (Int.le_refl _)) (by decide))); omega) hP hD hS hl
theorem dX8_add_0 : decode cX8_add 0 = .ok (.aload_n 1, 1) := dk_43 (by decide +kernel)
theorem dX8_add_1 : decode cX8_add 1 = .ok (.getfield 17, 3) := dk_180 (by decide +kernel)
theorem dX8_add_4 : decode cX8_add 4 = .ok (.ifCond .ne 4, 3) := dk_154 (by decide +kernel)
theorem dX8_add_7 : decode cX8_add 7 = .ok (.return_, 1) := dk_177 (by decide +kernel)
theorem dX8_add_8 : decode cX8_add 8 = .ok (.aload_n 0, 1) := dk_42 (by decide +kernel)
theorem dX8_add_9 : decode cX8_add 9 = .ok (.getfield 17, 3) := dk_180 (by decide +kernel)
theorem dX8_add_12 : decode cX8_add 12 = .ok (.ifCond .eq 14, 3) := dk_153 (by decide +kernel)
theorem dX8_add_15 : decode cX8_add 15 = .ok (.aload_n 0, 1) := dk_42 (by decide +kernel)
theorem dX8_add_16 : decode cX8_add 16 = .ok (.getfield 13, 3) := dk_180 (by decide +kernel)
theorem dX8_add_19 : decode cX8_add 19 = .ok (.aload_n 1, 1) := dk_43 (by decide +kernel)
theorem dX8_add_20 : decode cX8_add 20 = .ok (.getfield 13, 3) := dk_180 (by decide +kernel)
theorem dX8_add_23 : decode cX8_add 23 = .ok (.if_icmp .ne 19, 3) := dk_160 (by decide +kernel)
theorem dX8_add_26 : decode cX8_add 26 = .ok (.aload_n 0, 1) := dk_42 (by decide +kernel)
theorem dX8_add_27 : decode cX8_add 27 = .ok (.aload_n 1, 1) := dk_43 (by decide +kernel)
theorem dX8_add_28 : decode cX8_add 28 = .ok (.invokevirtual 29, 3) := dk_182 (by decide +kernel)
theorem dX8_add_31 : decode cX8_add 31 = .ok (.aload_n 0, 1) := dk_42 (by decide +kernel)
theorem dX8_add_32 : decode cX8_add 32 = .ok (.aload_n 1, 1) := dk_43 (by decide +kernel)
theorem dX8_add_33 : decode cX8_add 33 = .ok (.getfield 13, 3) := dk_180 (by decide +kernel)
theorem dX8_add_36 : decode cX8_add 36 = .ok (.putfield 13, 3) := dk_181 (by decide +kernel)
theorem dX8_add_39 : decode cX8_add 39 = .ok (.goto 42, 3) := dk_167 (by decide +kernel)
theorem dX8_add_42 : decode cX8_add 42 = .ok (.aload_n 0, 1) := dk_42 (by decide +kernel)
theorem dX8_add_43 : decode cX8_add 43 = .ok (.aload_n 1, 1) := dk_43 (by decide +kernel)
theorem dX8_add_44 : decode cX8_add 44 = .ok (.invokevirtual 33, 3) := dk_182 (by decide +kernel)
theorem dX8_add_47 : decode cX8_add 47 = .ok (.ifCond .lt 16, 3) := dk_155 (by decide +kernel)
theorem dX8_add_50 : decode cX8_add 50 = .ok (.aload_n 0, 1) := dk_42 (by decide +kernel)
theorem dX8_add_51 : decode cX8_add 51 = .ok (.aload_n 0, 1) := dk_42 (by decide +kernel)
theorem dX8_add_52 : decode cX8_add 52 = .ok (.aload_n 1, 1) := dk_43 (by decide +kernel)
theorem dX8_add_53 : decode cX8_add 53 = .ok (.invokevirtual 37, 3) := dk_182 (by decide +kernel)
theorem dX8_add_56 : decode cX8_add 56 = .ok (.aload_n 0, 1) := dk_42 (by decide +kernel)
theorem dX8_add_57 : decode cX8_add 57 = .ok (.invokevirtual 41, 3) := dk_182 (by decide +kernel)
theorem dX8_add_60 : decode cX8_add 60 = .ok (.goto 21, 3) := dk_167 (by decide +kernel)
theorem dX8_add_63 : decode cX8_add 63 = .ok (.aload_n 0, 1) := dk_42 (by decide +kernel)
theorem dX8_add_64 : decode cX8_add 64 = .ok (.aload_n 1, 1) := dk_43 (by decide +kernel)
theorem dX8_add_65 : decode cX8_add 65 = .ok (.aload_n 0, 1) := dk_42 (by decide +kernel)
theorem dX8_add_66 : decode cX8_add 66 = .ok (.invokevirtual 37, 3) := dk_182 (by decide +kernel)
theorem dX8_add_69 : decode cX8_add 69 = .ok (.aload_n 0, 1) := dk_42 (by decide +kernel)
theorem dX8_add_70 : decode cX8_add 70 = .ok (.aload_n 1, 1) := dk_43 (by decide +kernel)
theorem dX8_add_71 : decode cX8_add 71 = .ok (.getfield 13, 3) := dk_180 (by decide +kernel)
theorem dX8_add_74 : decode cX8_add 74 = .ok (.putfield 13, 3) := dk_181 (by decide +kernel)
theorem dX8_add_77 : decode cX8_add 77 = .ok (.aload_n 0, 1) := dk_42 (by decide +kernel)
theorem dX8_add_78 : decode cX8_add 78 = .ok (.invokevirtual 41, 3) := dk_182 (by decide +kernel)
theorem dX8_add_81 : decode cX8_add 81 = .ok (.return_, 1) := dk_177 (by decide +kernel)
def wsMX8_add : List Cond := .code yX8_add cX8_add 2 none :: ([.fieldLink RX8 17 "OptimaWorks$Whole" "length" "I", .fieldLink RX8 13 "OptimaWorks$Whole" "below" "Z"] ++ wsX80 ++ (wsV RX8 29 RX8 yX8_addSize wsMX8_addSize) ++ (wsV RX8 33 RX8 yX8_compareSize wsMX8_compareSize) ++ (wsV RX8 37 RX8 yX8_takeSize wsMX8_takeSize) ++ (wsV RX8 41 RX8 yX8_trim wsMX8_trim))
theorem iwsMX8_add_in8 : ∀ w ∈ wsX80, w ∈ wsMX8_add := fun _ h => List.mem_cons_of_mem _ (List.mem_append_left _ (List.mem_append_left _ (List.mem_append_left _ (List.mem_append_left _ (List.mem_append_right _ h)))))
theorem gwsMX8_add_0 : GoodIn wsMX8_add (wsV RX8 29 RX8 yX8_addSize wsMX8_addSize) := goodIn_sub (fun _ h => List.mem_cons_of_mem _ (List.mem_append_left _ (List.mem_append_left _ (List.mem_append_left _ (List.mem_append_right _ h))))) (gdV (by decide +kernel) gdwsMX8_addSize)
theorem gwsMX8_add_1 : GoodIn wsMX8_add (wsV RX8 33 RX8 yX8_compareSize wsMX8_compareSize) := goodIn_sub (fun _ h => List.mem_cons_of_mem _ (List.mem_append_left _ (List.mem_append_left _ (List.mem_append_right _ h)))) (gdV (by decide +kernel) gdwsMX8_compareSize)
theorem gwsMX8_add_2 : GoodIn wsMX8_add (wsV RX8 37 RX8 yX8_takeSize wsMX8_takeSize) := goodIn_sub (fun _ h => List.mem_cons_of_mem _ (List.mem_append_left _ (List.mem_append_right _ h))) (gdV (by decide +kernel) gdwsMX8_takeSize)
theorem gwsMX8_add_3 : GoodIn wsMX8_add (wsV RX8 41 RX8 yX8_trim wsMX8_trim) := goodIn_sub (fun _ h => List.mem_cons_of_mem _ (List.mem_append_right _ h)) (gdV (by decide +kernel) gdwsMX8_trim)
theorem gdwsMX8_add : wsMX8_add.all goodWord = true := gdC rfl (gdA (gdA (gdA (gdA (gdA (by decide +kernel : ([.fieldLink RX8 17 "OptimaWorks$Whole" "length" "I", .fieldLink RX8 13 "OptimaWorks$Whole" "below" "Z"] : List Cond).all goodWord = true) gdwsX80) (gdV (by decide +kernel) gdwsMX8_addSize)) (gdV (by decide +kernel) gdwsMX8_compareSize)) (gdV (by decide +kernel) gdwsMX8_takeSize)) (gdV (by decide +kernel) gdwsMX8_trim))
theorem hm_m_X8_add_0 : (.fieldLink RX8 17 "OptimaWorks$Whole" "length" "I" : Cond) ∈ wsMX8_add := by decide +kernel
theorem hm_m_X8_add_1 : (.fieldLink RX8 13 "OptimaWorks$Whole" "below" "Z" : Cond) ∈ wsMX8_add := by decide +kernel
set_option maxHeartbeats 4000000 in
set_option maxRecDepth 100000 in
/-- added -/
theorem m_X8_add (l : Launch) (dC : Nat → ClassId) (dI : Nat → Nat → Nat) (nW : Nat) (hw : Nat → Nat) (lw : Nat → Nat) (kw : ClassId) (wl : Nat → Int32) (wb : Nat → Int32) (wG : Nat → Nat → Int64) (tt : Nat) (ta : Nat) (b_wl : ∀ q : Nat, 0 ≤ (wl q).toInt ∧ (wl q).toInt ≤ 14) (b_wb : ∀ q : Nat, 0 ≤ (wb q).toInt ∧ (wb q).toInt ≤ 1) (htt : tt < nW) (hta : ta < nW) (sz : Nat) : Met l yX8_add wsMX8_add ({ frames := 2, cells := 0, slots := 0, locals := 40 }) (va_Pc [.ref (hw tt), .ref (hw ta)] (fun U => U.heap.size = sz ∧ va_P (dC, dI) vwCl (WW nW hw lw kw wl wb wG) U.heap ∧ va_K (dC, dI) vwCl (tW kw) U ∧ va_D (fun _ => True) (WW nW hw lw kw wl wb wG))) (va_Qv (fun (u : (Nat → Int32) × (Nat → Int32) × (Nat → Nat → Int64)) => (∀ q : Nat, 0 ≤ ((u.1) q).toInt ∧ ((u.1) q).toInt ≤ 14) ∧ (∀ q : Nat, 0 ≤ ((u.2.1) q).toInt ∧ ((u.2.1) q).toInt ≤ 1)) (fun (u : (Nat → Int32) × (Nat → Int32) × (Nat → Nat → Int64)) t => va_P (dC, dI) vwCl (WW nW hw lw kw (u.1) (u.2.1) (u.2.2)) t.heap ∧ va_D (va_A (WW nW hw lw kw wl wb wG) sz) (WW nW hw lw kw (u.1) (u.2.1) (u.2.2))) (va_A (WW nW hw lw kw wl wb wG) sz)) 0 0 (va_A (WW nW hw lw kw wl wb wG) sz) := by
  refine Met.ofW (cc := cX8_add) (maxL := 2) (ret := none) (by decide) rfl ?_
  intro p e s m args below meth c s₁ B hml hv
  obtain ⟨rfl, hsz, hP, hK, hD0⟩ := hv
  have hx := B.exec
  have hb := B.bytes
  have hr := B.returns
  have hts := atoms_spec (ws := wsMX8_add) B.pre
  have hown : s.vm.findClass RX8 = some m.cls := findClass_of_methodNamed B.named
  have hlocks := B.notSynchronized
  subst hsz
  have hD := hD0.self (sz := s.heap.size)
  generalize hAe : va_A (WW nW hw lw kw wl wb wG) s.heap.size = A at hD ⊢
  have hA : ∀ q : Nat, s.heap.size ≤ q → A q := fun q h => by rw [← hAe]; exact Or.inr h
  have hS : va_S A s.heap s.heap [] := va_S.rf
  have hl := lv_entry ([.ref (hw tt), .ref (hw ta)]) (n := 2) (Nat.le_of_ble_eq_true rfl)
  rw [lg_entry_eq]
  generalize (lg_sl ([.ref (hw tt), .ref (hw ta)]) ++ List.replicate (2 - (lg_sl ([.ref (hw tt), .ref (hw ta)])).length) Slot.unset).toArray = ls at hl ⊢
  have hl : lv_has ls 2 [(0, .ref (hw tt)), (1, .ref (hw ta))] := hl
  refine lv_aload_n hx hb dX8_add_0 rfl (lv_at hl 1 rfl) ?_
  refine va_get (D := (dC, dI)) (ci := 8) (v := .int (wl ta)) (C := RX8) (T := TX8) (N := 3) hx hb hts iwsMX8_add_in8 hown hK hP (ta) (WW_o (by omega)) rfl 1 (by decide) (hts _ hm_m_X8_add_0) (fun _ h9 => h9) rfl dX8_add_1 ?_
  have br1 := b_wl ta
  refine lv_if_ne (tgt := 8) hx hb dX8_add_4 (by decide) (fun c_4 => ?_) (fun c_4 => ?_)
  · have t_4 : (wl ta).toInt ≠ 0 := toI_ne c_4 rfl (by decide : (0 : Int32).toInt = 0)
    refine lv_aload_n hx hb dX8_add_8 rfl (lv_at hl 0 rfl) ?_
    refine va_get (D := (dC, dI)) (ci := 8) (v := .int (wl tt)) (C := RX8) (T := TX8) (N := 3) hx hb hts iwsMX8_add_in8 hown hK hP (tt) (WW_o (by omega)) rfl 1 (by decide) (hts _ hm_m_X8_add_0) (fun _ h9 => h9) rfl dX8_add_9 ?_
    have br9 := b_wl tt
    refine W.cut (pc := 81) (fun H locs ls stk => ∃ (wl_j2 : Nat → Int32) (wb_j2 : Nat → Int32) (wG_j2 : Nat → Nat → Int64), (∀ q : Nat, 0 ≤ (wl_j2 q).toInt ∧ (wl_j2 q).toInt ≤ 14) ∧ (∀ q : Nat, 0 ≤ (wb_j2 q).toInt ∧ (wb_j2 q).toInt ≤ 1) ∧  stk = [] ∧ va_P (dC, dI) vwCl (WW nW hw lw kw wl_j2 wb_j2 wG_j2) H ∧ va_D A (WW nW hw lw kw wl_j2 wb_j2 wG_j2) ∧ va_S A s.heap H locs ∧ lv_has ls 2 [(0, .ref (hw tt)), (1, .ref (hw ta))]) (fun join2 => ?_) ?_
    · refine lv_if_eq (tgt := 26) hx hb dX8_add_12 (by decide) (fun c_12 => ?_) (fun c_12 => ?_)
      · have t_12 : (wl tt).toInt = 0 := toI_eq c_12 rfl (by decide : (0 : Int32).toInt = 0)
        refine lv_aload_n hx hb dX8_add_26 rfl (lv_at hl 0 rfl) ?_
        refine lv_aload_n hx hb dX8_add_27 rfl (lv_at hl 1 rfl) ?_
        have hFc := allFree hD hS hA
        refine va_callv (va_runV (As := [.ref (hw ta)]) (rest := []) ⟨hx, hb, hml, hown, hts⟩ (m_X8_addSize l dC dI nW hw lw kw wl wb wG tt ta b_wl b_wb (by first | with_reducible assumption | omega | (rw [iI_t (by omega) (by omega)]; omega) | decide | assumption) (by first | with_reducible assumption | omega | (rw [iI_t (by omega) (by omega)]; omega) | decide | assumption) s.heap.size) (cwV 1 hts gwsMX8_add_0 rfl rfl rfl hd_yX8_addSize_RX8 (by decide +kernel)) (fz_pre (va_recv hK hP (ci := 8) (q0 := tt) rfl (WW_o (by omega))) hP hK hD) rfl rfl hl.1 rfl (lv_room (Nat.le_of_ble_eq_true rfl)) dX8_add_28 (by decide +kernel)) hS (fun q _ h => hFc q h) hFc (fun u t9_ H locs ht hvm hw9 hB9 hz1 hk1 hS => ?_)
        revert u hw9 hB9
        refine fz_p2 ?_
        intro wl_11 wG_11 hw9 hB9
        try dsimp only at hw9 hB9
        have b_wl_11 := hw9
        try dsimp only at b_wl_11
        have hP : va_P (dC, dI) vwCl (WW nW hw lw kw wl_11 wb wG_11) H := fz_P ht hB9.1
        have hD := fz_sd hP (hB9.2.weaken (fun _ q _ h => hFc q.1 h)) rfl
        refine lv_aload_n hx hb dX8_add_31 rfl (lv_at hl 0 rfl) ?_
        refine lv_aload_n hx hb dX8_add_32 rfl (lv_at hl 1 rfl) ?_
        refine va_get (D := (dC, dI)) (ci := 8) (v := .int (wb ta)) (C := RX8) (T := TX8) (N := 3) hx hb hts iwsMX8_add_in8 hown hK hP (ta) (WW_o (by omega)) rfl 2 (by decide) (hts _ hm_m_X8_add_1) (fun _ h9 => h9) rfl dX8_add_33 ?_
        have br33 := b_wb ta
        refine va_put (D := (dC, dI)) (ci := 8) (v := .int (wb ta)) (ty := .boolean) (C := RX8) (T := TX8) (N := 3) hx hb hts iwsMX8_add_in8 tyX8 tyX8_ok nmX8 hown hK hP hD hS (tt) (WW_o (by omega)) rfl 2 (by decide) (hts _ hm_m_X8_add_1) (fun _ h9 => h9) rfl (by decide +kernel) (by rcases z01 (x := (wb ta)) (by first | assumption | exact ⟨by omega, by omega⟩) with h9 | h9 <;> rw [h9] <;> rfl) (by rcases z01 (x := (wb ta)) (by first | assumption | exact ⟨by omega, by omega⟩) with h9 | h9 <;> rw [h9] <;> rfl) (Nat.le_of_ble_eq_true rfl) dX8_add_36 (fun H locs hP hD hS => ?_)
        obtain ⟨u12, hu12⟩ : ∃ f9, f9 = fT wb tt (wb ta) := ⟨_, rfl⟩
        have hP : va_P (dC, dI) vwCl (WW nW hw lw kw wl_11 u12 wG_11) H := by rw [hu12]; exact Eq.mp (congrArg (fun z9 => va_P (dC, dI) vwCl z9 H) (WW_sb (by omega) (wb ta))) hP
        have hD : va_D A (WW nW hw lw kw wl_11 u12 wG_11) := by rw [hu12]; exact Eq.mp (congrArg (fun z9 => va_D A z9) (WW_sb (by omega) (wb ta))) hD
        have b_u12 : ∀ q : Nat, 0 ≤ (u12 q).toInt ∧ (u12 q).toInt ≤ 1 := by rw [hu12]; exact fT_r b_wb (by first | assumption | exact ⟨by omega, by omega⟩)
        have q_u12 : (u12 tt).toInt = (wb ta).toInt := by rw [hu12, fT_eq]
        clear hu12
        refine lv_goto (tgt := 81) hx hb dX8_add_39 (by decide) ?_
        have hl : lv_has _ _ ([(0, .ref (hw tt)), (1, .ref (hw ta))]) := lv_sub hl [0, 1] rfl
        exact join2 _ _ _ _ ⟨wl_11, u12, wG_11, b_wl_11, b_u12, rfl, hP, hD, hS, hl⟩
      · have t_12 : ¬ (wl tt).toInt = 0 := toI_neq c_12 rfl (by decide : (0 : Int32).toInt = 0)
        refine lv_aload_n hx hb dX8_add_15 rfl (lv_at hl 0 rfl) ?_
        refine va_get (D := (dC, dI)) (ci := 8) (v := .int (wb tt)) (C := RX8) (T := TX8) (N := 3) hx hb hts iwsMX8_add_in8 hown hK hP (tt) (WW_o (by omega)) rfl 2 (by decide) (hts _ hm_m_X8_add_1) (fun _ h9 => h9) rfl dX8_add_16 ?_
        have br16 := b_wb tt
        refine lv_aload_n hx hb dX8_add_19 rfl (lv_at hl 1 rfl) ?_
        refine va_get (D := (dC, dI)) (ci := 8) (v := .int (wb ta)) (C := RX8) (T := TX8) (N := 3) hx hb hts iwsMX8_add_in8 hown hK hP (ta) (WW_o (by omega)) rfl 2 (by decide) (hts _ hm_m_X8_add_1) (fun _ h9 => h9) rfl dX8_add_20 ?_
        have br20 := b_wb ta
        refine lv_icmp_ne (tgt := 42) hx hb dX8_add_23 (by decide) (fun c_23 => ?_) (fun c_23 => ?_)
        · have t_23 : (wb tt).toInt ≠ (wb ta).toInt := toI_ne c_23 rfl rfl
          refine lv_aload_n hx hb dX8_add_42 rfl (lv_at hl 0 rfl) ?_
          refine lv_aload_n hx hb dX8_add_43 rfl (lv_at hl 1 rfl) ?_
          have hFc := allFree hD hS hA
          refine va_calli (va_runV (As := [.ref (hw ta)]) (rest := []) ⟨hx, hb, hml, hown, hts⟩ (m_X8_compareSize l dC dI nW hw lw kw wl wb wG tt ta b_wl b_wb (by first | with_reducible assumption | omega | (rw [iI_t (by omega) (by omega)]; omega) | decide | assumption) (by first | with_reducible assumption | omega | (rw [iI_t (by omega) (by omega)]; omega) | decide | assumption) s.heap.size) (cwV 1 hts gwsMX8_add_1 rfl rfl rfl hd_yX8_compareSize_RX8 (by decide +kernel)) (fz_pre (va_recv hK hP (ci := 8) (q0 := tt) rfl (WW_o (by omega))) hP hK hD) rfl rfl hl.1 rfl (lv_room (Nat.le_of_ble_eq_true rfl)) dX8_add_44 (by decide +kernel)) hS (fun q _ h => hFc q h) hFc (fun r13 u t9_ H locs ht hvm hw9 hB9 hz1 hk1 hS => ?_)
          have b_r13 := hw9
          try dsimp only at b_r13
          have hP : va_P (dC, dI) vwCl (WW nW hw lw kw wl wb wG) H := fz_P ht hB9.1
          have hD := fz_sd hP (hB9.2.weaken (fun _ q _ h => hFc q.1 h)) rfl
          refine lv_if_lt (tgt := 63) hx hb dX8_add_47 (by decide) (fun c_47 => ?_) (fun c_47 => ?_)
          · have t_47 : r13.toInt < 0 := toI_lt c_47 rfl (by decide : (0 : Int32).toInt = 0)
            refine lv_aload_n hx hb dX8_add_63 rfl (lv_at hl 0 rfl) ?_
            refine lv_aload_n hx hb dX8_add_64 rfl (lv_at hl 1 rfl) ?_
            refine lv_aload_n hx hb dX8_add_65 rfl (lv_at hl 0 rfl) ?_
            have hFc := allFree hD hS hA
            refine va_callv (va_runV (As := [.ref (hw ta), .ref (hw tt)]) (rest := []) ⟨hx, hb, hml, hown, hts⟩ (m_X8_takeSize l dC dI nW hw lw kw wl wb wG tt ta tt b_wl b_wb (by first | with_reducible assumption | omega | (rw [iI_t (by omega) (by omega)]; omega) | decide | assumption) (by first | with_reducible assumption | omega | (rw [iI_t (by omega) (by omega)]; omega) | decide | assumption) (by first | with_reducible assumption | omega | (rw [iI_t (by omega) (by omega)]; omega) | decide | assumption) H.size) (cwV 2 hts gwsMX8_add_2 rfl rfl rfl hd_yX8_takeSize_RX8 (by decide +kernel)) (fz_pre (va_recv hK hP (ci := 8) (q0 := tt) rfl (WW_o (by omega))) hP hK hD) rfl rfl hl.1 rfl (lv_room (Nat.le_of_ble_eq_true rfl)) dX8_add_66 (by decide +kernel)) hS (fun q _ h => hFc q h) hFc (fun u t9_ H locs ht hvm hw9 hB9 hz1 hk1 hS => ?_)
            revert u hw9 hB9
            refine fz_p2 ?_
            intro wl_14 wG_14 hw9 hB9
            try dsimp only at hw9 hB9
            have b_wl_14 := hw9
            try dsimp only at b_wl_14
            have hP : va_P (dC, dI) vwCl (WW nW hw lw kw wl_14 wb wG_14) H := fz_P ht hB9.1
            have hD := fz_sd hP (hB9.2.weaken (fun _ q _ h => hFc q.1 h)) rfl
            refine lv_aload_n hx hb dX8_add_69 rfl (lv_at hl 0 rfl) ?_
            refine lv_aload_n hx hb dX8_add_70 rfl (lv_at hl 1 rfl) ?_
            refine va_get (D := (dC, dI)) (ci := 8) (v := .int (wb ta)) (C := RX8) (T := TX8) (N := 3) hx hb hts iwsMX8_add_in8 hown hK hP (ta) (WW_o (by omega)) rfl 2 (by decide) (hts _ hm_m_X8_add_1) (fun _ h9 => h9) rfl dX8_add_71 ?_
            have br71 := b_wb ta
            refine va_put (D := (dC, dI)) (ci := 8) (v := .int (wb ta)) (ty := .boolean) (C := RX8) (T := TX8) (N := 3) hx hb hts iwsMX8_add_in8 tyX8 tyX8_ok nmX8 hown hK hP hD hS (tt) (WW_o (by omega)) rfl 2 (by decide) (hts _ hm_m_X8_add_1) (fun _ h9 => h9) rfl (by decide +kernel) (by rcases z01 (x := (wb ta)) (by first | assumption | exact ⟨by omega, by omega⟩) with h9 | h9 <;> rw [h9] <;> rfl) (by rcases z01 (x := (wb ta)) (by first | assumption | exact ⟨by omega, by omega⟩) with h9 | h9 <;> rw [h9] <;> rfl) (Nat.le_of_ble_eq_true rfl) dX8_add_74 (fun H locs hP hD hS => ?_)
            obtain ⟨u15, hu15⟩ : ∃ f9, f9 = fT wb tt (wb ta) := ⟨_, rfl⟩
            have hP : va_P (dC, dI) vwCl (WW nW hw lw kw wl_14 u15 wG_14) H := by rw [hu15]; exact Eq.mp (congrArg (fun z9 => va_P (dC, dI) vwCl z9 H) (WW_sb (by omega) (wb ta))) hP
            have hD : va_D A (WW nW hw lw kw wl_14 u15 wG_14) := by rw [hu15]; exact Eq.mp (congrArg (fun z9 => va_D A z9) (WW_sb (by omega) (wb ta))) hD
            have b_u15 : ∀ q : Nat, 0 ≤ (u15 q).toInt ∧ (u15 q).toInt ≤ 1 := by rw [hu15]; exact fT_r b_wb (by first | assumption | exact ⟨by omega, by omega⟩)
            have q_u15 : (u15 tt).toInt = (wb ta).toInt := by rw [hu15, fT_eq]
            clear hu15
            refine lv_aload_n hx hb dX8_add_77 rfl (lv_at hl 0 rfl) ?_
            have hFc := allFree hD hS hA
            refine va_callv (va_runV (As := []) (rest := []) ⟨hx, hb, hml, hown, hts⟩ (m_X8_trim l dC dI nW hw lw kw wl_14 u15 wG_14 tt b_wl_14 b_u15 (by first | with_reducible assumption | omega | (rw [iI_t (by omega) (by omega)]; omega) | decide | assumption) H.size) (cwV 0 hts gwsMX8_add_3 rfl rfl rfl hd_yX8_trim_RX8 (by decide +kernel)) (fz_pre (va_recv hK hP (ci := 8) (q0 := tt) rfl (WW_o (by omega))) hP hK hD) rfl rfl hl.1 rfl (lv_room (Nat.le_of_ble_eq_true rfl)) dX8_add_78 (by decide +kernel)) hS (fun q _ h => hFc q h) hFc (fun u t9_ H locs ht hvm hw9 hB9 hz1 hk1 hS => ?_)
            revert u hw9 hB9
            refine fz_p2 ?_
            intro wl_16 wb_16 hw9 hB9
            try dsimp only at hw9 hB9
            revert hw9
            refine fz_a2 ?_
            intro b_wl_16 b_wb_16
            have hP : va_P (dC, dI) vwCl (WW nW hw lw kw wl_16 wb_16 wG_14) H := fz_P ht hB9.1
            have hD := fz_sd hP (hB9.2.weaken (fun _ q _ h => hFc q.1 h)) rfl
            have hl : lv_has _ _ ([(0, .ref (hw tt)), (1, .ref (hw ta))]) := lv_sub hl [0, 1] rfl
            exact join2 _ _ _ _ ⟨wl_16, wb_16, wG_14, b_wl_16, b_wb_16, rfl, hP, hD, hS, hl⟩
          · have t_47 : ¬ r13.toInt < 0 := toI_nlt c_47 rfl (by decide : (0 : Int32).toInt = 0)
            refine lv_aload_n hx hb dX8_add_50 rfl (lv_at hl 0 rfl) ?_
            refine lv_aload_n hx hb dX8_add_51 rfl (lv_at hl 0 rfl) ?_
            refine lv_aload_n hx hb dX8_add_52 rfl (lv_at hl 1 rfl) ?_
            have hFc := allFree hD hS hA
            refine va_callv (va_runV (As := [.ref (hw tt), .ref (hw ta)]) (rest := []) ⟨hx, hb, hml, hown, hts⟩ (m_X8_takeSize l dC dI nW hw lw kw wl wb wG tt tt ta b_wl b_wb (by first | with_reducible assumption | omega | (rw [iI_t (by omega) (by omega)]; omega) | decide | assumption) (by first | with_reducible assumption | omega | (rw [iI_t (by omega) (by omega)]; omega) | decide | assumption) (by first | with_reducible assumption | omega | (rw [iI_t (by omega) (by omega)]; omega) | decide | assumption) H.size) (cwV 2 hts gwsMX8_add_2 rfl rfl rfl hd_yX8_takeSize_RX8 (by decide +kernel)) (fz_pre (va_recv hK hP (ci := 8) (q0 := tt) rfl (WW_o (by omega))) hP hK hD) rfl rfl hl.1 rfl (lv_room (Nat.le_of_ble_eq_true rfl)) dX8_add_53 (by decide +kernel)) hS (fun q _ h => hFc q h) hFc (fun u t9_ H locs ht hvm hw9 hB9 hz1 hk1 hS => ?_)
            revert u hw9 hB9
            refine fz_p2 ?_
            intro wl_17 wG_17 hw9 hB9
            try dsimp only at hw9 hB9
            have b_wl_17 := hw9
            try dsimp only at b_wl_17
            have hP : va_P (dC, dI) vwCl (WW nW hw lw kw wl_17 wb wG_17) H := fz_P ht hB9.1
            have hD := fz_sd hP (hB9.2.weaken (fun _ q _ h => hFc q.1 h)) rfl
            refine lv_aload_n hx hb dX8_add_56 rfl (lv_at hl 0 rfl) ?_
            have hFc := allFree hD hS hA
            refine va_callv (va_runV (As := []) (rest := []) ⟨hx, hb, hml, hown, hts⟩ (m_X8_trim l dC dI nW hw lw kw wl_17 wb wG_17 tt b_wl_17 b_wb (by first | with_reducible assumption | omega | (rw [iI_t (by omega) (by omega)]; omega) | decide | assumption) H.size) (cwV 0 hts gwsMX8_add_3 rfl rfl rfl hd_yX8_trim_RX8 (by decide +kernel)) (fz_pre (va_recv hK hP (ci := 8) (q0 := tt) rfl (WW_o (by omega))) hP hK hD) rfl rfl hl.1 rfl (lv_room (Nat.le_of_ble_eq_true rfl)) dX8_add_57 (by decide +kernel)) hS (fun q _ h => hFc q h) hFc (fun u t9_ H locs ht hvm hw9 hB9 hz1 hk1 hS => ?_)
            revert u hw9 hB9
            refine fz_p2 ?_
            intro wl_18 wb_18 hw9 hB9
            try dsimp only at hw9 hB9
            revert hw9
            refine fz_a2 ?_
            intro b_wl_18 b_wb_18
            have hP : va_P (dC, dI) vwCl (WW nW hw lw kw wl_18 wb_18 wG_17) H := fz_P ht hB9.1
            have hD := fz_sd hP (hB9.2.weaken (fun _ q _ h => hFc q.1 h)) rfl
            refine lv_goto (tgt := 81) hx hb dX8_add_60 (by decide) ?_
            have hl : lv_has _ _ ([(0, .ref (hw tt)), (1, .ref (hw ta))]) := lv_sub hl [0, 1] rfl
            exact join2 _ _ _ _ ⟨wl_18, wb_18, wG_17, b_wl_18, b_wb_18, rfl, hP, hD, hS, hl⟩
        · have t_23 : (wb tt).toInt = (wb ta).toInt := toI_nne c_23 rfl rfl
          refine lv_aload_n hx hb dX8_add_26 rfl (lv_at hl 0 rfl) ?_
          refine lv_aload_n hx hb dX8_add_27 rfl (lv_at hl 1 rfl) ?_
          have hFc := allFree hD hS hA
          refine va_callv (va_runV (As := [.ref (hw ta)]) (rest := []) ⟨hx, hb, hml, hown, hts⟩ (m_X8_addSize l dC dI nW hw lw kw wl wb wG tt ta b_wl b_wb (by first | with_reducible assumption | omega | (rw [iI_t (by omega) (by omega)]; omega) | decide | assumption) (by first | with_reducible assumption | omega | (rw [iI_t (by omega) (by omega)]; omega) | decide | assumption) s.heap.size) (cwV 1 hts gwsMX8_add_0 rfl rfl rfl hd_yX8_addSize_RX8 (by decide +kernel)) (fz_pre (va_recv hK hP (ci := 8) (q0 := tt) rfl (WW_o (by omega))) hP hK hD) rfl rfl hl.1 rfl (lv_room (Nat.le_of_ble_eq_true rfl)) dX8_add_28 (by decide +kernel)) hS (fun q _ h => hFc q h) hFc (fun u t9_ H locs ht hvm hw9 hB9 hz1 hk1 hS => ?_)
          revert u hw9 hB9
          refine fz_p2 ?_
          intro wl_19 wG_19 hw9 hB9
          try dsimp only at hw9 hB9
          have b_wl_19 := hw9
          try dsimp only at b_wl_19
          have hP : va_P (dC, dI) vwCl (WW nW hw lw kw wl_19 wb wG_19) H := fz_P ht hB9.1
          have hD := fz_sd hP (hB9.2.weaken (fun _ q _ h => hFc q.1 h)) rfl
          refine lv_aload_n hx hb dX8_add_31 rfl (lv_at hl 0 rfl) ?_
          refine lv_aload_n hx hb dX8_add_32 rfl (lv_at hl 1 rfl) ?_
          refine va_get (D := (dC, dI)) (ci := 8) (v := .int (wb ta)) (C := RX8) (T := TX8) (N := 3) hx hb hts iwsMX8_add_in8 hown hK hP (ta) (WW_o (by omega)) rfl 2 (by decide) (hts _ hm_m_X8_add_1) (fun _ h9 => h9) rfl dX8_add_33 ?_
          have br33 := b_wb ta
          refine va_put (D := (dC, dI)) (ci := 8) (v := .int (wb ta)) (ty := .boolean) (C := RX8) (T := TX8) (N := 3) hx hb hts iwsMX8_add_in8 tyX8 tyX8_ok nmX8 hown hK hP hD hS (tt) (WW_o (by omega)) rfl 2 (by decide) (hts _ hm_m_X8_add_1) (fun _ h9 => h9) rfl (by decide +kernel) (by rcases z01 (x := (wb ta)) (by first | assumption | exact ⟨by omega, by omega⟩) with h9 | h9 <;> rw [h9] <;> rfl) (by rcases z01 (x := (wb ta)) (by first | assumption | exact ⟨by omega, by omega⟩) with h9 | h9 <;> rw [h9] <;> rfl) (Nat.le_of_ble_eq_true rfl) dX8_add_36 (fun H locs hP hD hS => ?_)
          obtain ⟨u20, hu20⟩ : ∃ f9, f9 = fT wb tt (wb ta) := ⟨_, rfl⟩
          have hP : va_P (dC, dI) vwCl (WW nW hw lw kw wl_19 u20 wG_19) H := by rw [hu20]; exact Eq.mp (congrArg (fun z9 => va_P (dC, dI) vwCl z9 H) (WW_sb (by omega) (wb ta))) hP
          have hD : va_D A (WW nW hw lw kw wl_19 u20 wG_19) := by rw [hu20]; exact Eq.mp (congrArg (fun z9 => va_D A z9) (WW_sb (by omega) (wb ta))) hD
          have b_u20 : ∀ q : Nat, 0 ≤ (u20 q).toInt ∧ (u20 q).toInt ≤ 1 := by rw [hu20]; exact fT_r b_wb (by first | assumption | exact ⟨by omega, by omega⟩)
          have q_u20 : (u20 tt).toInt = (wb ta).toInt := by rw [hu20, fT_eq]
          clear hu20
          refine lv_goto (tgt := 81) hx hb dX8_add_39 (by decide) ?_
          have hl : lv_has _ _ ([(0, .ref (hw tt)), (1, .ref (hw ta))]) := lv_sub hl [0, 1] rfl
          exact join2 _ _ _ _ ⟨wl_19, u20, wG_19, b_wl_19, b_u20, rfl, hP, hD, hS, hl⟩
    · rintro H locs ls stk ⟨wl_j2, wb_j2, wG_j2, b_wl_j2, b_wb_j2, rfl, hP, hD, hS, hl⟩
      refine W.widen (k := 0) (n := 0) (by decide +kernel) (by decide +kernel) ?_
      exact W.vret hx hb hr (fun t9_ ht hW => ⟨⟨(wl_j2, wb_j2, wG_j2), rfl, ⟨b_wl_j2, b_wb_j2⟩, by rw [ht]; exact hP, hD⟩, hS.F ht⟩) hS.2.2 dX8_add_81
  · have t_4 : (wl ta).toInt = 0 := toI_nne c_4 rfl (by decide : (0 : Int32).toInt = 0)
    refine W.widen (k := 0) (n := 0) (by decide +kernel) (by decide +kernel) ?_
    exact W.vret hx hb hr (fun t9_ ht hW => ⟨⟨(wl, wb, wG), rfl, ⟨b_wl, b_wb⟩, by rw [ht]; exact hP, hD⟩, hS.F ht⟩) hS.2.2 dX8_add_7
end

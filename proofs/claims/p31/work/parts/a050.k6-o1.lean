section
theorem kj_X3_init (a0 a1 a2 a3 a4 a5 a6 a7 a8 : va_W) : List.Perm (a0 ++ (a1 ++ (a2 ++ (a3 ++ (a4 ++ (a5 ++ (a6 ++ (a7 ++ (a8))))))))) (a8 ++ (a7 ++ (a6 ++ (a5 ++ (a4 ++ (a3 ++ (a2 ++ (a1 ++ (a0))))))))) := (((((((((List.Perm.refl _).trans (List.perm_append_comm_assoc _ _ _)).trans ((List.Perm.append_left _ (List.perm_append_comm_assoc _ _ _)).trans (List.perm_append_comm_assoc _ _ _))).trans ((List.Perm.append_left _ ((List.Perm.append_left _ (List.perm_append_comm_assoc _ _ _)).trans (List.perm_append_comm_assoc _ _ _))).trans (List.perm_append_comm_assoc _ _ _))).trans ((List.Perm.append_left _ ((List.Perm.append_left _ ((List.Perm.append_left _ (List.perm_append_comm_assoc _ _ _)).trans (List.perm_append_comm_assoc _ _ _))).trans (List.perm_append_comm_assoc _ _ _))).trans (List.perm_append_comm_assoc _ _ _))).trans ((List.Perm.append_left _ ((List.Perm.append_left _ ((List.Perm.append_left _ ((List.Perm.append_left _ (List.perm_append_comm_assoc _ _ _)).trans (List.perm_append_comm_assoc _ _ _))).trans (List.perm_append_comm_assoc _ _ _))).trans (List.perm_append_comm_assoc _ _ _))).trans (List.perm_append_comm_assoc _ _ _))).trans ((List.Perm.append_left _ ((List.Perm.append_left _ ((List.Perm.append_left _ ((List.Perm.append_left _ ((List.Perm.append_left _ (List.perm_append_comm_assoc _ _ _)).trans (List.perm_append_comm_assoc _ _ _))).trans (List.perm_append_comm_assoc _ _ _))).trans (List.perm_append_comm_assoc _ _ _))).trans (List.perm_append_comm_assoc _ _ _))).trans (List.perm_append_comm_assoc _ _ _))).trans ((List.Perm.append_left _ ((List.Perm.append_left _ ((List.Perm.append_left _ ((List.Perm.append_left _ ((List.Perm.append_left _ ((List.Perm.append_left _ (List.perm_append_comm_assoc _ _ _)).trans (List.perm_append_comm_assoc _ _ _))).trans (List.perm_append_comm_assoc _ _ _))).trans (List.perm_append_comm_assoc _ _ _))).trans (List.perm_append_comm_assoc _ _ _))).trans (List.perm_append_comm_assoc _ _ _))).trans (List.perm_append_comm_assoc _ _ _))).trans ((List.Perm.append_left _ ((List.Perm.append_left _ ((List.Perm.append_left _ ((List.Perm.append_left _ ((List.Perm.append_left _ ((List.Perm.append_left _ ((List.Perm.append_left _ (List.perm_append_comm)).trans (List.perm_append_comm_assoc _ _ _))).trans (List.perm_append_comm_assoc _ _ _))).trans (List.perm_append_comm_assoc _ _ _))).trans (List.perm_append_comm_assoc _ _ _))).trans (List.perm_append_comm_assoc _ _ _))).trans (List.perm_append_comm_assoc _ _ _))).trans (List.perm_append_comm_assoc _ _ _)))
theorem dX3_init_0 : decode cX3_init 0 = .ok (.aload_n 0, 1) := dk_42 (by decide +kernel)
theorem dX3_init_1 : decode cX3_init 1 = .ok (.invokespecial 5, 3) := dk_183 (by decide +kernel)
theorem dX3_init_4 : decode cX3_init 4 = .ok (.aload_n 0, 1) := dk_42 (by decide +kernel)
theorem dX3_init_5 : decode cX3_init 5 = .ok (.bipush 28, 2) := dk_16 (by decide +kernel)
theorem dX3_init_7 : decode cX3_init 7 = .ok (.newarray .boolean, 2) := by decide +kernel
theorem dX3_init_9 : decode cX3_init 9 = .ok (.putfield 11, 3) := dk_181 (by decide +kernel)
theorem dX3_init_12 : decode cX3_init 12 = .ok (.aload_n 0, 1) := dk_42 (by decide +kernel)
theorem dX3_init_13 : decode cX3_init 13 = .ok (.bipush 28, 2) := dk_16 (by decide +kernel)
theorem dX3_init_15 : decode cX3_init 15 = .ok (.invokestatic 17, 3) := dk_184 (by decide +kernel)
theorem dX3_init_18 : decode cX3_init 18 = .ok (.putfield 23, 3) := dk_181 (by decide +kernel)
theorem dX3_init_21 : decode cX3_init 21 = .ok (.aload_n 0, 1) := dk_42 (by decide +kernel)
theorem dX3_init_22 : decode cX3_init 22 = .ok (.new 27, 3) := dk_187 (by decide +kernel)
theorem dX3_init_25 : decode cX3_init 25 = .ok (.dup, 1) := dk_89 (by decide +kernel)
theorem dX3_init_26 : decode cX3_init 26 = .ok (.invokespecial 29, 3) := dk_183 (by decide +kernel)
theorem dX3_init_29 : decode cX3_init 29 = .ok (.putfield 30, 3) := dk_181 (by decide +kernel)
theorem dX3_init_32 : decode cX3_init 32 = .ok (.aload_n 0, 1) := dk_42 (by decide +kernel)
theorem dX3_init_33 : decode cX3_init 33 = .ok (.new 27, 3) := dk_187 (by decide +kernel)
theorem dX3_init_36 : decode cX3_init 36 = .ok (.dup, 1) := dk_89 (by decide +kernel)
theorem dX3_init_37 : decode cX3_init 37 = .ok (.invokespecial 29, 3) := dk_183 (by decide +kernel)
theorem dX3_init_40 : decode cX3_init 40 = .ok (.putfield 34, 3) := dk_181 (by decide +kernel)
theorem dX3_init_43 : decode cX3_init 43 = .ok (.aload_n 0, 1) := dk_42 (by decide +kernel)
theorem dX3_init_44 : decode cX3_init 44 = .ok (.new 27, 3) := dk_187 (by decide +kernel)
theorem dX3_init_47 : decode cX3_init 47 = .ok (.dup, 1) := dk_89 (by decide +kernel)
theorem dX3_init_48 : decode cX3_init 48 = .ok (.invokespecial 29, 3) := dk_183 (by decide +kernel)
theorem dX3_init_51 : decode cX3_init 51 = .ok (.putfield 37, 3) := dk_181 (by decide +kernel)
theorem dX3_init_54 : decode cX3_init 54 = .ok (.aload_n 0, 1) := dk_42 (by decide +kernel)
theorem dX3_init_55 : decode cX3_init 55 = .ok (.bipush 8, 2) := dk_16 (by decide +kernel)
theorem dX3_init_57 : decode cX3_init 57 = .ok (.invokestatic 17, 3) := dk_184 (by decide +kernel)
theorem dX3_init_60 : decode cX3_init 60 = .ok (.putfield 40, 3) := dk_181 (by decide +kernel)
theorem dX3_init_63 : decode cX3_init 63 = .ok (.aload_n 0, 1) := dk_42 (by decide +kernel)
theorem dX3_init_64 : decode cX3_init 64 = .ok (.new 27, 3) := dk_187 (by decide +kernel)
theorem dX3_init_67 : decode cX3_init 67 = .ok (.dup, 1) := dk_89 (by decide +kernel)
theorem dX3_init_68 : decode cX3_init 68 = .ok (.invokespecial 29, 3) := dk_183 (by decide +kernel)
theorem dX3_init_71 : decode cX3_init 71 = .ok (.putfield 43, 3) := dk_181 (by decide +kernel)
theorem dX3_init_74 : decode cX3_init 74 = .ok (.aload_n 0, 1) := dk_42 (by decide +kernel)
theorem dX3_init_75 : decode cX3_init 75 = .ok (.new 27, 3) := dk_187 (by decide +kernel)
theorem dX3_init_78 : decode cX3_init 78 = .ok (.dup, 1) := dk_89 (by decide +kernel)
theorem dX3_init_79 : decode cX3_init 79 = .ok (.invokespecial 29, 3) := dk_183 (by decide +kernel)
theorem dX3_init_82 : decode cX3_init 82 = .ok (.putfield 46, 3) := dk_181 (by decide +kernel)
theorem dX3_init_85 : decode cX3_init 85 = .ok (.aload_n 0, 1) := dk_42 (by decide +kernel)
theorem dX3_init_86 : decode cX3_init 86 = .ok (.new 27, 3) := dk_187 (by decide +kernel)
theorem dX3_init_89 : decode cX3_init 89 = .ok (.dup, 1) := dk_89 (by decide +kernel)
theorem dX3_init_90 : decode cX3_init 90 = .ok (.invokespecial 29, 3) := dk_183 (by decide +kernel)
theorem dX3_init_93 : decode cX3_init 93 = .ok (.putfield 49, 3) := dk_181 (by decide +kernel)
theorem dX3_init_96 : decode cX3_init 96 = .ok (.aload_n 0, 1) := dk_42 (by decide +kernel)
theorem dX3_init_97 : decode cX3_init 97 = .ok (.bipush 40, 2) := dk_16 (by decide +kernel)
theorem dX3_init_99 : decode cX3_init 99 = .ok (.newarray .int, 2) := by decide +kernel
theorem dX3_init_101 : decode cX3_init 101 = .ok (.putfield 52, 3) := dk_181 (by decide +kernel)
theorem dX3_init_104 : decode cX3_init 104 = .ok (.aload_n 0, 1) := dk_42 (by decide +kernel)
theorem dX3_init_105 : decode cX3_init 105 = .ok (.bipush 40, 2) := dk_16 (by decide +kernel)
theorem dX3_init_107 : decode cX3_init 107 = .ok (.newarray .int, 2) := by decide +kernel
theorem dX3_init_109 : decode cX3_init 109 = .ok (.putfield 56, 3) := dk_181 (by decide +kernel)
theorem dX3_init_112 : decode cX3_init 112 = .ok (.aload_n 0, 1) := dk_42 (by decide +kernel)
theorem dX3_init_113 : decode cX3_init 113 = .ok (.aload_n 1, 1) := dk_43 (by decide +kernel)
theorem dX3_init_114 : decode cX3_init 114 = .ok (.putfield 59, 3) := dk_181 (by decide +kernel)
theorem dX3_init_117 : decode cX3_init 117 = .ok (.aload_n 0, 1) := dk_42 (by decide +kernel)
theorem dX3_init_118 : decode cX3_init 118 = .ok (.aload_n 2, 1) := dk_44 (by decide +kernel)
theorem dX3_init_119 : decode cX3_init 119 = .ok (.putfield 63, 3) := dk_181 (by decide +kernel)
theorem dX3_init_122 : decode cX3_init 122 = .ok (.aload_n 0, 1) := dk_42 (by decide +kernel)
theorem dX3_init_123 : decode cX3_init 123 = .ok (.aload_n 2, 1) := dk_44 (by decide +kernel)
theorem dX3_init_124 : decode cX3_init 124 = .ok (.getfield 67, 3) := dk_180 (by decide +kernel)
theorem dX3_init_127 : decode cX3_init 127 = .ok (.putfield 71, 3) := dk_181 (by decide +kernel)
theorem dX3_init_130 : decode cX3_init 130 = .ok (.return_, 1) := dk_177 (by decide +kernel)
def wsKX3_init : List Cond := .code yX3_init cX3_init 3 none :: ([.methodLink RX3 5 objectInit, .instanceMethod objectInit, .code objectInit ⟨#[0xb1]⟩ 1 none, .arrayClass .boolean, .fieldLink RX3 11 "OptimaWorks$Prover" "kept" "[Z", .fieldLink RX3 23 "OptimaWorks$Prover" "multiplier" "[LOptimaWorks$Whole;", .classLink RX3 27 RX8, .instantiable RX8 3, .initialized RX8, .instanceMethod yX8_init, .fieldLink RX3 30 "OptimaWorks$Prover" "multiplierUnder" "LOptimaWorks$Whole;", .fieldLink RX3 34 "OptimaWorks$Prover" "proved" "LOptimaWorks$Whole;", .fieldLink RX3 37 "OptimaWorks$Prover" "provedUnder" "LOptimaWorks$Whole;", .fieldLink RX3 40 "OptimaWorks$Prover" "place" "[LOptimaWorks$Whole;", .fieldLink RX3 43 "OptimaWorks$Prover" "shortfall" "LOptimaWorks$Whole;", .fieldLink RX3 46 "OptimaWorks$Prover" "under" "LOptimaWorks$Whole;", .fieldLink RX3 49 "OptimaWorks$Prover" "leftOver" "LOptimaWorks$Whole;", .arrayClass .int, .fieldLink RX3 52 "OptimaWorks$Prover" "need" "[I", .fieldLink RX3 56 "OptimaWorks$Prover" "turn" "[I", .fieldLink RX3 59 "OptimaWorks$Prover" "model" "LOptimaWorks$Model;", .fieldLink RX3 63 "OptimaWorks$Prover" "solver" "LOptimaWorks$Solver;", .fieldLink RX3 67 "OptimaWorks$Solver" "tableau" "LOptimaWorks$Tableau;", .fieldLink RX3 71 "OptimaWorks$Prover" "tableau" "LOptimaWorks$Tableau;"] ++ wsX30 ++ wsX50 ++ wsX80 ++ (va_wsS RX3 17 yX5_wholes wsKX5_wholes) ++ (wsPX8_init))
theorem iwsKX3_init_in3 : ∀ w ∈ wsX30, w ∈ wsKX3_init := fun _ h => List.mem_cons_of_mem _ (List.mem_append_left _ (List.mem_append_left _ (List.mem_append_left _ (List.mem_append_left _ (List.mem_append_right _ h)))))
theorem iwsKX3_init_in5 : ∀ w ∈ wsX50, w ∈ wsKX3_init := fun _ h => List.mem_cons_of_mem _ (List.mem_append_left _ (List.mem_append_left _ (List.mem_append_left _ (List.mem_append_right _ h))))
theorem iwsKX3_init_in8 : ∀ w ∈ wsX80, w ∈ wsKX3_init := fun _ h => List.mem_cons_of_mem _ (List.mem_append_left _ (List.mem_append_left _ (List.mem_append_right _ h)))
theorem gwsKX3_init_0 : GoodIn wsKX3_init (va_wsS RX3 17 yX5_wholes wsKX5_wholes) := goodIn_sub (fun _ h => List.mem_cons_of_mem _ (List.mem_append_left _ (List.mem_append_right _ h))) (by decide +kernel)
theorem gwsKX3_init_1 : GoodIn wsKX3_init (wsPX8_init) := goodIn_sub (fun _ h => List.mem_cons_of_mem _ (List.mem_append_right _ h)) (by decide +kernel)
theorem hm_kl_X3_init_0 : (.classLink RX3 27 RX8 : Cond) ∈ wsKX3_init := by decide +kernel
theorem hm_kl_X3_init_1 : (.instantiable RX8 3 : Cond) ∈ wsKX3_init := by decide +kernel
theorem hm_kl_X3_init_2 : (.initialized RX8 : Cond) ∈ wsKX3_init := by decide +kernel
theorem hm_kl_X3_init_3 : (.instanceMethod yX8_init : Cond) ∈ wsKX3_init := by decide +kernel
theorem hm_kl_X3_init_4 : (.arrayClass .int : Cond) ∈ wsKX3_init := by decide +kernel
set_option maxHeartbeats 4000000 in
set_option maxRecDepth 100000 in
/-- a prover -/
theorem kl_X3_init (l : Launch) (dC : Nat → ClassId) (dI : Nat → Nat → Nat) (hG hM hO aO hQ hw : Nat → Nat) (kO : Nat → ClassId) (iO_answered : Int32) (iO_searched : Int32) (iO_searchedRelaxed : Int32) (iO_counted : Int32) (fO_countedCase : Nat → Int32) (gO_goalNumber : Nat → Int64) (gO_goalScale : Nat → Int64) (fO_start : Nat → Int32) (fO_column : Nat → Int32) (fO_chosen : Nat → Int32) (kb kw kI kZ : ClassId) (sz : Nat) : Met l yX3_init wsKX3_init ({ frames := 4, cells := 89, slots := 858, locals := 62 }) (va_Pc [.ref (hG 0), .ref (hM 0), .ref (hO 0)] (fun U => U.heap.size = sz ∧ va_P (dC, dI) vwCl ([(hG 0, .inr (3, [.null, .null, .null, .int 0, .int 0, .null, .null, .null, .null, .null, .null, .null, .null, .null, .null, .null, .int 0]))] ++ (WO hO aO kO hM hQ hw iO_answered iO_searched iO_searchedRelaxed iO_counted fO_countedCase gO_goalNumber gO_goalScale fO_start fO_column fO_chosen)) U.heap ∧ va_K (dC, dI) vwCl [(kb, .object "OptimaWorks$Whole"), (kw, .long), (kI, .int), (kZ, .boolean)] U ∧ va_D (fun _ => True) ([(hG 0, .inr (3, [.null, .null, .null, .int 0, .int 0, .null, .null, .null, .null, .null, .null, .null, .null, .null, .null, .null, .int 0]))] ++ (WO hO aO kO hM hQ hw iO_answered iO_searched iO_searchedRelaxed iO_counted fO_countedCase gO_goalNumber gO_goalScale fO_start fO_column fO_chosen)) ∧ CE (va_A ([(hG 0, .inr (3, [.null, .null, .null, .int 0, .int 0, .null, .null, .null, .null, .null, .null, .null, .null, .null, .null, .null, .int 0]))] ++ (WO hO aO kO hM hQ hw iO_answered iO_searched iO_searchedRelaxed iO_counted fO_countedCase gO_goalNumber gO_goalScale fO_start fO_column fO_chosen)) sz) U U.heap)) (va_Qv (fun (u : (Nat → Nat) × (Nat → Nat) × (Nat → Nat)) => True) (fun u t => va_P (dC, dI) vwCl (WG hG u.1 (fun j => ([kZ, kb, kb, kI, kI] : List ClassId).getD j kb) hM hO hQ (jn 432 hw u.2.1) 0 0 (fun _ => 0) (fun _ => 0) (fun _ => 0) 0 ++ (WO hO aO kO hM hQ hw iO_answered iO_searched iO_searchedRelaxed iO_counted fO_countedCase gO_goalNumber gO_goalScale fO_start fO_column fO_chosen ++ (WW 42 u.2.1 u.2.2 kw (fun _ => 0) (fun _ => 0) (fun _ _ => 0)))) t.heap ∧ va_D (va_A ([(hG 0, .inr (3, [.null, .null, .null, .int 0, .int 0, .null, .null, .null, .null, .null, .null, .null, .null, .null, .null, .null, .int 0]))] ++ (WO hO aO kO hM hQ hw iO_answered iO_searched iO_searchedRelaxed iO_counted fO_countedCase gO_goalNumber gO_goalScale fO_start fO_column fO_chosen)) sz) (WG hG u.1 (fun j => ([kZ, kb, kb, kI, kI] : List ClassId).getD j kb) hM hO hQ (jn 432 hw u.2.1) 0 0 (fun _ => 0) (fun _ => 0) (fun _ => 0) 0 ++ (WO hO aO kO hM hQ hw iO_answered iO_searched iO_searchedRelaxed iO_counted fO_countedCase gO_goalNumber gO_goalScale fO_start fO_column fO_chosen ++ (WW 42 u.2.1 u.2.2 kw (fun _ => 0) (fun _ => 0) (fun _ _ => 0))))) (va_A ([(hG 0, .inr (3, [.null, .null, .null, .int 0, .int 0, .null, .null, .null, .null, .null, .null, .null, .null, .null, .null, .null, .int 0]))] ++ (WO hO aO kO hM hQ hw iO_answered iO_searched iO_searchedRelaxed iO_counted fO_countedCase gO_goalNumber gO_goalScale fO_start fO_column fO_chosen)) sz)) 89 858 (va_A ([(hG 0, .inr (3, [.null, .null, .null, .int 0, .int 0, .null, .null, .null, .null, .null, .null, .null, .null, .null, .null, .null, .int 0]))] ++ (WO hO aO kO hM hQ hw iO_answered iO_searched iO_searchedRelaxed iO_counted fO_countedCase gO_goalNumber gO_goalScale fO_start fO_column fO_chosen)) sz) := by
  refine Met.ofW (cc := cX3_init) (maxL := 3) (ret := none) (by decide) rfl ?_
  intro p e s m args below meth c s₁ B hml hv
  obtain ⟨rfl, hsz, hP, hK, hD0, hE⟩ := hv
  have hx := B.exec
  have hb := B.bytes
  have hr := B.returns
  have hts := atoms_spec (ws := wsKX3_init) B.pre
  have hown : s.vm.findClass RX3 = some m.cls := findClass_of_methodNamed B.named
  have hin : meth.name = "<init>" := (name_of_methodNamed B.named B.method).1
  subst hsz
  have hD := hD0.self (sz := s.heap.size)
  generalize hAe : va_A ([(hG 0, .inr (3, [.null, .null, .null, .int 0, .int 0, .null, .null, .null, .null, .null, .null, .null, .null, .null, .null, .null, .int 0]))] ++ (WO hO aO kO hM hQ hw iO_answered iO_searched iO_searchedRelaxed iO_counted fO_countedCase gO_goalNumber gO_goalScale fO_start fO_column fO_chosen)) s.heap.size = A at hD hE ⊢
  have hA : ∀ q : Nat, s.heap.size ≤ q → A q := fun q h => by rw [← hAe]; exact Or.inr h
  have hS : va_S A s.heap s.heap [] := va_S.rf
  have hl := lv_entry ([.ref (hG 0), .ref (hM 0), .ref (hO 0)]) (n := 3) (Nat.le_of_ble_eq_true rfl)
  rw [lg_entry_eq]
  generalize (lg_sl ([.ref (hG 0), .ref (hM 0), .ref (hO 0)]) ++ List.replicate (3 - (lg_sl ([.ref (hG 0), .ref (hM 0), .ref (hO 0)])).length) Slot.unset).toArray = ls at hl ⊢
  have hl : lv_has ls 3 [(0, .ref (hG 0)), (1, .ref (hM 0)), (2, .ref (hO 0))] := hl
  refine lv_aload_n hx hb dX3_init_0 rfl (lv_at hl 0 rfl) ?_
  refine W.objInit hx hb hown (hts (.methodLink RX3 5 objectInit) (by decide +kernel)) (hts (.instanceMethod objectInit) (by decide +kernel)) (hts (.code objectInit ⟨#[0xb1]⟩ 1 none) (by decide +kernel)) rfl (by rw [hml]; exact hl.1) rfl dX3_init_1 (by decide +kernel) (Nat.le_of_ble_eq_true rfl) ?_
  refine W.eq (g2 := F0 m 4 ls []) rfl ?_
  refine lv_aload_n hx hb dX3_init_4 rfl (lv_at hl 0 rfl) ?_
  refine lv_bipush (v := 28) hx hb dX3_init_5 (by decide) ?_
  refine va_newa (atype := .boolean) (ty := .boolean) (N' := 28) (a0 := (28, .inl (fun _ => 0))) hx hb (hts (.arrayClass .boolean) (by decide +kernel)) rfl hK hP hD hS hA (fun _ => rfl) (by decide) (by decide) (by decide +kernel) (by first | decide +kernel | (dsimp only [headSpec] <;> omega)) (by first | decide +kernel | (dsimp only [headSpec] <;> omega)) dX3_init_7 (fun q7 cA H hKn hP hD hS => ?_)
  obtain rfl : kZ = cA := (va_K.cl2 hKn hK (i := 4) (j := 3) rfl rfl).symm
  clear hKn
  have hP := hP.mem (fun q h => (perm_mid (a := [(hG 0, .inr (3, [.null, .null, .null, .int 0, .int 0, .null, .null, .null, .null, .null, .null, .null, .null, .null, .null, .null, .int 0]))]) (t := WO hO aO kO hM hQ hw iO_answered iO_searched iO_searchedRelaxed iO_counted fO_countedCase gO_goalNumber gO_goalScale fO_start fO_column fO_chosen) (x := (q7, .inl (kZ, 28, .inl (fun _ => 0))))).mem_iff.mpr h)
  have hD := hD.perm (perm_mid (a := [(hG 0, .inr (3, [.null, .null, .null, .int 0, .int 0, .null, .null, .null, .null, .null, .null, .null, .null, .null, .null, .null, .int 0]))]) (t := WO hO aO kO hM hQ hw iO_answered iO_searched iO_searchedRelaxed iO_counted fO_countedCase gO_goalNumber gO_goalScale fO_start fO_column fO_chosen) (x := (q7, .inl (kZ, 28, .inl (fun _ => 0)))))
  have hP : va_P (dC, dI) vwCl ([(hG 0, .inr (3, [.null, .null, .null, .int 0, .int 0, .null, .null, .null, .null, .null, .null, .null, .null, .null, .null, .null, .int 0])), (q7, .inl (kZ, 28, .inl (fun _ => 0)))] ++ (WO hO aO kO hM hQ hw iO_answered iO_searched iO_searchedRelaxed iO_counted fO_countedCase gO_goalNumber gO_goalScale fO_start fO_column fO_chosen)) H := hP
  have hD : va_D A ([(hG 0, .inr (3, [.null, .null, .null, .int 0, .int 0, .null, .null, .null, .null, .null, .null, .null, .null, .null, .null, .null, .int 0])), (q7, .inl (kZ, 28, .inl (fun _ => 0)))] ++ (WO hO aO kO hM hQ hw iO_answered iO_searched iO_searchedRelaxed iO_counted fO_countedCase gO_goalNumber gO_goalScale fO_start fO_column fO_chosen)) := hD
  refine W.widen (k := 1) (n := 28) (by omega) (by omega) ?_
  refine va_putF (D := (dC, dI)) (ci := 3) (v := .ref q7) (ty := .array .boolean) (C := RX3) (T := TX3) (N := 17) hx hb hts iwsKX3_init_in3 tyX3 tyX3_ok nmX3 hown hK hP hD hS 0 rfl rfl 5 (by decide) (hts (.fieldLink RX3 11 "OptimaWorks$Prover" "kept" "[Z") (by decide +kernel)) (fun _ h9 => h9) rfl hin rfl (by decide +kernel) rfl rfl (Nat.le_of_ble_eq_true rfl) dX3_init_9 (fun H locs hP hD hS => ?_)
  have hP : va_P (dC, dI) vwCl ([(hG 0, .inr (3, [.null, .null, .null, .int 0, .int 0, .ref q7, .null, .null, .null, .null, .null, .null, .null, .null, .null, .null, .int 0])), (q7, .inl (kZ, 28, .inl (fun _ => 0)))] ++ (WO hO aO kO hM hQ hw iO_answered iO_searched iO_searchedRelaxed iO_counted fO_countedCase gO_goalNumber gO_goalScale fO_start fO_column fO_chosen)) H := hP
  have hD : va_D A ([(hG 0, .inr (3, [.null, .null, .null, .int 0, .int 0, .ref q7, .null, .null, .null, .null, .null, .null, .null, .null, .null, .null, .int 0])), (q7, .inl (kZ, 28, .inl (fun _ => 0)))] ++ (WO hO aO kO hM hQ hw iO_answered iO_searched iO_searchedRelaxed iO_counted fO_countedCase gO_goalNumber gO_goalScale fO_start fO_column fO_chosen)) := hD
  refine lv_aload_n hx hb dX3_init_12 rfl (lv_at hl 0 rfl) ?_
  refine lv_bipush (v := 28) hx hb dX3_init_13 (by decide) ?_
  have hFc := noneFree hS hA
  have hPc := (nilP : va_P (dC, dI) vwCl [] H)
  have hDc := (nilD : va_D A [])
  have hKc : va_K (dC, dI) vwCl ([(kb, .object "OptimaWorks$Whole"), (kw, .long)]) _ := hK.sub [0, 1] rfl
  refine va_callr (va_runS (As := [.int 28]) (rest := [.ref (hG 0)]) ⟨hx, hb, hml, hown, hts⟩ (k_X5_wholes l dC dI kb kw 28 28 (by decide) (by decide) H.size) (va_cwS 1 hts gwsKX3_init_0 rfl rfl rfl (by decide +kernel) ⟨by first | decide +kernel | (dsimp only [headSpec] <;> omega), by first | decide +kernel | (dsimp only [headSpec] <;> omega)⟩) ⟨fun a U g mk q => by obtain ⟨q0, q1, qP, qK, qD, qE⟩ := q; exact ⟨q0, q1, qP, va_K.moved (u := U) (U := U.calling g mk a) (Vm.Alike.refl U.vm) qK, qD, qE.call⟩, fun U hU hW => ⟨rfl, by rw [hU], by rw [hU]; exact hPc, va_K.moved hW.alike hKc, hDc.weaken (fun _ _ _ _ => trivial), by rw [hU]; exact (((hE : CE A s s.heap).kept hS.2.1).narrow (fun q h => hFc q h)).warm hW⟩⟩ rfl rfl hl.1 rfl (lv_room (Nat.le_of_ble_eq_true rfl)) dX3_init_15 ⟨by first | decide +kernel | (dsimp only [headSpec] <;> omega), by first | decide +kernel | (dsimp only [headSpec] <;> omega)⟩) hS (fun q _ h => hFc q h) hFc (fun u r15 t H1 locs ht hvm hw9 hB hz1 hk1 hS => ?_)
  obtain ⟨h15, l15⟩ := u
  obtain ⟨hP1, hD1⟩ := hB
  dsimp only at hP1 hD1
  rw [ht] at hP1
  have p8 : List.Perm (α := Nat × va_E) (([(hG 0, .inr (3, [.null, .null, .null, .int 0, .int 0, .ref q7, .null, .null, .null, .null, .null, .null, .null, .null, .null, .null, .int 0])), (q7, .inl (kZ, 28, .inl (fun _ => 0)))] ++ [(r15, .inl (kb, 28, .inr (.inr (.inr (.inr (fW 28 h15))))))]) ++ (WW 28 h15 l15 kw (fun _ => 0) (fun _ => 0) (fun _ _ => 0) ++ (WO hO aO kO hM hQ hw iO_answered iO_searched iO_searchedRelaxed iO_counted fO_countedCase gO_goalNumber gO_goalScale fO_start fO_column fO_chosen))) (([(r15, .inl (kb, 28, .inr (.inr (.inr (.inr (fW 28 h15))))))] ++ WW 28 h15 l15 kw (fun _ => 0) (fun _ => 0) (fun _ _ => 0)) ++ ([(hG 0, .inr (3, [.null, .null, .null, .int 0, .int 0, .ref q7, .null, .null, .null, .null, .null, .null, .null, .null, .null, .null, .int 0])), (q7, .inl (kZ, 28, .inl (fun _ => 0)))] ++ (WO hO aO kO hM hQ hw iO_answered iO_searched iO_searchedRelaxed iO_counted fO_countedCase gO_goalNumber gO_goalScale fO_start fO_column fO_chosen))) := perm_in
  obtain ⟨hP, hD⟩ := frameG (ws := [(hG 0, .inr (3, [.null, .null, .null, .int 0, .int 0, .ref q7, .null, .null, .null, .null, .null, .null, .null, .null, .null, .null, .int 0])), (q7, .inl (kZ, 28, .inl (fun _ => 0)))] ++ (WO hO aO kO hM hQ hw iO_answered iO_searched iO_searchedRelaxed iO_counted fO_countedCase gO_goalNumber gO_goalScale fO_start fO_column fO_chosen)) (ws' := ([(hG 0, .inr (3, [.null, .null, .null, .int 0, .int 0, .ref q7, .null, .null, .null, .null, .null, .null, .null, .null, .null, .null, .int 0])), (q7, .inl (kZ, 28, .inl (fun _ => 0)))] ++ [(r15, .inl (kb, 28, .inr (.inr (.inr (.inr (fW 28 h15))))))]) ++ (WW 28 h15 l15 kw (fun _ => 0) (fun _ => 0) (fun _ _ => 0) ++ (WO hO aO kO hM hQ hw iO_answered iO_searched iO_searchedRelaxed iO_counted fO_countedCase gO_goalNumber gO_goalScale fO_start fO_column fO_chosen))) (X := []) (R := [(hG 0, .inr (3, [.null, .null, .null, .int 0, .int 0, .ref q7, .null, .null, .null, .null, .null, .null, .null, .null, .null, .null, .int 0])), (q7, .inl (kZ, 28, .inl (fun _ => 0)))] ++ (WO hO aO kO hM hQ hw iO_answered iO_searched iO_searchedRelaxed iO_counted fO_countedCase gO_goalNumber gO_goalScale fO_start fO_column fO_chosen)) perm_nil p8 hP hD hk1 hFc hP1 hD1
  generalize H1 = H at hP hS ⊢
  clear p8 hPc hDc hKc hFc hP1 hD1 hk1 hz1 hw9
  obtain ⟨T9_0, eT9_0⟩ : ∃ t9 : va_W, t9 = WW 28 h15 l15 kw (fun _ => 0) (fun _ => 0) (fun _ _ => 0) ++ (WO hO aO kO hM hQ hw iO_answered iO_searched iO_searchedRelaxed iO_counted fO_countedCase gO_goalNumber gO_goalScale fO_start fO_column fO_chosen) := ⟨_, rfl⟩
  have hP : va_P (dC, dI) vwCl ([(hG 0, .inr (3, [.null, .null, .null, .int 0, .int 0, .ref q7, .null, .null, .null, .null, .null, .null, .null, .null, .null, .null, .int 0])), (q7, .inl (kZ, 28, .inl (fun _ => 0))), (r15, .inl (kb, 28, .inr (.inr (.inr (.inr (fW 28 h15))))))] ++ (T9_0)) H := by rw [eT9_0]; exact hP
  have hD : va_D A ([(hG 0, .inr (3, [.null, .null, .null, .int 0, .int 0, .ref q7, .null, .null, .null, .null, .null, .null, .null, .null, .null, .null, .int 0])), (q7, .inl (kZ, 28, .inl (fun _ => 0))), (r15, .inl (kb, 28, .inr (.inr (.inr (.inr (fW 28 h15))))))] ++ (T9_0)) := by rw [eT9_0]; exact hD
  refine W.widen (k := 58) (n := 532) (by omega) (by omega) ?_
  refine va_putF (D := (dC, dI)) (ci := 3) (v := .ref r15) (ty := .array (.object "OptimaWorks$Whole")) (C := RX3) (T := TX3) (N := 17) hx hb hts iwsKX3_init_in3 tyX3 tyX3_ok nmX3 hown hK hP hD hS 0 rfl rfl 6 (by decide) (hts (.fieldLink RX3 23 "OptimaWorks$Prover" "multiplier" "[LOptimaWorks$Whole;") (by decide +kernel)) (fun _ h9 => h9) rfl hin rfl (by decide +kernel) rfl rfl (Nat.le_of_ble_eq_true rfl) dX3_init_18 (fun H locs hP hD hS => ?_)
  have hP : va_P (dC, dI) vwCl ([(hG 0, .inr (3, [.null, .null, .null, .int 0, .int 0, .ref q7, .ref r15, .null, .null, .null, .null, .null, .null, .null, .null, .null, .int 0])), (q7, .inl (kZ, 28, .inl (fun _ => 0))), (r15, .inl (kb, 28, .inr (.inr (.inr (.inr (fW 28 h15))))))] ++ (T9_0)) H := hP
  have hD : va_D A ([(hG 0, .inr (3, [.null, .null, .null, .int 0, .int 0, .ref q7, .ref r15, .null, .null, .null, .null, .null, .null, .null, .null, .null, .int 0])), (q7, .inl (kZ, 28, .inl (fun _ => 0))), (r15, .inl (kb, 28, .inr (.inr (.inr (.inr (fW 28 h15))))))] ++ (T9_0)) := hD
  refine lv_aload_n hx hb dX3_init_21 rfl (lv_at hl 0 rfl) ?_
  refine va_new (ci := 8) (fs := [.null, .int 0, .int 0]) (C := RX8) (T := TX8) (N := 3) hx hb hts iwsKX3_init_in8 tyX8 tyX8_ok hown (hts _ hm_kl_X3_init_0) (hts _ hm_kl_X3_init_1) (hts _ hm_kl_X3_init_2) hK hP hD hS hA rfl (by decide +kernel) (by first | decide +kernel | (dsimp only [headSpec] <;> omega)) (by first | decide +kernel | (dsimp only [headSpec] <;> omega)) dX3_init_22 (fun q22 H hP hD hS => ?_)
  refine lv_dup hx hb dX3_init_25 rfl ?_
  have p9 : List.Perm (α := Nat × va_E) (([(hG 0, .inr (3, [.null, .null, .null, .int 0, .int 0, .ref q7, .ref r15, .null, .null, .null, .null, .null, .null, .null, .null, .null, .int 0])), (q7, .inl (kZ, 28, .inl (fun _ => 0))), (r15, .inl (kb, 28, .inr (.inr (.inr (.inr (fW 28 h15))))))] ++ (T9_0)) ++ [(q22, .inr (8, [.null, .int 0, .int 0]))]) ([(q22, .inr (8, [.null, .int 0, .int 0]))] ++ ([(hG 0, .inr (3, [.null, .null, .null, .int 0, .int 0, .ref q7, .ref r15, .null, .null, .null, .null, .null, .null, .null, .null, .null, .int 0])), (q7, .inl (kZ, 28, .inl (fun _ => 0))), (r15, .inl (kb, 28, .inr (.inr (.inr (.inr (fW 28 h15))))))] ++ (T9_0))) := List.perm_append_comm
  have hPc := hP.mem (fun q h => p9.mem_iff.mpr (List.mem_append_left _ h))
  have hDc := (hD.perm p9).left
  have hKc : va_K (dC, dI) vwCl ([]) _ := hK.sub [] rfl
  have hFc := freeG p9 hD hS hA
  refine va_callv (va_runIN (As := []) (rest := [.ref q22, .ref (hG 0)]) ⟨hx, hb, hml, hown, hts⟩ (p_X8_init l dC dI q22 H.size) ⟨va_cnB 0 hts gwsKX3_init_1 rfl rfl rfl (hE.2.2.1.2.2.2.2.1 (.methodLinkNest RX3 29 yX8_init RX11) (by decide +kernel)) (hts _ hm_kl_X3_init_2) (by decide +kernel) ⟨by first | decide +kernel | (dsimp only [headSpec] <;> omega), by first | decide +kernel | (dsimp only [headSpec] <;> omega)⟩, rfl, (hts _ hm_kl_X3_init_3)⟩ ⟨fun a U g mk q => by obtain ⟨q0, q1, qP, qK, qD⟩ := q; exact ⟨q0, q1, qP, va_K.moved (u := U) (U := U.calling g mk a) (Vm.Alike.refl U.vm) qK, qD⟩, fun U hU hW => ⟨rfl, by rw [hU], by rw [hU]; exact hPc, va_K.moved hW.alike hKc, hDc.weaken (fun _ _ _ _ => trivial)⟩⟩ rfl rfl hl.1 rfl (lv_room (Nat.le_of_ble_eq_true rfl)) dX3_init_26 ⟨by first | decide +kernel | (dsimp only [headSpec] <;> omega), by first | decide +kernel | (dsimp only [headSpec] <;> omega)⟩) hS (fun q _ h => hFc q h) hFc (fun u t H1 locs ht hvm hw hB hz1 hk1 hS => ?_)
  obtain ⟨y22, k9⟩ := u
  obtain ⟨hP1, hK1, hD1⟩ := hB
  dsimp only at hP1 hK1 hD1
  rw [ht] at hP1
  have hK1 := va_K.moved hvm.symm hK1
  obtain rfl : kw = k9 := (va_K.cl2 hK1 hK (i := 0) (j := 1) rfl rfl).symm
  clear hK1 hw
  have p8 : List.Perm (α := Nat × va_E) ([(hG 0, .inr (3, [.null, .null, .null, .int 0, .int 0, .ref q7, .ref r15, .null, .null, .null, .null, .null, .null, .null, .null, .null, .int 0])), (q7, .inl (kZ, 28, .inl (fun _ => 0))), (r15, .inl (kb, 28, .inr (.inr (.inr (.inr (fW 28 h15))))))] ++ ([(q22, .inr (8, [.ref y22, .int 0, .int 0])), (y22, .inl (kw, 14, .inr (.inl (fun _ => 0))))] ++ (T9_0))) ([(q22, .inr (8, [.ref y22, .int 0, .int 0])), (y22, .inl (kw, 14, .inr (.inl (fun _ => 0))))] ++ ([(hG 0, .inr (3, [.null, .null, .null, .int 0, .int 0, .ref q7, .ref r15, .null, .null, .null, .null, .null, .null, .null, .null, .null, .int 0])), (q7, .inl (kZ, 28, .inl (fun _ => 0))), (r15, .inl (kb, 28, .inr (.inr (.inr (.inr (fW 28 h15))))))] ++ (T9_0))) := List.perm_append_comm_assoc _ _ _
  obtain ⟨hP, hD⟩ := frameG p9 p8 hP hD hk1 hFc hP1 hD1
  generalize H1 = H at hP hS ⊢
  clear p9 p8 hPc hDc hKc hFc hP1 hD1 hk1 hz1
  obtain ⟨T9_1, eT9_1⟩ : ∃ t9 : va_W, t9 = WW 1 (fun _ => q22) (fun _ => y22) kw (fun _ => 0) (fun _ => 0) (fun _ _ => 0) ++ (T9_0) := ⟨_, rfl⟩
  have hP : va_P (dC, dI) vwCl ([(hG 0, .inr (3, [.null, .null, .null, .int 0, .int 0, .ref q7, .ref r15, .null, .null, .null, .null, .null, .null, .null, .null, .null, .int 0])), (q7, .inl (kZ, 28, .inl (fun _ => 0))), (r15, .inl (kb, 28, .inr (.inr (.inr (.inr (fW 28 h15))))))] ++ (T9_1)) H := by rw [eT9_1]; exact hP
  have hD : va_D A ([(hG 0, .inr (3, [.null, .null, .null, .int 0, .int 0, .ref q7, .ref r15, .null, .null, .null, .null, .null, .null, .null, .null, .null, .int 0])), (q7, .inl (kZ, 28, .inl (fun _ => 0))), (r15, .inl (kb, 28, .inr (.inr (.inr (.inr (fW 28 h15))))))] ++ (T9_1)) := by rw [eT9_1]; exact hD
  refine W.widen (k := 60) (n := 549) (by omega) (by omega) ?_
  refine va_putF (D := (dC, dI)) (ci := 3) (v := .ref q22) (ty := .object "OptimaWorks$Whole") (C := RX3) (T := TX3) (N := 17) hx hb hts iwsKX3_init_in3 tyX3 tyX3_ok nmX3 hown hK hP hD hS 0 rfl rfl 7 (by decide) (hts (.fieldLink RX3 30 "OptimaWorks$Prover" "multiplierUnder" "LOptimaWorks$Whole;") (by decide +kernel)) (fun _ h9 => h9) rfl hin rfl (by decide +kernel) rfl rfl (Nat.le_of_ble_eq_true rfl) dX3_init_29 (fun H locs hP hD hS => ?_)
  have hP : va_P (dC, dI) vwCl ([(hG 0, .inr (3, [.null, .null, .null, .int 0, .int 0, .ref q7, .ref r15, .ref q22, .null, .null, .null, .null, .null, .null, .null, .null, .int 0])), (q7, .inl (kZ, 28, .inl (fun _ => 0))), (r15, .inl (kb, 28, .inr (.inr (.inr (.inr (fW 28 h15))))))] ++ (T9_1)) H := hP
  have hD : va_D A ([(hG 0, .inr (3, [.null, .null, .null, .int 0, .int 0, .ref q7, .ref r15, .ref q22, .null, .null, .null, .null, .null, .null, .null, .null, .int 0])), (q7, .inl (kZ, 28, .inl (fun _ => 0))), (r15, .inl (kb, 28, .inr (.inr (.inr (.inr (fW 28 h15))))))] ++ (T9_1)) := hD
  refine lv_aload_n hx hb dX3_init_32 rfl (lv_at hl 0 rfl) ?_
  refine va_new (ci := 8) (fs := [.null, .int 0, .int 0]) (C := RX8) (T := TX8) (N := 3) hx hb hts iwsKX3_init_in8 tyX8 tyX8_ok hown (hts _ hm_kl_X3_init_0) (hts _ hm_kl_X3_init_1) (hts _ hm_kl_X3_init_2) hK hP hD hS hA rfl (by decide +kernel) (by first | decide +kernel | (dsimp only [headSpec] <;> omega)) (by first | decide +kernel | (dsimp only [headSpec] <;> omega)) dX3_init_33 (fun q33 H hP hD hS => ?_)
  refine lv_dup hx hb dX3_init_36 rfl ?_
  have p9 : List.Perm (α := Nat × va_E) (([(hG 0, .inr (3, [.null, .null, .null, .int 0, .int 0, .ref q7, .ref r15, .ref q22, .null, .null, .null, .null, .null, .null, .null, .null, .int 0])), (q7, .inl (kZ, 28, .inl (fun _ => 0))), (r15, .inl (kb, 28, .inr (.inr (.inr (.inr (fW 28 h15))))))] ++ (T9_1)) ++ [(q33, .inr (8, [.null, .int 0, .int 0]))]) ([(q33, .inr (8, [.null, .int 0, .int 0]))] ++ ([(hG 0, .inr (3, [.null, .null, .null, .int 0, .int 0, .ref q7, .ref r15, .ref q22, .null, .null, .null, .null, .null, .null, .null, .null, .int 0])), (q7, .inl (kZ, 28, .inl (fun _ => 0))), (r15, .inl (kb, 28, .inr (.inr (.inr (.inr (fW 28 h15))))))] ++ (T9_1))) := List.perm_append_comm
  have hPc := hP.mem (fun q h => p9.mem_iff.mpr (List.mem_append_left _ h))
  have hDc := (hD.perm p9).left
  have hKc : va_K (dC, dI) vwCl ([]) _ := hK.sub [] rfl
  have hFc := freeG p9 hD hS hA
  refine va_callv (va_runIN (As := []) (rest := [.ref q33, .ref (hG 0)]) ⟨hx, hb, hml, hown, hts⟩ (p_X8_init l dC dI q33 H.size) ⟨va_cnB 0 hts gwsKX3_init_1 rfl rfl rfl (hE.2.2.1.2.2.2.2.1 (.methodLinkNest RX3 29 yX8_init RX11) (by decide +kernel)) (hts _ hm_kl_X3_init_2) (by decide +kernel) ⟨by first | decide +kernel | (dsimp only [headSpec] <;> omega), by first | decide +kernel | (dsimp only [headSpec] <;> omega)⟩, rfl, (hts _ hm_kl_X3_init_3)⟩ ⟨fun a U g mk q => by obtain ⟨q0, q1, qP, qK, qD⟩ := q; exact ⟨q0, q1, qP, va_K.moved (u := U) (U := U.calling g mk a) (Vm.Alike.refl U.vm) qK, qD⟩, fun U hU hW => ⟨rfl, by rw [hU], by rw [hU]; exact hPc, va_K.moved hW.alike hKc, hDc.weaken (fun _ _ _ _ => trivial)⟩⟩ rfl rfl hl.1 rfl (lv_room (Nat.le_of_ble_eq_true rfl)) dX3_init_37 ⟨by first | decide +kernel | (dsimp only [headSpec] <;> omega), by first | decide +kernel | (dsimp only [headSpec] <;> omega)⟩) hS (fun q _ h => hFc q h) hFc (fun u t H1 locs ht hvm hw hB hz1 hk1 hS => ?_)
  obtain ⟨y33, k9⟩ := u
  obtain ⟨hP1, hK1, hD1⟩ := hB
  dsimp only at hP1 hK1 hD1
  rw [ht] at hP1
  have hK1 := va_K.moved hvm.symm hK1
  obtain rfl : kw = k9 := (va_K.cl2 hK1 hK (i := 0) (j := 1) rfl rfl).symm
  clear hK1 hw
  have p8 : List.Perm (α := Nat × va_E) ([(hG 0, .inr (3, [.null, .null, .null, .int 0, .int 0, .ref q7, .ref r15, .ref q22, .null, .null, .null, .null, .null, .null, .null, .null, .int 0])), (q7, .inl (kZ, 28, .inl (fun _ => 0))), (r15, .inl (kb, 28, .inr (.inr (.inr (.inr (fW 28 h15))))))] ++ ([(q33, .inr (8, [.ref y33, .int 0, .int 0])), (y33, .inl (kw, 14, .inr (.inl (fun _ => 0))))] ++ (T9_1))) ([(q33, .inr (8, [.ref y33, .int 0, .int 0])), (y33, .inl (kw, 14, .inr (.inl (fun _ => 0))))] ++ ([(hG 0, .inr (3, [.null, .null, .null, .int 0, .int 0, .ref q7, .ref r15, .ref q22, .null, .null, .null, .null, .null, .null, .null, .null, .int 0])), (q7, .inl (kZ, 28, .inl (fun _ => 0))), (r15, .inl (kb, 28, .inr (.inr (.inr (.inr (fW 28 h15))))))] ++ (T9_1))) := List.perm_append_comm_assoc _ _ _
  obtain ⟨hP, hD⟩ := frameG p9 p8 hP hD hk1 hFc hP1 hD1
  generalize H1 = H at hP hS ⊢
  clear p9 p8 hPc hDc hKc hFc hP1 hD1 hk1 hz1
  obtain ⟨T9_2, eT9_2⟩ : ∃ t9 : va_W, t9 = WW 1 (fun _ => q33) (fun _ => y33) kw (fun _ => 0) (fun _ => 0) (fun _ _ => 0) ++ (T9_1) := ⟨_, rfl⟩
  have hP : va_P (dC, dI) vwCl ([(hG 0, .inr (3, [.null, .null, .null, .int 0, .int 0, .ref q7, .ref r15, .ref q22, .null, .null, .null, .null, .null, .null, .null, .null, .int 0])), (q7, .inl (kZ, 28, .inl (fun _ => 0))), (r15, .inl (kb, 28, .inr (.inr (.inr (.inr (fW 28 h15))))))] ++ (T9_2)) H := by rw [eT9_2]; exact hP
  have hD : va_D A ([(hG 0, .inr (3, [.null, .null, .null, .int 0, .int 0, .ref q7, .ref r15, .ref q22, .null, .null, .null, .null, .null, .null, .null, .null, .int 0])), (q7, .inl (kZ, 28, .inl (fun _ => 0))), (r15, .inl (kb, 28, .inr (.inr (.inr (.inr (fW 28 h15))))))] ++ (T9_2)) := by rw [eT9_2]; exact hD
  refine W.widen (k := 62) (n := 566) (by omega) (by omega) ?_
  refine va_putF (D := (dC, dI)) (ci := 3) (v := .ref q33) (ty := .object "OptimaWorks$Whole") (C := RX3) (T := TX3) (N := 17) hx hb hts iwsKX3_init_in3 tyX3 tyX3_ok nmX3 hown hK hP hD hS 0 rfl rfl 8 (by decide) (hts (.fieldLink RX3 34 "OptimaWorks$Prover" "proved" "LOptimaWorks$Whole;") (by decide +kernel)) (fun _ h9 => h9) rfl hin rfl (by decide +kernel) rfl rfl (Nat.le_of_ble_eq_true rfl) dX3_init_40 (fun H locs hP hD hS => ?_)
  have hP : va_P (dC, dI) vwCl ([(hG 0, .inr (3, [.null, .null, .null, .int 0, .int 0, .ref q7, .ref r15, .ref q22, .ref q33, .null, .null, .null, .null, .null, .null, .null, .int 0])), (q7, .inl (kZ, 28, .inl (fun _ => 0))), (r15, .inl (kb, 28, .inr (.inr (.inr (.inr (fW 28 h15))))))] ++ (T9_2)) H := hP
  have hD : va_D A ([(hG 0, .inr (3, [.null, .null, .null, .int 0, .int 0, .ref q7, .ref r15, .ref q22, .ref q33, .null, .null, .null, .null, .null, .null, .null, .int 0])), (q7, .inl (kZ, 28, .inl (fun _ => 0))), (r15, .inl (kb, 28, .inr (.inr (.inr (.inr (fW 28 h15))))))] ++ (T9_2)) := hD
  refine lv_aload_n hx hb dX3_init_43 rfl (lv_at hl 0 rfl) ?_
  refine va_new (ci := 8) (fs := [.null, .int 0, .int 0]) (C := RX8) (T := TX8) (N := 3) hx hb hts iwsKX3_init_in8 tyX8 tyX8_ok hown (hts _ hm_kl_X3_init_0) (hts _ hm_kl_X3_init_1) (hts _ hm_kl_X3_init_2) hK hP hD hS hA rfl (by decide +kernel) (by first | decide +kernel | (dsimp only [headSpec] <;> omega)) (by first | decide +kernel | (dsimp only [headSpec] <;> omega)) dX3_init_44 (fun q44 H hP hD hS => ?_)
  refine lv_dup hx hb dX3_init_47 rfl ?_
  have p9 : List.Perm (α := Nat × va_E) (([(hG 0, .inr (3, [.null, .null, .null, .int 0, .int 0, .ref q7, .ref r15, .ref q22, .ref q33, .null, .null, .null, .null, .null, .null, .null, .int 0])), (q7, .inl (kZ, 28, .inl (fun _ => 0))), (r15, .inl (kb, 28, .inr (.inr (.inr (.inr (fW 28 h15))))))] ++ (T9_2)) ++ [(q44, .inr (8, [.null, .int 0, .int 0]))]) ([(q44, .inr (8, [.null, .int 0, .int 0]))] ++ ([(hG 0, .inr (3, [.null, .null, .null, .int 0, .int 0, .ref q7, .ref r15, .ref q22, .ref q33, .null, .null, .null, .null, .null, .null, .null, .int 0])), (q7, .inl (kZ, 28, .inl (fun _ => 0))), (r15, .inl (kb, 28, .inr (.inr (.inr (.inr (fW 28 h15))))))] ++ (T9_2))) := List.perm_append_comm
  have hPc := hP.mem (fun q h => p9.mem_iff.mpr (List.mem_append_left _ h))
  have hDc := (hD.perm p9).left
  have hKc : va_K (dC, dI) vwCl ([]) _ := hK.sub [] rfl
  have hFc := freeG p9 hD hS hA
  refine va_callv (va_runIN (As := []) (rest := [.ref q44, .ref (hG 0)]) ⟨hx, hb, hml, hown, hts⟩ (p_X8_init l dC dI q44 H.size) ⟨va_cnB 0 hts gwsKX3_init_1 rfl rfl rfl (hE.2.2.1.2.2.2.2.1 (.methodLinkNest RX3 29 yX8_init RX11) (by decide +kernel)) (hts _ hm_kl_X3_init_2) (by decide +kernel) ⟨by first | decide +kernel | (dsimp only [headSpec] <;> omega), by first | decide +kernel | (dsimp only [headSpec] <;> omega)⟩, rfl, (hts _ hm_kl_X3_init_3)⟩ ⟨fun a U g mk q => by obtain ⟨q0, q1, qP, qK, qD⟩ := q; exact ⟨q0, q1, qP, va_K.moved (u := U) (U := U.calling g mk a) (Vm.Alike.refl U.vm) qK, qD⟩, fun U hU hW => ⟨rfl, by rw [hU], by rw [hU]; exact hPc, va_K.moved hW.alike hKc, hDc.weaken (fun _ _ _ _ => trivial)⟩⟩ rfl rfl hl.1 rfl (lv_room (Nat.le_of_ble_eq_true rfl)) dX3_init_48 ⟨by first | decide +kernel | (dsimp only [headSpec] <;> omega), by first | decide +kernel | (dsimp only [headSpec] <;> omega)⟩) hS (fun q _ h => hFc q h) hFc (fun u t H1 locs ht hvm hw hB hz1 hk1 hS => ?_)
  obtain ⟨y44, k9⟩ := u
  obtain ⟨hP1, hK1, hD1⟩ := hB
  dsimp only at hP1 hK1 hD1
  rw [ht] at hP1
  have hK1 := va_K.moved hvm.symm hK1
  obtain rfl : kw = k9 := (va_K.cl2 hK1 hK (i := 0) (j := 1) rfl rfl).symm
  clear hK1 hw
  have p8 : List.Perm (α := Nat × va_E) ([(hG 0, .inr (3, [.null, .null, .null, .int 0, .int 0, .ref q7, .ref r15, .ref q22, .ref q33, .null, .null, .null, .null, .null, .null, .null, .int 0])), (q7, .inl (kZ, 28, .inl (fun _ => 0))), (r15, .inl (kb, 28, .inr (.inr (.inr (.inr (fW 28 h15))))))] ++ ([(q44, .inr (8, [.ref y44, .int 0, .int 0])), (y44, .inl (kw, 14, .inr (.inl (fun _ => 0))))] ++ (T9_2))) ([(q44, .inr (8, [.ref y44, .int 0, .int 0])), (y44, .inl (kw, 14, .inr (.inl (fun _ => 0))))] ++ ([(hG 0, .inr (3, [.null, .null, .null, .int 0, .int 0, .ref q7, .ref r15, .ref q22, .ref q33, .null, .null, .null, .null, .null, .null, .null, .int 0])), (q7, .inl (kZ, 28, .inl (fun _ => 0))), (r15, .inl (kb, 28, .inr (.inr (.inr (.inr (fW 28 h15))))))] ++ (T9_2))) := List.perm_append_comm_assoc _ _ _
  obtain ⟨hP, hD⟩ := frameG p9 p8 hP hD hk1 hFc hP1 hD1
  generalize H1 = H at hP hS ⊢
  clear p9 p8 hPc hDc hKc hFc hP1 hD1 hk1 hz1
  obtain ⟨T9_3, eT9_3⟩ : ∃ t9 : va_W, t9 = WW 1 (fun _ => q44) (fun _ => y44) kw (fun _ => 0) (fun _ => 0) (fun _ _ => 0) ++ (T9_2) := ⟨_, rfl⟩
  have hP : va_P (dC, dI) vwCl ([(hG 0, .inr (3, [.null, .null, .null, .int 0, .int 0, .ref q7, .ref r15, .ref q22, .ref q33, .null, .null, .null, .null, .null, .null, .null, .int 0])), (q7, .inl (kZ, 28, .inl (fun _ => 0))), (r15, .inl (kb, 28, .inr (.inr (.inr (.inr (fW 28 h15))))))] ++ (T9_3)) H := by rw [eT9_3]; exact hP
  have hD : va_D A ([(hG 0, .inr (3, [.null, .null, .null, .int 0, .int 0, .ref q7, .ref r15, .ref q22, .ref q33, .null, .null, .null, .null, .null, .null, .null, .int 0])), (q7, .inl (kZ, 28, .inl (fun _ => 0))), (r15, .inl (kb, 28, .inr (.inr (.inr (.inr (fW 28 h15))))))] ++ (T9_3)) := by rw [eT9_3]; exact hD
  refine W.widen (k := 64) (n := 583) (by omega) (by omega) ?_
  refine va_putF (D := (dC, dI)) (ci := 3) (v := .ref q44) (ty := .object "OptimaWorks$Whole") (C := RX3) (T := TX3) (N := 17) hx hb hts iwsKX3_init_in3 tyX3 tyX3_ok nmX3 hown hK hP hD hS 0 rfl rfl 9 (by decide) (hts (.fieldLink RX3 37 "OptimaWorks$Prover" "provedUnder" "LOptimaWorks$Whole;") (by decide +kernel)) (fun _ h9 => h9) rfl hin rfl (by decide +kernel) rfl rfl (Nat.le_of_ble_eq_true rfl) dX3_init_51 (fun H locs hP hD hS => ?_)
  have hP : va_P (dC, dI) vwCl ([(hG 0, .inr (3, [.null, .null, .null, .int 0, .int 0, .ref q7, .ref r15, .ref q22, .ref q33, .ref q44, .null, .null, .null, .null, .null, .null, .int 0])), (q7, .inl (kZ, 28, .inl (fun _ => 0))), (r15, .inl (kb, 28, .inr (.inr (.inr (.inr (fW 28 h15))))))] ++ (T9_3)) H := hP
  have hD : va_D A ([(hG 0, .inr (3, [.null, .null, .null, .int 0, .int 0, .ref q7, .ref r15, .ref q22, .ref q33, .ref q44, .null, .null, .null, .null, .null, .null, .int 0])), (q7, .inl (kZ, 28, .inl (fun _ => 0))), (r15, .inl (kb, 28, .inr (.inr (.inr (.inr (fW 28 h15))))))] ++ (T9_3)) := hD
  refine lv_aload_n hx hb dX3_init_54 rfl (lv_at hl 0 rfl) ?_
  refine lv_bipush (v := 8) hx hb dX3_init_55 (by decide) ?_
  have hFc := noneFree hS hA
  have hPc := (nilP : va_P (dC, dI) vwCl [] H)
  have hDc := (nilD : va_D A [])
  have hKc : va_K (dC, dI) vwCl ([(kb, .object "OptimaWorks$Whole"), (kw, .long)]) _ := hK.sub [0, 1] rfl
  refine va_callr (va_runS (As := [.int 8]) (rest := [.ref (hG 0)]) ⟨hx, hb, hml, hown, hts⟩ (k_X5_wholes l dC dI kb kw 8 8 (by decide) (by decide) H.size) (va_cwS 1 hts gwsKX3_init_0 rfl rfl rfl (by decide +kernel) ⟨by first | decide +kernel | (dsimp only [headSpec] <;> omega), by first | decide +kernel | (dsimp only [headSpec] <;> omega)⟩) ⟨fun a U g mk q => by obtain ⟨q0, q1, qP, qK, qD, qE⟩ := q; exact ⟨q0, q1, qP, va_K.moved (u := U) (U := U.calling g mk a) (Vm.Alike.refl U.vm) qK, qD, qE.call⟩, fun U hU hW => ⟨rfl, by rw [hU], by rw [hU]; exact hPc, va_K.moved hW.alike hKc, hDc.weaken (fun _ _ _ _ => trivial), by rw [hU]; exact (((hE : CE A s s.heap).kept hS.2.1).narrow (fun q h => hFc q h)).warm hW⟩⟩ rfl rfl hl.1 rfl (lv_room (Nat.le_of_ble_eq_true rfl)) dX3_init_57 ⟨by first | decide +kernel | (dsimp only [headSpec] <;> omega), by first | decide +kernel | (dsimp only [headSpec] <;> omega)⟩) hS (fun q _ h => hFc q h) hFc (fun u r57 t H1 locs ht hvm hw9 hB hz1 hk1 hS => ?_)
  obtain ⟨h57, l57⟩ := u
  obtain ⟨hP1, hD1⟩ := hB
  dsimp only at hP1 hD1
  rw [ht] at hP1
  have p8 : List.Perm (α := Nat × va_E) (([(hG 0, .inr (3, [.null, .null, .null, .int 0, .int 0, .ref q7, .ref r15, .ref q22, .ref q33, .ref q44, .null, .null, .null, .null, .null, .null, .int 0])), (q7, .inl (kZ, 28, .inl (fun _ => 0))), (r15, .inl (kb, 28, .inr (.inr (.inr (.inr (fW 28 h15))))))] ++ [(r57, .inl (kb, 8, .inr (.inr (.inr (.inr (fW 8 h57))))))]) ++ (WW 8 h57 l57 kw (fun _ => 0) (fun _ => 0) (fun _ _ => 0) ++ (T9_3))) (([(r57, .inl (kb, 8, .inr (.inr (.inr (.inr (fW 8 h57))))))] ++ WW 8 h57 l57 kw (fun _ => 0) (fun _ => 0) (fun _ _ => 0)) ++ ([(hG 0, .inr (3, [.null, .null, .null, .int 0, .int 0, .ref q7, .ref r15, .ref q22, .ref q33, .ref q44, .null, .null, .null, .null, .null, .null, .int 0])), (q7, .inl (kZ, 28, .inl (fun _ => 0))), (r15, .inl (kb, 28, .inr (.inr (.inr (.inr (fW 28 h15))))))] ++ (T9_3))) := perm_in
  obtain ⟨hP, hD⟩ := frameG (ws := [(hG 0, .inr (3, [.null, .null, .null, .int 0, .int 0, .ref q7, .ref r15, .ref q22, .ref q33, .ref q44, .null, .null, .null, .null, .null, .null, .int 0])), (q7, .inl (kZ, 28, .inl (fun _ => 0))), (r15, .inl (kb, 28, .inr (.inr (.inr (.inr (fW 28 h15))))))] ++ (T9_3)) (ws' := ([(hG 0, .inr (3, [.null, .null, .null, .int 0, .int 0, .ref q7, .ref r15, .ref q22, .ref q33, .ref q44, .null, .null, .null, .null, .null, .null, .int 0])), (q7, .inl (kZ, 28, .inl (fun _ => 0))), (r15, .inl (kb, 28, .inr (.inr (.inr (.inr (fW 28 h15))))))] ++ [(r57, .inl (kb, 8, .inr (.inr (.inr (.inr (fW 8 h57))))))]) ++ (WW 8 h57 l57 kw (fun _ => 0) (fun _ => 0) (fun _ _ => 0) ++ (T9_3))) (X := []) (R := [(hG 0, .inr (3, [.null, .null, .null, .int 0, .int 0, .ref q7, .ref r15, .ref q22, .ref q33, .ref q44, .null, .null, .null, .null, .null, .null, .int 0])), (q7, .inl (kZ, 28, .inl (fun _ => 0))), (r15, .inl (kb, 28, .inr (.inr (.inr (.inr (fW 28 h15))))))] ++ (T9_3)) perm_nil p8 hP hD hk1 hFc hP1 hD1
  generalize H1 = H at hP hS ⊢
  clear p8 hPc hDc hKc hFc hP1 hD1 hk1 hz1 hw9
  obtain ⟨T9_4, eT9_4⟩ : ∃ t9 : va_W, t9 = WW 8 h57 l57 kw (fun _ => 0) (fun _ => 0) (fun _ _ => 0) ++ (T9_3) := ⟨_, rfl⟩
  have hP : va_P (dC, dI) vwCl ([(hG 0, .inr (3, [.null, .null, .null, .int 0, .int 0, .ref q7, .ref r15, .ref q22, .ref q33, .ref q44, .null, .null, .null, .null, .null, .null, .int 0])), (q7, .inl (kZ, 28, .inl (fun _ => 0))), (r15, .inl (kb, 28, .inr (.inr (.inr (.inr (fW 28 h15)))))), (r57, .inl (kb, 8, .inr (.inr (.inr (.inr (fW 8 h57))))))] ++ (T9_4)) H := by rw [eT9_4]; exact hP
  have hD : va_D A ([(hG 0, .inr (3, [.null, .null, .null, .int 0, .int 0, .ref q7, .ref r15, .ref q22, .ref q33, .ref q44, .null, .null, .null, .null, .null, .null, .int 0])), (q7, .inl (kZ, 28, .inl (fun _ => 0))), (r15, .inl (kb, 28, .inr (.inr (.inr (.inr (fW 28 h15)))))), (r57, .inl (kb, 8, .inr (.inr (.inr (.inr (fW 8 h57))))))] ++ (T9_4)) := by rw [eT9_4]; exact hD
  refine W.widen (k := 81) (n := 727) (by omega) (by omega) ?_
  refine va_putF (D := (dC, dI)) (ci := 3) (v := .ref r57) (ty := .array (.object "OptimaWorks$Whole")) (C := RX3) (T := TX3) (N := 17) hx hb hts iwsKX3_init_in3 tyX3 tyX3_ok nmX3 hown hK hP hD hS 0 rfl rfl 10 (by decide) (hts (.fieldLink RX3 40 "OptimaWorks$Prover" "place" "[LOptimaWorks$Whole;") (by decide +kernel)) (fun _ h9 => h9) rfl hin rfl (by decide +kernel) rfl rfl (Nat.le_of_ble_eq_true rfl) dX3_init_60 (fun H locs hP hD hS => ?_)
  have hP : va_P (dC, dI) vwCl ([(hG 0, .inr (3, [.null, .null, .null, .int 0, .int 0, .ref q7, .ref r15, .ref q22, .ref q33, .ref q44, .ref r57, .null, .null, .null, .null, .null, .int 0])), (q7, .inl (kZ, 28, .inl (fun _ => 0))), (r15, .inl (kb, 28, .inr (.inr (.inr (.inr (fW 28 h15)))))), (r57, .inl (kb, 8, .inr (.inr (.inr (.inr (fW 8 h57))))))] ++ (T9_4)) H := hP
  have hD : va_D A ([(hG 0, .inr (3, [.null, .null, .null, .int 0, .int 0, .ref q7, .ref r15, .ref q22, .ref q33, .ref q44, .ref r57, .null, .null, .null, .null, .null, .int 0])), (q7, .inl (kZ, 28, .inl (fun _ => 0))), (r15, .inl (kb, 28, .inr (.inr (.inr (.inr (fW 28 h15)))))), (r57, .inl (kb, 8, .inr (.inr (.inr (.inr (fW 8 h57))))))] ++ (T9_4)) := hD
  refine lv_aload_n hx hb dX3_init_63 rfl (lv_at hl 0 rfl) ?_
  refine va_new (ci := 8) (fs := [.null, .int 0, .int 0]) (C := RX8) (T := TX8) (N := 3) hx hb hts iwsKX3_init_in8 tyX8 tyX8_ok hown (hts _ hm_kl_X3_init_0) (hts _ hm_kl_X3_init_1) (hts _ hm_kl_X3_init_2) hK hP hD hS hA rfl (by decide +kernel) (by first | decide +kernel | (dsimp only [headSpec] <;> omega)) (by first | decide +kernel | (dsimp only [headSpec] <;> omega)) dX3_init_64 (fun q64 H hP hD hS => ?_)
  refine lv_dup hx hb dX3_init_67 rfl ?_
  have p9 : List.Perm (α := Nat × va_E) (([(hG 0, .inr (3, [.null, .null, .null, .int 0, .int 0, .ref q7, .ref r15, .ref q22, .ref q33, .ref q44, .ref r57, .null, .null, .null, .null, .null, .int 0])), (q7, .inl (kZ, 28, .inl (fun _ => 0))), (r15, .inl (kb, 28, .inr (.inr (.inr (.inr (fW 28 h15)))))), (r57, .inl (kb, 8, .inr (.inr (.inr (.inr (fW 8 h57))))))] ++ (T9_4)) ++ [(q64, .inr (8, [.null, .int 0, .int 0]))]) ([(q64, .inr (8, [.null, .int 0, .int 0]))] ++ ([(hG 0, .inr (3, [.null, .null, .null, .int 0, .int 0, .ref q7, .ref r15, .ref q22, .ref q33, .ref q44, .ref r57, .null, .null, .null, .null, .null, .int 0])), (q7, .inl (kZ, 28, .inl (fun _ => 0))), (r15, .inl (kb, 28, .inr (.inr (.inr (.inr (fW 28 h15)))))), (r57, .inl (kb, 8, .inr (.inr (.inr (.inr (fW 8 h57))))))] ++ (T9_4))) := List.perm_append_comm
  have hPc := hP.mem (fun q h => p9.mem_iff.mpr (List.mem_append_left _ h))
  have hDc := (hD.perm p9).left
  have hKc : va_K (dC, dI) vwCl ([]) _ := hK.sub [] rfl
  have hFc := freeG p9 hD hS hA
  refine va_callv (va_runIN (As := []) (rest := [.ref q64, .ref (hG 0)]) ⟨hx, hb, hml, hown, hts⟩ (p_X8_init l dC dI q64 H.size) ⟨va_cnB 0 hts gwsKX3_init_1 rfl rfl rfl (hE.2.2.1.2.2.2.2.1 (.methodLinkNest RX3 29 yX8_init RX11) (by decide +kernel)) (hts _ hm_kl_X3_init_2) (by decide +kernel) ⟨by first | decide +kernel | (dsimp only [headSpec] <;> omega), by first | decide +kernel | (dsimp only [headSpec] <;> omega)⟩, rfl, (hts _ hm_kl_X3_init_3)⟩ ⟨fun a U g mk q => by obtain ⟨q0, q1, qP, qK, qD⟩ := q; exact ⟨q0, q1, qP, va_K.moved (u := U) (U := U.calling g mk a) (Vm.Alike.refl U.vm) qK, qD⟩, fun U hU hW => ⟨rfl, by rw [hU], by rw [hU]; exact hPc, va_K.moved hW.alike hKc, hDc.weaken (fun _ _ _ _ => trivial)⟩⟩ rfl rfl hl.1 rfl (lv_room (Nat.le_of_ble_eq_true rfl)) dX3_init_68 ⟨by first | decide +kernel | (dsimp only [headSpec] <;> omega), by first | decide +kernel | (dsimp only [headSpec] <;> omega)⟩) hS (fun q _ h => hFc q h) hFc (fun u t H1 locs ht hvm hw hB hz1 hk1 hS => ?_)
  obtain ⟨y64, k9⟩ := u
  obtain ⟨hP1, hK1, hD1⟩ := hB
  dsimp only at hP1 hK1 hD1
  rw [ht] at hP1
  have hK1 := va_K.moved hvm.symm hK1
  obtain rfl : kw = k9 := (va_K.cl2 hK1 hK (i := 0) (j := 1) rfl rfl).symm
  clear hK1 hw
  have p8 : List.Perm (α := Nat × va_E) ([(hG 0, .inr (3, [.null, .null, .null, .int 0, .int 0, .ref q7, .ref r15, .ref q22, .ref q33, .ref q44, .ref r57, .null, .null, .null, .null, .null, .int 0])), (q7, .inl (kZ, 28, .inl (fun _ => 0))), (r15, .inl (kb, 28, .inr (.inr (.inr (.inr (fW 28 h15)))))), (r57, .inl (kb, 8, .inr (.inr (.inr (.inr (fW 8 h57))))))] ++ ([(q64, .inr (8, [.ref y64, .int 0, .int 0])), (y64, .inl (kw, 14, .inr (.inl (fun _ => 0))))] ++ (T9_4))) ([(q64, .inr (8, [.ref y64, .int 0, .int 0])), (y64, .inl (kw, 14, .inr (.inl (fun _ => 0))))] ++ ([(hG 0, .inr (3, [.null, .null, .null, .int 0, .int 0, .ref q7, .ref r15, .ref q22, .ref q33, .ref q44, .ref r57, .null, .null, .null, .null, .null, .int 0])), (q7, .inl (kZ, 28, .inl (fun _ => 0))), (r15, .inl (kb, 28, .inr (.inr (.inr (.inr (fW 28 h15)))))), (r57, .inl (kb, 8, .inr (.inr (.inr (.inr (fW 8 h57))))))] ++ (T9_4))) := List.perm_append_comm_assoc _ _ _
  obtain ⟨hP, hD⟩ := frameG p9 p8 hP hD hk1 hFc hP1 hD1
  generalize H1 = H at hP hS ⊢
  clear p9 p8 hPc hDc hKc hFc hP1 hD1 hk1 hz1
  obtain ⟨T9_5, eT9_5⟩ : ∃ t9 : va_W, t9 = WW 1 (fun _ => q64) (fun _ => y64) kw (fun _ => 0) (fun _ => 0) (fun _ _ => 0) ++ (T9_4) := ⟨_, rfl⟩
  have hP : va_P (dC, dI) vwCl ([(hG 0, .inr (3, [.null, .null, .null, .int 0, .int 0, .ref q7, .ref r15, .ref q22, .ref q33, .ref q44, .ref r57, .null, .null, .null, .null, .null, .int 0])), (q7, .inl (kZ, 28, .inl (fun _ => 0))), (r15, .inl (kb, 28, .inr (.inr (.inr (.inr (fW 28 h15)))))), (r57, .inl (kb, 8, .inr (.inr (.inr (.inr (fW 8 h57))))))] ++ (T9_5)) H := by rw [eT9_5]; exact hP
  have hD : va_D A ([(hG 0, .inr (3, [.null, .null, .null, .int 0, .int 0, .ref q7, .ref r15, .ref q22, .ref q33, .ref q44, .ref r57, .null, .null, .null, .null, .null, .int 0])), (q7, .inl (kZ, 28, .inl (fun _ => 0))), (r15, .inl (kb, 28, .inr (.inr (.inr (.inr (fW 28 h15)))))), (r57, .inl (kb, 8, .inr (.inr (.inr (.inr (fW 8 h57))))))] ++ (T9_5)) := by rw [eT9_5]; exact hD
  refine W.widen (k := 83) (n := 744) (by omega) (by omega) ?_
  refine va_putF (D := (dC, dI)) (ci := 3) (v := .ref q64) (ty := .object "OptimaWorks$Whole") (C := RX3) (T := TX3) (N := 17) hx hb hts iwsKX3_init_in3 tyX3 tyX3_ok nmX3 hown hK hP hD hS 0 rfl rfl 11 (by decide) (hts (.fieldLink RX3 43 "OptimaWorks$Prover" "shortfall" "LOptimaWorks$Whole;") (by decide +kernel)) (fun _ h9 => h9) rfl hin rfl (by decide +kernel) rfl rfl (Nat.le_of_ble_eq_true rfl) dX3_init_71 (fun H locs hP hD hS => ?_)
  have hP : va_P (dC, dI) vwCl ([(hG 0, .inr (3, [.null, .null, .null, .int 0, .int 0, .ref q7, .ref r15, .ref q22, .ref q33, .ref q44, .ref r57, .ref q64, .null, .null, .null, .null, .int 0])), (q7, .inl (kZ, 28, .inl (fun _ => 0))), (r15, .inl (kb, 28, .inr (.inr (.inr (.inr (fW 28 h15)))))), (r57, .inl (kb, 8, .inr (.inr (.inr (.inr (fW 8 h57))))))] ++ (T9_5)) H := hP
  have hD : va_D A ([(hG 0, .inr (3, [.null, .null, .null, .int 0, .int 0, .ref q7, .ref r15, .ref q22, .ref q33, .ref q44, .ref r57, .ref q64, .null, .null, .null, .null, .int 0])), (q7, .inl (kZ, 28, .inl (fun _ => 0))), (r15, .inl (kb, 28, .inr (.inr (.inr (.inr (fW 28 h15)))))), (r57, .inl (kb, 8, .inr (.inr (.inr (.inr (fW 8 h57))))))] ++ (T9_5)) := hD
  refine lv_aload_n hx hb dX3_init_74 rfl (lv_at hl 0 rfl) ?_
  refine va_new (ci := 8) (fs := [.null, .int 0, .int 0]) (C := RX8) (T := TX8) (N := 3) hx hb hts iwsKX3_init_in8 tyX8 tyX8_ok hown (hts _ hm_kl_X3_init_0) (hts _ hm_kl_X3_init_1) (hts _ hm_kl_X3_init_2) hK hP hD hS hA rfl (by decide +kernel) (by first | decide +kernel | (dsimp only [headSpec] <;> omega)) (by first | decide +kernel | (dsimp only [headSpec] <;> omega)) dX3_init_75 (fun q75 H hP hD hS => ?_)
  refine lv_dup hx hb dX3_init_78 rfl ?_
  have p9 : List.Perm (α := Nat × va_E) (([(hG 0, .inr (3, [.null, .null, .null, .int 0, .int 0, .ref q7, .ref r15, .ref q22, .ref q33, .ref q44, .ref r57, .ref q64, .null, .null, .null, .null, .int 0])), (q7, .inl (kZ, 28, .inl (fun _ => 0))), (r15, .inl (kb, 28, .inr (.inr (.inr (.inr (fW 28 h15)))))), (r57, .inl (kb, 8, .inr (.inr (.inr (.inr (fW 8 h57))))))] ++ (T9_5)) ++ [(q75, .inr (8, [.null, .int 0, .int 0]))]) ([(q75, .inr (8, [.null, .int 0, .int 0]))] ++ ([(hG 0, .inr (3, [.null, .null, .null, .int 0, .int 0, .ref q7, .ref r15, .ref q22, .ref q33, .ref q44, .ref r57, .ref q64, .null, .null, .null, .null, .int 0])), (q7, .inl (kZ, 28, .inl (fun _ => 0))), (r15, .inl (kb, 28, .inr (.inr (.inr (.inr (fW 28 h15)))))), (r57, .inl (kb, 8, .inr (.inr (.inr (.inr (fW 8 h57))))))] ++ (T9_5))) := List.perm_append_comm
  have hPc := hP.mem (fun q h => p9.mem_iff.mpr (List.mem_append_left _ h))
  have hDc := (hD.perm p9).left
  have hKc : va_K (dC, dI) vwCl ([]) _ := hK.sub [] rfl
  have hFc := freeG p9 hD hS hA
  refine va_callv (va_runIN (As := []) (rest := [.ref q75, .ref (hG 0)]) ⟨hx, hb, hml, hown, hts⟩ (p_X8_init l dC dI q75 H.size) ⟨va_cnB 0 hts gwsKX3_init_1 rfl rfl rfl (hE.2.2.1.2.2.2.2.1 (.methodLinkNest RX3 29 yX8_init RX11) (by decide +kernel)) (hts _ hm_kl_X3_init_2) (by decide +kernel) ⟨by first | decide +kernel | (dsimp only [headSpec] <;> omega), by first | decide +kernel | (dsimp only [headSpec] <;> omega)⟩, rfl, (hts _ hm_kl_X3_init_3)⟩ ⟨fun a U g mk q => by obtain ⟨q0, q1, qP, qK, qD⟩ := q; exact ⟨q0, q1, qP, va_K.moved (u := U) (U := U.calling g mk a) (Vm.Alike.refl U.vm) qK, qD⟩, fun U hU hW => ⟨rfl, by rw [hU], by rw [hU]; exact hPc, va_K.moved hW.alike hKc, hDc.weaken (fun _ _ _ _ => trivial)⟩⟩ rfl rfl hl.1 rfl (lv_room (Nat.le_of_ble_eq_true rfl)) dX3_init_79 ⟨by first | decide +kernel | (dsimp only [headSpec] <;> omega), by first | decide +kernel | (dsimp only [headSpec] <;> omega)⟩) hS (fun q _ h => hFc q h) hFc (fun u t H1 locs ht hvm hw hB hz1 hk1 hS => ?_)
  obtain ⟨y75, k9⟩ := u
  obtain ⟨hP1, hK1, hD1⟩ := hB
  dsimp only at hP1 hK1 hD1
  rw [ht] at hP1
  have hK1 := va_K.moved hvm.symm hK1
  obtain rfl : kw = k9 := (va_K.cl2 hK1 hK (i := 0) (j := 1) rfl rfl).symm
  clear hK1 hw
  have p8 : List.Perm (α := Nat × va_E) ([(hG 0, .inr (3, [.null, .null, .null, .int 0, .int 0, .ref q7, .ref r15, .ref q22, .ref q33, .ref q44, .ref r57, .ref q64, .null, .null, .null, .null, .int 0])), (q7, .inl (kZ, 28, .inl (fun _ => 0))), (r15, .inl (kb, 28, .inr (.inr (.inr (.inr (fW 28 h15)))))), (r57, .inl (kb, 8, .inr (.inr (.inr (.inr (fW 8 h57))))))] ++ ([(q75, .inr (8, [.ref y75, .int 0, .int 0])), (y75, .inl (kw, 14, .inr (.inl (fun _ => 0))))] ++ (T9_5))) ([(q75, .inr (8, [.ref y75, .int 0, .int 0])), (y75, .inl (kw, 14, .inr (.inl (fun _ => 0))))] ++ ([(hG 0, .inr (3, [.null, .null, .null, .int 0, .int 0, .ref q7, .ref r15, .ref q22, .ref q33, .ref q44, .ref r57, .ref q64, .null, .null, .null, .null, .int 0])), (q7, .inl (kZ, 28, .inl (fun _ => 0))), (r15, .inl (kb, 28, .inr (.inr (.inr (.inr (fW 28 h15)))))), (r57, .inl (kb, 8, .inr (.inr (.inr (.inr (fW 8 h57))))))] ++ (T9_5))) := List.perm_append_comm_assoc _ _ _
  obtain ⟨hP, hD⟩ := frameG p9 p8 hP hD hk1 hFc hP1 hD1
  generalize H1 = H at hP hS ⊢
  clear p9 p8 hPc hDc hKc hFc hP1 hD1 hk1 hz1
  obtain ⟨T9_6, eT9_6⟩ : ∃ t9 : va_W, t9 = WW 1 (fun _ => q75) (fun _ => y75) kw (fun _ => 0) (fun _ => 0) (fun _ _ => 0) ++ (T9_5) := ⟨_, rfl⟩
  have hP : va_P (dC, dI) vwCl ([(hG 0, .inr (3, [.null, .null, .null, .int 0, .int 0, .ref q7, .ref r15, .ref q22, .ref q33, .ref q44, .ref r57, .ref q64, .null, .null, .null, .null, .int 0])), (q7, .inl (kZ, 28, .inl (fun _ => 0))), (r15, .inl (kb, 28, .inr (.inr (.inr (.inr (fW 28 h15)))))), (r57, .inl (kb, 8, .inr (.inr (.inr (.inr (fW 8 h57))))))] ++ (T9_6)) H := by rw [eT9_6]; exact hP
  have hD : va_D A ([(hG 0, .inr (3, [.null, .null, .null, .int 0, .int 0, .ref q7, .ref r15, .ref q22, .ref q33, .ref q44, .ref r57, .ref q64, .null, .null, .null, .null, .int 0])), (q7, .inl (kZ, 28, .inl (fun _ => 0))), (r15, .inl (kb, 28, .inr (.inr (.inr (.inr (fW 28 h15)))))), (r57, .inl (kb, 8, .inr (.inr (.inr (.inr (fW 8 h57))))))] ++ (T9_6)) := by rw [eT9_6]; exact hD
  refine W.widen (k := 85) (n := 761) (by omega) (by omega) ?_
  refine va_putF (D := (dC, dI)) (ci := 3) (v := .ref q75) (ty := .object "OptimaWorks$Whole") (C := RX3) (T := TX3) (N := 17) hx hb hts iwsKX3_init_in3 tyX3 tyX3_ok nmX3 hown hK hP hD hS 0 rfl rfl 12 (by decide) (hts (.fieldLink RX3 46 "OptimaWorks$Prover" "under" "LOptimaWorks$Whole;") (by decide +kernel)) (fun _ h9 => h9) rfl hin rfl (by decide +kernel) rfl rfl (Nat.le_of_ble_eq_true rfl) dX3_init_82 (fun H locs hP hD hS => ?_)
  have hP : va_P (dC, dI) vwCl ([(hG 0, .inr (3, [.null, .null, .null, .int 0, .int 0, .ref q7, .ref r15, .ref q22, .ref q33, .ref q44, .ref r57, .ref q64, .ref q75, .null, .null, .null, .int 0])), (q7, .inl (kZ, 28, .inl (fun _ => 0))), (r15, .inl (kb, 28, .inr (.inr (.inr (.inr (fW 28 h15)))))), (r57, .inl (kb, 8, .inr (.inr (.inr (.inr (fW 8 h57))))))] ++ (T9_6)) H := hP
  have hD : va_D A ([(hG 0, .inr (3, [.null, .null, .null, .int 0, .int 0, .ref q7, .ref r15, .ref q22, .ref q33, .ref q44, .ref r57, .ref q64, .ref q75, .null, .null, .null, .int 0])), (q7, .inl (kZ, 28, .inl (fun _ => 0))), (r15, .inl (kb, 28, .inr (.inr (.inr (.inr (fW 28 h15)))))), (r57, .inl (kb, 8, .inr (.inr (.inr (.inr (fW 8 h57))))))] ++ (T9_6)) := hD
  refine lv_aload_n hx hb dX3_init_85 rfl (lv_at hl 0 rfl) ?_
  refine va_new (ci := 8) (fs := [.null, .int 0, .int 0]) (C := RX8) (T := TX8) (N := 3) hx hb hts iwsKX3_init_in8 tyX8 tyX8_ok hown (hts _ hm_kl_X3_init_0) (hts _ hm_kl_X3_init_1) (hts _ hm_kl_X3_init_2) hK hP hD hS hA rfl (by decide +kernel) (by first | decide +kernel | (dsimp only [headSpec] <;> omega)) (by first | decide +kernel | (dsimp only [headSpec] <;> omega)) dX3_init_86 (fun q86 H hP hD hS => ?_)
  refine lv_dup hx hb dX3_init_89 rfl ?_
  have p9 : List.Perm (α := Nat × va_E) (([(hG 0, .inr (3, [.null, .null, .null, .int 0, .int 0, .ref q7, .ref r15, .ref q22, .ref q33, .ref q44, .ref r57, .ref q64, .ref q75, .null, .null, .null, .int 0])), (q7, .inl (kZ, 28, .inl (fun _ => 0))), (r15, .inl (kb, 28, .inr (.inr (.inr (.inr (fW 28 h15)))))), (r57, .inl (kb, 8, .inr (.inr (.inr (.inr (fW 8 h57))))))] ++ (T9_6)) ++ [(q86, .inr (8, [.null, .int 0, .int 0]))]) ([(q86, .inr (8, [.null, .int 0, .int 0]))] ++ ([(hG 0, .inr (3, [.null, .null, .null, .int 0, .int 0, .ref q7, .ref r15, .ref q22, .ref q33, .ref q44, .ref r57, .ref q64, .ref q75, .null, .null, .null, .int 0])), (q7, .inl (kZ, 28, .inl (fun _ => 0))), (r15, .inl (kb, 28, .inr (.inr (.inr (.inr (fW 28 h15)))))), (r57, .inl (kb, 8, .inr (.inr (.inr (.inr (fW 8 h57))))))] ++ (T9_6))) := List.perm_append_comm
  have hPc := hP.mem (fun q h => p9.mem_iff.mpr (List.mem_append_left _ h))
  have hDc := (hD.perm p9).left
  have hKc : va_K (dC, dI) vwCl ([]) _ := hK.sub [] rfl
  have hFc := freeG p9 hD hS hA
  refine va_callv (va_runIN (As := []) (rest := [.ref q86, .ref (hG 0)]) ⟨hx, hb, hml, hown, hts⟩ (p_X8_init l dC dI q86 H.size) ⟨va_cnB 0 hts gwsKX3_init_1 rfl rfl rfl (hE.2.2.1.2.2.2.2.1 (.methodLinkNest RX3 29 yX8_init RX11) (by decide +kernel)) (hts _ hm_kl_X3_init_2) (by decide +kernel) ⟨by first | decide +kernel | (dsimp only [headSpec] <;> omega), by first | decide +kernel | (dsimp only [headSpec] <;> omega)⟩, rfl, (hts _ hm_kl_X3_init_3)⟩ ⟨fun a U g mk q => by obtain ⟨q0, q1, qP, qK, qD⟩ := q; exact ⟨q0, q1, qP, va_K.moved (u := U) (U := U.calling g mk a) (Vm.Alike.refl U.vm) qK, qD⟩, fun U hU hW => ⟨rfl, by rw [hU], by rw [hU]; exact hPc, va_K.moved hW.alike hKc, hDc.weaken (fun _ _ _ _ => trivial)⟩⟩ rfl rfl hl.1 rfl (lv_room (Nat.le_of_ble_eq_true rfl)) dX3_init_90 ⟨by first | decide +kernel | (dsimp only [headSpec] <;> omega), by first | decide +kernel | (dsimp only [headSpec] <;> omega)⟩) hS (fun q _ h => hFc q h) hFc (fun u t H1 locs ht hvm hw hB hz1 hk1 hS => ?_)
  obtain ⟨y86, k9⟩ := u
  obtain ⟨hP1, hK1, hD1⟩ := hB
  dsimp only at hP1 hK1 hD1
  rw [ht] at hP1
  have hK1 := va_K.moved hvm.symm hK1
  obtain rfl : kw = k9 := (va_K.cl2 hK1 hK (i := 0) (j := 1) rfl rfl).symm
  clear hK1 hw
  have p8 : List.Perm (α := Nat × va_E) ([(hG 0, .inr (3, [.null, .null, .null, .int 0, .int 0, .ref q7, .ref r15, .ref q22, .ref q33, .ref q44, .ref r57, .ref q64, .ref q75, .null, .null, .null, .int 0])), (q7, .inl (kZ, 28, .inl (fun _ => 0))), (r15, .inl (kb, 28, .inr (.inr (.inr (.inr (fW 28 h15)))))), (r57, .inl (kb, 8, .inr (.inr (.inr (.inr (fW 8 h57))))))] ++ ([(q86, .inr (8, [.ref y86, .int 0, .int 0])), (y86, .inl (kw, 14, .inr (.inl (fun _ => 0))))] ++ (T9_6))) ([(q86, .inr (8, [.ref y86, .int 0, .int 0])), (y86, .inl (kw, 14, .inr (.inl (fun _ => 0))))] ++ ([(hG 0, .inr (3, [.null, .null, .null, .int 0, .int 0, .ref q7, .ref r15, .ref q22, .ref q33, .ref q44, .ref r57, .ref q64, .ref q75, .null, .null, .null, .int 0])), (q7, .inl (kZ, 28, .inl (fun _ => 0))), (r15, .inl (kb, 28, .inr (.inr (.inr (.inr (fW 28 h15)))))), (r57, .inl (kb, 8, .inr (.inr (.inr (.inr (fW 8 h57))))))] ++ (T9_6))) := List.perm_append_comm_assoc _ _ _
  obtain ⟨hP, hD⟩ := frameG p9 p8 hP hD hk1 hFc hP1 hD1
  generalize H1 = H at hP hS ⊢
  clear p9 p8 hPc hDc hKc hFc hP1 hD1 hk1 hz1
  obtain ⟨T9_7, eT9_7⟩ : ∃ t9 : va_W, t9 = WW 1 (fun _ => q86) (fun _ => y86) kw (fun _ => 0) (fun _ => 0) (fun _ _ => 0) ++ (T9_6) := ⟨_, rfl⟩
  have hP : va_P (dC, dI) vwCl ([(hG 0, .inr (3, [.null, .null, .null, .int 0, .int 0, .ref q7, .ref r15, .ref q22, .ref q33, .ref q44, .ref r57, .ref q64, .ref q75, .null, .null, .null, .int 0])), (q7, .inl (kZ, 28, .inl (fun _ => 0))), (r15, .inl (kb, 28, .inr (.inr (.inr (.inr (fW 28 h15)))))), (r57, .inl (kb, 8, .inr (.inr (.inr (.inr (fW 8 h57))))))] ++ (T9_7)) H := by rw [eT9_7]; exact hP
  have hD : va_D A ([(hG 0, .inr (3, [.null, .null, .null, .int 0, .int 0, .ref q7, .ref r15, .ref q22, .ref q33, .ref q44, .ref r57, .ref q64, .ref q75, .null, .null, .null, .int 0])), (q7, .inl (kZ, 28, .inl (fun _ => 0))), (r15, .inl (kb, 28, .inr (.inr (.inr (.inr (fW 28 h15)))))), (r57, .inl (kb, 8, .inr (.inr (.inr (.inr (fW 8 h57))))))] ++ (T9_7)) := by rw [eT9_7]; exact hD
  refine W.widen (k := 87) (n := 778) (by omega) (by omega) ?_
  refine va_putF (D := (dC, dI)) (ci := 3) (v := .ref q86) (ty := .object "OptimaWorks$Whole") (C := RX3) (T := TX3) (N := 17) hx hb hts iwsKX3_init_in3 tyX3 tyX3_ok nmX3 hown hK hP hD hS 0 rfl rfl 13 (by decide) (hts (.fieldLink RX3 49 "OptimaWorks$Prover" "leftOver" "LOptimaWorks$Whole;") (by decide +kernel)) (fun _ h9 => h9) rfl hin rfl (by decide +kernel) rfl rfl (Nat.le_of_ble_eq_true rfl) dX3_init_93 (fun H locs hP hD hS => ?_)
  have hP : va_P (dC, dI) vwCl ([(hG 0, .inr (3, [.null, .null, .null, .int 0, .int 0, .ref q7, .ref r15, .ref q22, .ref q33, .ref q44, .ref r57, .ref q64, .ref q75, .ref q86, .null, .null, .int 0])), (q7, .inl (kZ, 28, .inl (fun _ => 0))), (r15, .inl (kb, 28, .inr (.inr (.inr (.inr (fW 28 h15)))))), (r57, .inl (kb, 8, .inr (.inr (.inr (.inr (fW 8 h57))))))] ++ (T9_7)) H := hP
  have hD : va_D A ([(hG 0, .inr (3, [.null, .null, .null, .int 0, .int 0, .ref q7, .ref r15, .ref q22, .ref q33, .ref q44, .ref r57, .ref q64, .ref q75, .ref q86, .null, .null, .int 0])), (q7, .inl (kZ, 28, .inl (fun _ => 0))), (r15, .inl (kb, 28, .inr (.inr (.inr (.inr (fW 28 h15)))))), (r57, .inl (kb, 8, .inr (.inr (.inr (.inr (fW 8 h57))))))] ++ (T9_7)) := hD
  refine lv_aload_n hx hb dX3_init_96 rfl (lv_at hl 0 rfl) ?_
  refine lv_bipush (v := 40) hx hb dX3_init_97 (by decide) ?_
  refine va_newa (atype := .int) (ty := .int) (N' := 40) (a0 := (40, .inl (fun _ => 0))) hx hb (hts _ hm_kl_X3_init_4) rfl hK hP hD hS hA (fun _ => rfl) (by decide) (by decide) (by decide +kernel) (by first | decide +kernel | (dsimp only [headSpec] <;> omega)) (by first | decide +kernel | (dsimp only [headSpec] <;> omega)) dX3_init_99 (fun q99 cA H hKn hP hD hS => ?_)
  obtain rfl : kI = cA := (va_K.cl2 hKn hK (i := 4) (j := 2) rfl rfl).symm
  clear hKn
  have hP := hP.mem (fun q h => (perm_mid (a := [(hG 0, .inr (3, [.null, .null, .null, .int 0, .int 0, .ref q7, .ref r15, .ref q22, .ref q33, .ref q44, .ref r57, .ref q64, .ref q75, .ref q86, .null, .null, .int 0])), (q7, .inl (kZ, 28, .inl (fun _ => 0))), (r15, .inl (kb, 28, .inr (.inr (.inr (.inr (fW 28 h15)))))), (r57, .inl (kb, 8, .inr (.inr (.inr (.inr (fW 8 h57))))))]) (t := T9_7) (x := (q99, .inl (kI, 40, .inl (fun _ => 0))))).mem_iff.mpr h)
  have hD := hD.perm (perm_mid (a := [(hG 0, .inr (3, [.null, .null, .null, .int 0, .int 0, .ref q7, .ref r15, .ref q22, .ref q33, .ref q44, .ref r57, .ref q64, .ref q75, .ref q86, .null, .null, .int 0])), (q7, .inl (kZ, 28, .inl (fun _ => 0))), (r15, .inl (kb, 28, .inr (.inr (.inr (.inr (fW 28 h15)))))), (r57, .inl (kb, 8, .inr (.inr (.inr (.inr (fW 8 h57))))))]) (t := T9_7) (x := (q99, .inl (kI, 40, .inl (fun _ => 0)))))
  have hP : va_P (dC, dI) vwCl ([(hG 0, .inr (3, [.null, .null, .null, .int 0, .int 0, .ref q7, .ref r15, .ref q22, .ref q33, .ref q44, .ref r57, .ref q64, .ref q75, .ref q86, .null, .null, .int 0])), (q7, .inl (kZ, 28, .inl (fun _ => 0))), (r15, .inl (kb, 28, .inr (.inr (.inr (.inr (fW 28 h15)))))), (r57, .inl (kb, 8, .inr (.inr (.inr (.inr (fW 8 h57)))))), (q99, .inl (kI, 40, .inl (fun _ => 0)))] ++ (T9_7)) H := hP
  have hD : va_D A ([(hG 0, .inr (3, [.null, .null, .null, .int 0, .int 0, .ref q7, .ref r15, .ref q22, .ref q33, .ref q44, .ref r57, .ref q64, .ref q75, .ref q86, .null, .null, .int 0])), (q7, .inl (kZ, 28, .inl (fun _ => 0))), (r15, .inl (kb, 28, .inr (.inr (.inr (.inr (fW 28 h15)))))), (r57, .inl (kb, 8, .inr (.inr (.inr (.inr (fW 8 h57)))))), (q99, .inl (kI, 40, .inl (fun _ => 0)))] ++ (T9_7)) := hD
  refine W.widen (k := 88) (n := 818) (by omega) (by omega) ?_
  refine va_putF (D := (dC, dI)) (ci := 3) (v := .ref q99) (ty := .array .int) (C := RX3) (T := TX3) (N := 17) hx hb hts iwsKX3_init_in3 tyX3 tyX3_ok nmX3 hown hK hP hD hS 0 rfl rfl 14 (by decide) (hts (.fieldLink RX3 52 "OptimaWorks$Prover" "need" "[I") (by decide +kernel)) (fun _ h9 => h9) rfl hin rfl (by decide +kernel) rfl rfl (Nat.le_of_ble_eq_true rfl) dX3_init_101 (fun H locs hP hD hS => ?_)
  have hP : va_P (dC, dI) vwCl ([(hG 0, .inr (3, [.null, .null, .null, .int 0, .int 0, .ref q7, .ref r15, .ref q22, .ref q33, .ref q44, .ref r57, .ref q64, .ref q75, .ref q86, .ref q99, .null, .int 0])), (q7, .inl (kZ, 28, .inl (fun _ => 0))), (r15, .inl (kb, 28, .inr (.inr (.inr (.inr (fW 28 h15)))))), (r57, .inl (kb, 8, .inr (.inr (.inr (.inr (fW 8 h57)))))), (q99, .inl (kI, 40, .inl (fun _ => 0)))] ++ (T9_7)) H := hP
  have hD : va_D A ([(hG 0, .inr (3, [.null, .null, .null, .int 0, .int 0, .ref q7, .ref r15, .ref q22, .ref q33, .ref q44, .ref r57, .ref q64, .ref q75, .ref q86, .ref q99, .null, .int 0])), (q7, .inl (kZ, 28, .inl (fun _ => 0))), (r15, .inl (kb, 28, .inr (.inr (.inr (.inr (fW 28 h15)))))), (r57, .inl (kb, 8, .inr (.inr (.inr (.inr (fW 8 h57)))))), (q99, .inl (kI, 40, .inl (fun _ => 0)))] ++ (T9_7)) := hD
  refine lv_aload_n hx hb dX3_init_104 rfl (lv_at hl 0 rfl) ?_
  refine lv_bipush (v := 40) hx hb dX3_init_105 (by decide) ?_
  refine va_newa (atype := .int) (ty := .int) (N' := 40) (a0 := (40, .inl (fun _ => 0))) hx hb (hts _ hm_kl_X3_init_4) rfl hK hP hD hS hA (fun _ => rfl) (by decide) (by decide) (by decide +kernel) (by first | decide +kernel | (dsimp only [headSpec] <;> omega)) (by first | decide +kernel | (dsimp only [headSpec] <;> omega)) dX3_init_107 (fun q107 cA H hKn hP hD hS => ?_)
  obtain rfl : kI = cA := (va_K.cl2 hKn hK (i := 4) (j := 2) rfl rfl).symm
  clear hKn
  have hP := hP.mem (fun q h => (perm_mid (a := [(hG 0, .inr (3, [.null, .null, .null, .int 0, .int 0, .ref q7, .ref r15, .ref q22, .ref q33, .ref q44, .ref r57, .ref q64, .ref q75, .ref q86, .ref q99, .null, .int 0])), (q7, .inl (kZ, 28, .inl (fun _ => 0))), (r15, .inl (kb, 28, .inr (.inr (.inr (.inr (fW 28 h15)))))), (r57, .inl (kb, 8, .inr (.inr (.inr (.inr (fW 8 h57)))))), (q99, .inl (kI, 40, .inl (fun _ => 0)))]) (t := T9_7) (x := (q107, .inl (kI, 40, .inl (fun _ => 0))))).mem_iff.mpr h)
  have hD := hD.perm (perm_mid (a := [(hG 0, .inr (3, [.null, .null, .null, .int 0, .int 0, .ref q7, .ref r15, .ref q22, .ref q33, .ref q44, .ref r57, .ref q64, .ref q75, .ref q86, .ref q99, .null, .int 0])), (q7, .inl (kZ, 28, .inl (fun _ => 0))), (r15, .inl (kb, 28, .inr (.inr (.inr (.inr (fW 28 h15)))))), (r57, .inl (kb, 8, .inr (.inr (.inr (.inr (fW 8 h57)))))), (q99, .inl (kI, 40, .inl (fun _ => 0)))]) (t := T9_7) (x := (q107, .inl (kI, 40, .inl (fun _ => 0)))))
  have hP : va_P (dC, dI) vwCl ([(hG 0, .inr (3, [.null, .null, .null, .int 0, .int 0, .ref q7, .ref r15, .ref q22, .ref q33, .ref q44, .ref r57, .ref q64, .ref q75, .ref q86, .ref q99, .null, .int 0])), (q7, .inl (kZ, 28, .inl (fun _ => 0))), (r15, .inl (kb, 28, .inr (.inr (.inr (.inr (fW 28 h15)))))), (r57, .inl (kb, 8, .inr (.inr (.inr (.inr (fW 8 h57)))))), (q99, .inl (kI, 40, .inl (fun _ => 0))), (q107, .inl (kI, 40, .inl (fun _ => 0)))] ++ (T9_7)) H := hP
  have hD : va_D A ([(hG 0, .inr (3, [.null, .null, .null, .int 0, .int 0, .ref q7, .ref r15, .ref q22, .ref q33, .ref q44, .ref r57, .ref q64, .ref q75, .ref q86, .ref q99, .null, .int 0])), (q7, .inl (kZ, 28, .inl (fun _ => 0))), (r15, .inl (kb, 28, .inr (.inr (.inr (.inr (fW 28 h15)))))), (r57, .inl (kb, 8, .inr (.inr (.inr (.inr (fW 8 h57)))))), (q99, .inl (kI, 40, .inl (fun _ => 0))), (q107, .inl (kI, 40, .inl (fun _ => 0)))] ++ (T9_7)) := hD
  refine W.widen (k := 89) (n := 858) (by omega) (by omega) ?_
  refine va_putF (D := (dC, dI)) (ci := 3) (v := .ref q107) (ty := .array .int) (C := RX3) (T := TX3) (N := 17) hx hb hts iwsKX3_init_in3 tyX3 tyX3_ok nmX3 hown hK hP hD hS 0 rfl rfl 15 (by decide) (hts (.fieldLink RX3 56 "OptimaWorks$Prover" "turn" "[I") (by decide +kernel)) (fun _ h9 => h9) rfl hin rfl (by decide +kernel) rfl rfl (Nat.le_of_ble_eq_true rfl) dX3_init_109 (fun H locs hP hD hS => ?_)
  have hP : va_P (dC, dI) vwCl ([(hG 0, .inr (3, [.null, .null, .null, .int 0, .int 0, .ref q7, .ref r15, .ref q22, .ref q33, .ref q44, .ref r57, .ref q64, .ref q75, .ref q86, .ref q99, .ref q107, .int 0])), (q7, .inl (kZ, 28, .inl (fun _ => 0))), (r15, .inl (kb, 28, .inr (.inr (.inr (.inr (fW 28 h15)))))), (r57, .inl (kb, 8, .inr (.inr (.inr (.inr (fW 8 h57)))))), (q99, .inl (kI, 40, .inl (fun _ => 0))), (q107, .inl (kI, 40, .inl (fun _ => 0)))] ++ (T9_7)) H := hP
  have hD : va_D A ([(hG 0, .inr (3, [.null, .null, .null, .int 0, .int 0, .ref q7, .ref r15, .ref q22, .ref q33, .ref q44, .ref r57, .ref q64, .ref q75, .ref q86, .ref q99, .ref q107, .int 0])), (q7, .inl (kZ, 28, .inl (fun _ => 0))), (r15, .inl (kb, 28, .inr (.inr (.inr (.inr (fW 28 h15)))))), (r57, .inl (kb, 8, .inr (.inr (.inr (.inr (fW 8 h57)))))), (q99, .inl (kI, 40, .inl (fun _ => 0))), (q107, .inl (kI, 40, .inl (fun _ => 0)))] ++ (T9_7)) := hD
  refine lv_aload_n hx hb dX3_init_112 rfl (lv_at hl 0 rfl) ?_
  refine lv_aload_n hx hb dX3_init_113 rfl (lv_at hl 1 rfl) ?_
  refine va_putF (D := (dC, dI)) (ci := 3) (v := .ref (hM 0)) (ty := .object "OptimaWorks$Model") (C := RX3) (T := TX3) (N := 17) hx hb hts iwsKX3_init_in3 tyX3 tyX3_ok nmX3 hown hK hP hD hS 0 rfl rfl 0 (by decide) (hts (.fieldLink RX3 59 "OptimaWorks$Prover" "model" "LOptimaWorks$Model;") (by decide +kernel)) (fun _ h9 => h9) rfl hin rfl (by decide +kernel) rfl rfl (Nat.le_of_ble_eq_true rfl) dX3_init_114 (fun H locs hP hD hS => ?_)
  have hP : va_P (dC, dI) vwCl ([(hG 0, .inr (3, [.ref (hM 0), .null, .null, .int 0, .int 0, .ref q7, .ref r15, .ref q22, .ref q33, .ref q44, .ref r57, .ref q64, .ref q75, .ref q86, .ref q99, .ref q107, .int 0])), (q7, .inl (kZ, 28, .inl (fun _ => 0))), (r15, .inl (kb, 28, .inr (.inr (.inr (.inr (fW 28 h15)))))), (r57, .inl (kb, 8, .inr (.inr (.inr (.inr (fW 8 h57)))))), (q99, .inl (kI, 40, .inl (fun _ => 0))), (q107, .inl (kI, 40, .inl (fun _ => 0)))] ++ (T9_7)) H := hP
  have hD : va_D A ([(hG 0, .inr (3, [.ref (hM 0), .null, .null, .int 0, .int 0, .ref q7, .ref r15, .ref q22, .ref q33, .ref q44, .ref r57, .ref q64, .ref q75, .ref q86, .ref q99, .ref q107, .int 0])), (q7, .inl (kZ, 28, .inl (fun _ => 0))), (r15, .inl (kb, 28, .inr (.inr (.inr (.inr (fW 28 h15)))))), (r57, .inl (kb, 8, .inr (.inr (.inr (.inr (fW 8 h57)))))), (q99, .inl (kI, 40, .inl (fun _ => 0))), (q107, .inl (kI, 40, .inl (fun _ => 0)))] ++ (T9_7)) := hD
  refine lv_aload_n hx hb dX3_init_117 rfl (lv_at hl 0 rfl) ?_
  refine lv_aload_n hx hb dX3_init_118 rfl (lv_at hl 2 rfl) ?_
  refine va_putF (D := (dC, dI)) (ci := 3) (v := .ref (hO 0)) (ty := .object "OptimaWorks$Solver") (C := RX3) (T := TX3) (N := 17) hx hb hts iwsKX3_init_in3 tyX3 tyX3_ok nmX3 hown hK hP hD hS 0 rfl rfl 1 (by decide) (hts (.fieldLink RX3 63 "OptimaWorks$Prover" "solver" "LOptimaWorks$Solver;") (by decide +kernel)) (fun _ h9 => h9) rfl hin rfl (by decide +kernel) rfl rfl (Nat.le_of_ble_eq_true rfl) dX3_init_119 (fun H locs hP hD hS => ?_)
  have hP : va_P (dC, dI) vwCl ([(hG 0, .inr (3, [.ref (hM 0), .ref (hO 0), .null, .int 0, .int 0, .ref q7, .ref r15, .ref q22, .ref q33, .ref q44, .ref r57, .ref q64, .ref q75, .ref q86, .ref q99, .ref q107, .int 0])), (q7, .inl (kZ, 28, .inl (fun _ => 0))), (r15, .inl (kb, 28, .inr (.inr (.inr (.inr (fW 28 h15)))))), (r57, .inl (kb, 8, .inr (.inr (.inr (.inr (fW 8 h57)))))), (q99, .inl (kI, 40, .inl (fun _ => 0))), (q107, .inl (kI, 40, .inl (fun _ => 0)))] ++ (T9_7)) H := hP
  have hD : va_D A ([(hG 0, .inr (3, [.ref (hM 0), .ref (hO 0), .null, .int 0, .int 0, .ref q7, .ref r15, .ref q22, .ref q33, .ref q44, .ref r57, .ref q64, .ref q75, .ref q86, .ref q99, .ref q107, .int 0])), (q7, .inl (kZ, 28, .inl (fun _ => 0))), (r15, .inl (kb, 28, .inr (.inr (.inr (.inr (fW 28 h15)))))), (r57, .inl (kb, 8, .inr (.inr (.inr (.inr (fW 8 h57)))))), (q99, .inl (kI, 40, .inl (fun _ => 0))), (q107, .inl (kI, 40, .inl (fun _ => 0)))] ++ (T9_7)) := hD
  subst eT9_7
  subst eT9_6
  subst eT9_5
  subst eT9_4
  subst eT9_3
  subst eT9_2
  subst eT9_1
  subst eT9_0
  obtain ⟨L9, eL9⟩ : ∃ t9 : va_W, t9 = [(hG 0, .inr (3, [.ref (hM 0), .ref (hO 0), .null, .int 0, .int 0, .ref q7, .ref r15, .ref q22, .ref q33, .ref q44, .ref r57, .ref q64, .ref q75, .ref q86, .ref q99, .ref q107, .int 0])), (q7, .inl (kZ, 28, .inl (fun _ => 0))), (r15, .inl (kb, 28, .inr (.inr (.inr (.inr (fW 28 h15)))))), (r57, .inl (kb, 8, .inr (.inr (.inr (.inr (fW 8 h57)))))), (q99, .inl (kI, 40, .inl (fun _ => 0))), (q107, .inl (kI, 40, .inl (fun _ => 0)))] := ⟨_, rfl⟩
  have hP : va_P (dC, dI) vwCl (L9 ++ (WW 1 (fun _ => q86) (fun _ => y86) kw (fun _ => 0) (fun _ => 0) (fun _ _ => 0) ++ (WW 1 (fun _ => q75) (fun _ => y75) kw (fun _ => 0) (fun _ => 0) (fun _ _ => 0) ++ (WW 1 (fun _ => q64) (fun _ => y64) kw (fun _ => 0) (fun _ => 0) (fun _ _ => 0) ++ (WW 8 h57 l57 kw (fun _ => 0) (fun _ => 0) (fun _ _ => 0) ++ (WW 1 (fun _ => q44) (fun _ => y44) kw (fun _ => 0) (fun _ => 0) (fun _ _ => 0) ++ (WW 1 (fun _ => q33) (fun _ => y33) kw (fun _ => 0) (fun _ => 0) (fun _ _ => 0) ++ (WW 1 (fun _ => q22) (fun _ => y22) kw (fun _ => 0) (fun _ => 0) (fun _ _ => 0) ++ (WW 28 h15 l15 kw (fun _ => 0) (fun _ => 0) (fun _ _ => 0) ++ (WO hO aO kO hM hQ hw iO_answered iO_searched iO_searchedRelaxed iO_counted fO_countedCase gO_goalNumber gO_goalScale fO_start fO_column fO_chosen)))))))))) H := by rw [eL9]; exact hP
  have hD : va_D A (L9 ++ (WW 1 (fun _ => q86) (fun _ => y86) kw (fun _ => 0) (fun _ => 0) (fun _ _ => 0) ++ (WW 1 (fun _ => q75) (fun _ => y75) kw (fun _ => 0) (fun _ => 0) (fun _ _ => 0) ++ (WW 1 (fun _ => q64) (fun _ => y64) kw (fun _ => 0) (fun _ => 0) (fun _ _ => 0) ++ (WW 8 h57 l57 kw (fun _ => 0) (fun _ => 0) (fun _ _ => 0) ++ (WW 1 (fun _ => q44) (fun _ => y44) kw (fun _ => 0) (fun _ => 0) (fun _ _ => 0) ++ (WW 1 (fun _ => q33) (fun _ => y33) kw (fun _ => 0) (fun _ => 0) (fun _ _ => 0) ++ (WW 1 (fun _ => q22) (fun _ => y22) kw (fun _ => 0) (fun _ => 0) (fun _ _ => 0) ++ (WW 28 h15 l15 kw (fun _ => 0) (fun _ => 0) (fun _ _ => 0) ++ (WO hO aO kO hM hQ hw iO_answered iO_searched iO_searchedRelaxed iO_counted fO_countedCase gO_goalNumber gO_goalScale fO_start fO_column fO_chosen)))))))))) := by rw [eL9]; exact hD
  have pj := kj_X3_init (WW 1 (fun _ => q86) (fun _ => y86) kw (fun _ => 0) (fun _ => 0) (fun _ _ => 0)) (WW 1 (fun _ => q75) (fun _ => y75) kw (fun _ => 0) (fun _ => 0) (fun _ _ => 0)) (WW 1 (fun _ => q64) (fun _ => y64) kw (fun _ => 0) (fun _ => 0) (fun _ _ => 0)) (WW 8 h57 l57 kw (fun _ => 0) (fun _ => 0) (fun _ _ => 0)) (WW 1 (fun _ => q44) (fun _ => y44) kw (fun _ => 0) (fun _ => 0) (fun _ _ => 0)) (WW 1 (fun _ => q33) (fun _ => y33) kw (fun _ => 0) (fun _ => 0) (fun _ _ => 0)) (WW 1 (fun _ => q22) (fun _ => y22) kw (fun _ => 0) (fun _ => 0) (fun _ _ => 0)) (WW 28 h15 l15 kw (fun _ => 0) (fun _ => 0) (fun _ _ => 0)) (WO hO aO kO hM hQ hw iO_answered iO_searched iO_searchedRelaxed iO_counted fO_countedCase gO_goalNumber gO_goalScale fO_start fO_column fO_chosen)
  have hP := hP.mem (fun q h => (List.Perm.append_left L9 pj).mem_iff.mpr h)
  have hD := hD.perm (List.Perm.append_left L9 pj)
  clear pj
  have pj : List.Perm (α := Nat × va_E) (WO hO aO kO hM hQ hw iO_answered iO_searched iO_searchedRelaxed iO_counted fO_countedCase gO_goalNumber gO_goalScale fO_start fO_column fO_chosen ++ (WW 28 h15 l15 kw (fun _ => 0) (fun _ => 0) (fun _ _ => 0) ++ (WW 1 (fun _ => q22) (fun _ => y22) kw (fun _ => 0) (fun _ => 0) (fun _ _ => 0) ++ (WW 1 (fun _ => q33) (fun _ => y33) kw (fun _ => 0) (fun _ => 0) (fun _ _ => 0) ++ (WW 1 (fun _ => q44) (fun _ => y44) kw (fun _ => 0) (fun _ => 0) (fun _ _ => 0) ++ (WW 8 h57 l57 kw (fun _ => 0) (fun _ => 0) (fun _ _ => 0) ++ (WW 1 (fun _ => q64) (fun _ => y64) kw (fun _ => 0) (fun _ => 0) (fun _ _ => 0) ++ (WW 1 (fun _ => q75) (fun _ => y75) kw (fun _ => 0) (fun _ => 0) (fun _ _ => 0) ++ (WW 1 (fun _ => q86) (fun _ => y86) kw (fun _ => 0) (fun _ => 0) (fun _ _ => 0)))))))))) (WO hO aO kO hM hQ hw iO_answered iO_searched iO_searchedRelaxed iO_counted fO_countedCase gO_goalNumber gO_goalScale fO_start fO_column fO_chosen ++ (WW 29 (jn 28 h15 (fun _ => q22)) (jn 28 l15 (fun _ => y22)) kw (fun _ => 0) (fun _ => 0) (fun _ _ => 0) ++ (WW 1 (fun _ => q33) (fun _ => y33) kw (fun _ => 0) (fun _ => 0) (fun _ _ => 0) ++ (WW 1 (fun _ => q44) (fun _ => y44) kw (fun _ => 0) (fun _ => 0) (fun _ _ => 0) ++ (WW 8 h57 l57 kw (fun _ => 0) (fun _ => 0) (fun _ _ => 0) ++ (WW 1 (fun _ => q64) (fun _ => y64) kw (fun _ => 0) (fun _ => 0) (fun _ _ => 0) ++ (WW 1 (fun _ => q75) (fun _ => y75) kw (fun _ => 0) (fun _ => 0) (fun _ _ => 0) ++ (WW 1 (fun _ => q86) (fun _ => y86) kw (fun _ => 0) (fun _ => 0) (fun _ _ => 0))))))))) := (List.Perm.append_left _ WW_ap2)
  have hP := hP.mem (fun q h => (List.Perm.append_left L9 pj).mem_iff.mpr h)
  have hD := hD.perm (List.Perm.append_left L9 pj)
  clear pj
  have pj : List.Perm (α := Nat × va_E) (WO hO aO kO hM hQ hw iO_answered iO_searched iO_searchedRelaxed iO_counted fO_countedCase gO_goalNumber gO_goalScale fO_start fO_column fO_chosen ++ (WW 29 (jn 28 h15 (fun _ => q22)) (jn 28 l15 (fun _ => y22)) kw (fun _ => 0) (fun _ => 0) (fun _ _ => 0) ++ (WW 1 (fun _ => q33) (fun _ => y33) kw (fun _ => 0) (fun _ => 0) (fun _ _ => 0) ++ (WW 1 (fun _ => q44) (fun _ => y44) kw (fun _ => 0) (fun _ => 0) (fun _ _ => 0) ++ (WW 8 h57 l57 kw (fun _ => 0) (fun _ => 0) (fun _ _ => 0) ++ (WW 1 (fun _ => q64) (fun _ => y64) kw (fun _ => 0) (fun _ => 0) (fun _ _ => 0) ++ (WW 1 (fun _ => q75) (fun _ => y75) kw (fun _ => 0) (fun _ => 0) (fun _ _ => 0) ++ (WW 1 (fun _ => q86) (fun _ => y86) kw (fun _ => 0) (fun _ => 0) (fun _ _ => 0))))))))) (WO hO aO kO hM hQ hw iO_answered iO_searched iO_searchedRelaxed iO_counted fO_countedCase gO_goalNumber gO_goalScale fO_start fO_column fO_chosen ++ (WW 30 (jn 29 (jn 28 h15 (fun _ => q22)) (fun _ => q33)) (jn 29 (jn 28 l15 (fun _ => y22)) (fun _ => y33)) kw (fun _ => 0) (fun _ => 0) (fun _ _ => 0) ++ (WW 1 (fun _ => q44) (fun _ => y44) kw (fun _ => 0) (fun _ => 0) (fun _ _ => 0) ++ (WW 8 h57 l57 kw (fun _ => 0) (fun _ => 0) (fun _ _ => 0) ++ (WW 1 (fun _ => q64) (fun _ => y64) kw (fun _ => 0) (fun _ => 0) (fun _ _ => 0) ++ (WW 1 (fun _ => q75) (fun _ => y75) kw (fun _ => 0) (fun _ => 0) (fun _ _ => 0) ++ (WW 1 (fun _ => q86) (fun _ => y86) kw (fun _ => 0) (fun _ => 0) (fun _ _ => 0)))))))) := (List.Perm.append_left _ WW_ap2)
  have hP := hP.mem (fun q h => (List.Perm.append_left L9 pj).mem_iff.mpr h)
  have hD := hD.perm (List.Perm.append_left L9 pj)
  clear pj
  have pj : List.Perm (α := Nat × va_E) (WO hO aO kO hM hQ hw iO_answered iO_searched iO_searchedRelaxed iO_counted fO_countedCase gO_goalNumber gO_goalScale fO_start fO_column fO_chosen ++ (WW 30 (jn 29 (jn 28 h15 (fun _ => q22)) (fun _ => q33)) (jn 29 (jn 28 l15 (fun _ => y22)) (fun _ => y33)) kw (fun _ => 0) (fun _ => 0) (fun _ _ => 0) ++ (WW 1 (fun _ => q44) (fun _ => y44) kw (fun _ => 0) (fun _ => 0) (fun _ _ => 0) ++ (WW 8 h57 l57 kw (fun _ => 0) (fun _ => 0) (fun _ _ => 0) ++ (WW 1 (fun _ => q64) (fun _ => y64) kw (fun _ => 0) (fun _ => 0) (fun _ _ => 0) ++ (WW 1 (fun _ => q75) (fun _ => y75) kw (fun _ => 0) (fun _ => 0) (fun _ _ => 0) ++ (WW 1 (fun _ => q86) (fun _ => y86) kw (fun _ => 0) (fun _ => 0) (fun _ _ => 0)))))))) (WO hO aO kO hM hQ hw iO_answered iO_searched iO_searchedRelaxed iO_counted fO_countedCase gO_goalNumber gO_goalScale fO_start fO_column fO_chosen ++ (WW 31 (jn 30 (jn 29 (jn 28 h15 (fun _ => q22)) (fun _ => q33)) (fun _ => q44)) (jn 30 (jn 29 (jn 28 l15 (fun _ => y22)) (fun _ => y33)) (fun _ => y44)) kw (fun _ => 0) (fun _ => 0) (fun _ _ => 0) ++ (WW 8 h57 l57 kw (fun _ => 0) (fun _ => 0) (fun _ _ => 0) ++ (WW 1 (fun _ => q64) (fun _ => y64) kw (fun _ => 0) (fun _ => 0) (fun _ _ => 0) ++ (WW 1 (fun _ => q75) (fun _ => y75) kw (fun _ => 0) (fun _ => 0) (fun _ _ => 0) ++ (WW 1 (fun _ => q86) (fun _ => y86) kw (fun _ => 0) (fun _ => 0) (fun _ _ => 0))))))) := (List.Perm.append_left _ WW_ap2)
  have hP := hP.mem (fun q h => (List.Perm.append_left L9 pj).mem_iff.mpr h)
  have hD := hD.perm (List.Perm.append_left L9 pj)
  clear pj
  have pj : List.Perm (α := Nat × va_E) (WO hO aO kO hM hQ hw iO_answered iO_searched iO_searchedRelaxed iO_counted fO_countedCase gO_goalNumber gO_goalScale fO_start fO_column fO_chosen ++ (WW 31 (jn 30 (jn 29 (jn 28 h15 (fun _ => q22)) (fun _ => q33)) (fun _ => q44)) (jn 30 (jn 29 (jn 28 l15 (fun _ => y22)) (fun _ => y33)) (fun _ => y44)) kw (fun _ => 0) (fun _ => 0) (fun _ _ => 0) ++ (WW 8 h57 l57 kw (fun _ => 0) (fun _ => 0) (fun _ _ => 0) ++ (WW 1 (fun _ => q64) (fun _ => y64) kw (fun _ => 0) (fun _ => 0) (fun _ _ => 0) ++ (WW 1 (fun _ => q75) (fun _ => y75) kw (fun _ => 0) (fun _ => 0) (fun _ _ => 0) ++ (WW 1 (fun _ => q86) (fun _ => y86) kw (fun _ => 0) (fun _ => 0) (fun _ _ => 0))))))) (WO hO aO kO hM hQ hw iO_answered iO_searched iO_searchedRelaxed iO_counted fO_countedCase gO_goalNumber gO_goalScale fO_start fO_column fO_chosen ++ (WW 39 (jn 31 (jn 30 (jn 29 (jn 28 h15 (fun _ => q22)) (fun _ => q33)) (fun _ => q44)) h57) (jn 31 (jn 30 (jn 29 (jn 28 l15 (fun _ => y22)) (fun _ => y33)) (fun _ => y44)) l57) kw (fun _ => 0) (fun _ => 0) (fun _ _ => 0) ++ (WW 1 (fun _ => q64) (fun _ => y64) kw (fun _ => 0) (fun _ => 0) (fun _ _ => 0) ++ (WW 1 (fun _ => q75) (fun _ => y75) kw (fun _ => 0) (fun _ => 0) (fun _ _ => 0) ++ (WW 1 (fun _ => q86) (fun _ => y86) kw (fun _ => 0) (fun _ => 0) (fun _ _ => 0)))))) := (List.Perm.append_left _ WW_ap2)
  have hP := hP.mem (fun q h => (List.Perm.append_left L9 pj).mem_iff.mpr h)
  have hD := hD.perm (List.Perm.append_left L9 pj)
  clear pj
  have pj : List.Perm (α := Nat × va_E) (WO hO aO kO hM hQ hw iO_answered iO_searched iO_searchedRelaxed iO_counted fO_countedCase gO_goalNumber gO_goalScale fO_start fO_column fO_chosen ++ (WW 39 (jn 31 (jn 30 (jn 29 (jn 28 h15 (fun _ => q22)) (fun _ => q33)) (fun _ => q44)) h57) (jn 31 (jn 30 (jn 29 (jn 28 l15 (fun _ => y22)) (fun _ => y33)) (fun _ => y44)) l57) kw (fun _ => 0) (fun _ => 0) (fun _ _ => 0) ++ (WW 1 (fun _ => q64) (fun _ => y64) kw (fun _ => 0) (fun _ => 0) (fun _ _ => 0) ++ (WW 1 (fun _ => q75) (fun _ => y75) kw (fun _ => 0) (fun _ => 0) (fun _ _ => 0) ++ (WW 1 (fun _ => q86) (fun _ => y86) kw (fun _ => 0) (fun _ => 0) (fun _ _ => 0)))))) (WO hO aO kO hM hQ hw iO_answered iO_searched iO_searchedRelaxed iO_counted fO_countedCase gO_goalNumber gO_goalScale fO_start fO_column fO_chosen ++ (WW 40 (jn 39 (jn 31 (jn 30 (jn 29 (jn 28 h15 (fun _ => q22)) (fun _ => q33)) (fun _ => q44)) h57) (fun _ => q64)) (jn 39 (jn 31 (jn 30 (jn 29 (jn 28 l15 (fun _ => y22)) (fun _ => y33)) (fun _ => y44)) l57) (fun _ => y64)) kw (fun _ => 0) (fun _ => 0) (fun _ _ => 0) ++ (WW 1 (fun _ => q75) (fun _ => y75) kw (fun _ => 0) (fun _ => 0) (fun _ _ => 0) ++ (WW 1 (fun _ => q86) (fun _ => y86) kw (fun _ => 0) (fun _ => 0) (fun _ _ => 0))))) := (List.Perm.append_left _ WW_ap2)
  have hP := hP.mem (fun q h => (List.Perm.append_left L9 pj).mem_iff.mpr h)
  have hD := hD.perm (List.Perm.append_left L9 pj)
  clear pj
  have pj : List.Perm (α := Nat × va_E) (WO hO aO kO hM hQ hw iO_answered iO_searched iO_searchedRelaxed iO_counted fO_countedCase gO_goalNumber gO_goalScale fO_start fO_column fO_chosen ++ (WW 40 (jn 39 (jn 31 (jn 30 (jn 29 (jn 28 h15 (fun _ => q22)) (fun _ => q33)) (fun _ => q44)) h57) (fun _ => q64)) (jn 39 (jn 31 (jn 30 (jn 29 (jn 28 l15 (fun _ => y22)) (fun _ => y33)) (fun _ => y44)) l57) (fun _ => y64)) kw (fun _ => 0) (fun _ => 0) (fun _ _ => 0) ++ (WW 1 (fun _ => q75) (fun _ => y75) kw (fun _ => 0) (fun _ => 0) (fun _ _ => 0) ++ (WW 1 (fun _ => q86) (fun _ => y86) kw (fun _ => 0) (fun _ => 0) (fun _ _ => 0))))) (WO hO aO kO hM hQ hw iO_answered iO_searched iO_searchedRelaxed iO_counted fO_countedCase gO_goalNumber gO_goalScale fO_start fO_column fO_chosen ++ (WW 41 (jn 40 (jn 39 (jn 31 (jn 30 (jn 29 (jn 28 h15 (fun _ => q22)) (fun _ => q33)) (fun _ => q44)) h57) (fun _ => q64)) (fun _ => q75)) (jn 40 (jn 39 (jn 31 (jn 30 (jn 29 (jn 28 l15 (fun _ => y22)) (fun _ => y33)) (fun _ => y44)) l57) (fun _ => y64)) (fun _ => y75)) kw (fun _ => 0) (fun _ => 0) (fun _ _ => 0) ++ (WW 1 (fun _ => q86) (fun _ => y86) kw (fun _ => 0) (fun _ => 0) (fun _ _ => 0)))) := (List.Perm.append_left _ WW_ap2)
  have hP := hP.mem (fun q h => (List.Perm.append_left L9 pj).mem_iff.mpr h)
  have hD := hD.perm (List.Perm.append_left L9 pj)
  clear pj
  have pj : List.Perm (α := Nat × va_E) (WO hO aO kO hM hQ hw iO_answered iO_searched iO_searchedRelaxed iO_counted fO_countedCase gO_goalNumber gO_goalScale fO_start fO_column fO_chosen ++ (WW 41 (jn 40 (jn 39 (jn 31 (jn 30 (jn 29 (jn 28 h15 (fun _ => q22)) (fun _ => q33)) (fun _ => q44)) h57) (fun _ => q64)) (fun _ => q75)) (jn 40 (jn 39 (jn 31 (jn 30 (jn 29 (jn 28 l15 (fun _ => y22)) (fun _ => y33)) (fun _ => y44)) l57) (fun _ => y64)) (fun _ => y75)) kw (fun _ => 0) (fun _ => 0) (fun _ _ => 0) ++ (WW 1 (fun _ => q86) (fun _ => y86) kw (fun _ => 0) (fun _ => 0) (fun _ _ => 0)))) (WO hO aO kO hM hQ hw iO_answered iO_searched iO_searchedRelaxed iO_counted fO_countedCase gO_goalNumber gO_goalScale fO_start fO_column fO_chosen ++ (WW 42 (jn 41 (jn 40 (jn 39 (jn 31 (jn 30 (jn 29 (jn 28 h15 (fun _ => q22)) (fun _ => q33)) (fun _ => q44)) h57) (fun _ => q64)) (fun _ => q75)) (fun _ => q86)) (jn 41 (jn 40 (jn 39 (jn 31 (jn 30 (jn 29 (jn 28 l15 (fun _ => y22)) (fun _ => y33)) (fun _ => y44)) l57) (fun _ => y64)) (fun _ => y75)) (fun _ => y86)) kw (fun _ => 0) (fun _ => 0) (fun _ _ => 0))) := (List.Perm.append_left _ WW_app)
  have hP := hP.mem (fun q h => (List.Perm.append_left L9 pj).mem_iff.mpr h)
  have hD := hD.perm (List.Perm.append_left L9 pj)
  clear pj
  subst eL9
  obtain ⟨hF, hFe⟩ : ∃ f9, f9 = jn 41 (jn 40 (jn 39 (jn 31 (jn 30 (jn 29 (jn 28 h15 (fun _ => q22)) (fun _ => q33)) (fun _ => q44)) h57) (fun _ => q64)) (fun _ => q75)) (fun _ => q86) := ⟨_, rfl⟩
  obtain ⟨lF, hLe⟩ : ∃ f9, f9 = jn 41 (jn 40 (jn 39 (jn 31 (jn 30 (jn 29 (jn 28 l15 (fun _ => y22)) (fun _ => y33)) (fun _ => y44)) l57) (fun _ => y64)) (fun _ => y75)) (fun _ => y86) := ⟨_, rfl⟩
  rw [← hFe, ← hLe] at hP hD
  have hc0 : ∀ j, j < 28 → h15 j = jn 432 hw hF (432 + j) := fun j hj => by rw [jn_r, hFe, jn_l (by omega), jn_l (by omega), jn_l (by omega), jn_l (by omega), jn_l (by omega), jn_l (by omega), jn_l (by omega)]
  have hc4 : ∀ j, j < 8 → h57 j = jn 432 hw hF (463 + j) := fun j hj => by rw [show 463 + j = 432 + (31 + j) by omega, jn_r, hFe, jn_l (by omega), jn_l (by omega), jn_l (by omega), jn_r]
  have hq22 : q22 = jn 432 hw hF 460 := by rw [hFe]; rfl
  have hq33 : q33 = jn 432 hw hF 461 := by rw [hFe]; rfl
  have hq44 : q44 = jn 432 hw hF 462 := by rw [hFe]; rfl
  have hq64 : q64 = jn 432 hw hF 471 := by rw [hFe]; rfl
  have hq75 : q75 = jn 432 hw hF 472 := by rw [hFe]; rfl
  have hq86 : q86 = jn 432 hw hF 473 := by rw [hFe]; rfl
  clear hFe hLe
  refine lv_aload_n hx hb dX3_init_122 rfl (lv_at hl 0 rfl) ?_
  refine lv_aload_n hx hb dX3_init_123 rfl (lv_at hl 2 rfl) ?_
  refine va_get (D := (dC, dI)) (ci := 5) (v := .ref (hQ 0)) (C := RX5) (T := TX5) (N := 19) hx hb hts iwsKX3_init_in5 hown hK hP 6 rfl rfl 1 (by decide) (hts (.fieldLink RX3 67 "OptimaWorks$Solver" "tableau" "LOptimaWorks$Tableau;") (by decide +kernel)) (fun _ h9 => h9) rfl dX3_init_124 ?_
  refine va_putF (D := (dC, dI)) (ci := 3) (v := .ref (hQ 0)) (ty := .object "OptimaWorks$Tableau") (C := RX3) (T := TX3) (N := 17) hx hb hts iwsKX3_init_in3 tyX3 tyX3_ok nmX3 hown hK hP hD hS 0 rfl rfl 2 (by decide) (hts (.fieldLink RX3 71 "OptimaWorks$Prover" "tableau" "LOptimaWorks$Tableau;") (by decide +kernel)) (fun _ h9 => h9) rfl hin rfl (by decide +kernel) rfl rfl (Nat.le_of_ble_eq_true rfl) dX3_init_127 (fun H locs hP hD hS => ?_)
  have hP : va_P (dC, dI) vwCl ([(hG 0, .inr (3, [.ref (hM 0), .ref (hO 0), .ref (hQ 0), .int 0, .int 0, .ref q7, .ref r15, .ref q22, .ref q33, .ref q44, .ref r57, .ref q64, .ref q75, .ref q86, .ref q99, .ref q107, .int 0])), (q7, .inl (kZ, 28, .inl (fun _ => 0))), (r15, .inl (kb, 28, .inr (.inr (.inr (.inr (fW 28 h15)))))), (r57, .inl (kb, 8, .inr (.inr (.inr (.inr (fW 8 h57)))))), (q99, .inl (kI, 40, .inl (fun _ => 0))), (q107, .inl (kI, 40, .inl (fun _ => 0)))] ++ (WO hO aO kO hM hQ hw iO_answered iO_searched iO_searchedRelaxed iO_counted fO_countedCase gO_goalNumber gO_goalScale fO_start fO_column fO_chosen ++ (WW 42 hF lF kw (fun _ => 0) (fun _ => 0) (fun _ _ => 0)))) H := hP
  have hD : va_D A ([(hG 0, .inr (3, [.ref (hM 0), .ref (hO 0), .ref (hQ 0), .int 0, .int 0, .ref q7, .ref r15, .ref q22, .ref q33, .ref q44, .ref r57, .ref q64, .ref q75, .ref q86, .ref q99, .ref q107, .int 0])), (q7, .inl (kZ, 28, .inl (fun _ => 0))), (r15, .inl (kb, 28, .inr (.inr (.inr (.inr (fW 28 h15)))))), (r57, .inl (kb, 8, .inr (.inr (.inr (.inr (fW 8 h57)))))), (q99, .inl (kI, 40, .inl (fun _ => 0))), (q107, .inl (kI, 40, .inl (fun _ => 0)))] ++ (WO hO aO kO hM hQ hw iO_answered iO_searched iO_searchedRelaxed iO_counted fO_countedCase gO_goalNumber gO_goalScale fO_start fO_column fO_chosen ++ (WW 42 hF lF kw (fun _ => 0) (fun _ => 0) (fun _ _ => 0)))) := hD
  have hP := va_P.cg (X := [(hG 0, .inr (3, [.ref (hM 0), .ref (hO 0), .ref (hQ 0), .int 0, .int 0, .ref q7, .ref r15, .ref q22, .ref q33, .ref q44, .ref r57, .ref q64, .ref q75, .ref q86, .ref q99, .ref q107, .int 0])), (q7, .inl (kZ, 28, .inl (fun _ => 0)))]) (Y := [(r57, .inl (kb, 8, .inr (.inr (.inr (.inr (fW 8 h57)))))), (q99, .inl (kI, 40, .inl (fun _ => 0))), (q107, .inl (kI, 40, .inl (fun _ => 0)))] ++ (WO hO aO kO hM hQ hw iO_answered iO_searched iO_searchedRelaxed iO_counted fO_countedCase gO_goalNumber gO_goalScale fO_start fO_column fO_chosen ++ (WW 42 hF lF kw (fun _ => 0) (fun _ => 0) (fun _ _ => 0)))) hP (fW_all (g := fun q => jn 432 hw hF (432 + q)) hc0)
  have hD : va_D A ([(hG 0, .inr (3, [.ref (hM 0), .ref (hO 0), .ref (hQ 0), .int 0, .int 0, .ref q7, .ref r15, .ref q22, .ref q33, .ref q44, .ref r57, .ref q64, .ref q75, .ref q86, .ref q99, .ref q107, .int 0])), (q7, .inl (kZ, 28, .inl (fun _ => 0))), (r15, .inl (kb, 28, .inr (.inr (.inr (.inr (fun q => some (jn 432 hw hF (432 + q)))))))), (r57, .inl (kb, 8, .inr (.inr (.inr (.inr (fW 8 h57)))))), (q99, .inl (kI, 40, .inl (fun _ => 0))), (q107, .inl (kI, 40, .inl (fun _ => 0)))] ++ (WO hO aO kO hM hQ hw iO_answered iO_searched iO_searchedRelaxed iO_counted fO_countedCase gO_goalNumber gO_goalScale fO_start fO_column fO_chosen ++ (WW 42 hF lF kw (fun _ => 0) (fun _ => 0) (fun _ _ => 0)))) := va_D.cg (X := [(hG 0, .inr (3, [.ref (hM 0), .ref (hO 0), .ref (hQ 0), .int 0, .int 0, .ref q7, .ref r15, .ref q22, .ref q33, .ref q44, .ref r57, .ref q64, .ref q75, .ref q86, .ref q99, .ref q107, .int 0])), (q7, .inl (kZ, 28, .inl (fun _ => 0)))]) (Y := [(r57, .inl (kb, 8, .inr (.inr (.inr (.inr (fW 8 h57)))))), (q99, .inl (kI, 40, .inl (fun _ => 0))), (q107, .inl (kI, 40, .inl (fun _ => 0)))] ++ (WO hO aO kO hM hQ hw iO_answered iO_searched iO_searchedRelaxed iO_counted fO_countedCase gO_goalNumber gO_goalScale fO_start fO_column fO_chosen ++ (WW 42 hF lF kw (fun _ => 0) (fun _ => 0) (fun _ _ => 0)))) hD
  have hP : va_P (dC, dI) vwCl ([(hG 0, .inr (3, [.ref (hM 0), .ref (hO 0), .ref (hQ 0), .int 0, .int 0, .ref q7, .ref r15, .ref q22, .ref q33, .ref q44, .ref r57, .ref q64, .ref q75, .ref q86, .ref q99, .ref q107, .int 0])), (q7, .inl (kZ, 28, .inl (fun _ => 0))), (r15, .inl (kb, 28, .inr (.inr (.inr (.inr (fun q => some (jn 432 hw hF (432 + q)))))))), (r57, .inl (kb, 8, .inr (.inr (.inr (.inr (fW 8 h57)))))), (q99, .inl (kI, 40, .inl (fun _ => 0))), (q107, .inl (kI, 40, .inl (fun _ => 0)))] ++ (WO hO aO kO hM hQ hw iO_answered iO_searched iO_searchedRelaxed iO_counted fO_countedCase gO_goalNumber gO_goalScale fO_start fO_column fO_chosen ++ (WW 42 hF lF kw (fun _ => 0) (fun _ => 0) (fun _ _ => 0)))) H := hP
  have hP := va_P.cg (X := [(hG 0, .inr (3, [.ref (hM 0), .ref (hO 0), .ref (hQ 0), .int 0, .int 0, .ref q7, .ref r15, .ref q22, .ref q33, .ref q44, .ref r57, .ref q64, .ref q75, .ref q86, .ref q99, .ref q107, .int 0])), (q7, .inl (kZ, 28, .inl (fun _ => 0))), (r15, .inl (kb, 28, .inr (.inr (.inr (.inr (fun q => some (jn 432 hw hF (432 + q))))))))]) (Y := [(q99, .inl (kI, 40, .inl (fun _ => 0))), (q107, .inl (kI, 40, .inl (fun _ => 0)))] ++ (WO hO aO kO hM hQ hw iO_answered iO_searched iO_searchedRelaxed iO_counted fO_countedCase gO_goalNumber gO_goalScale fO_start fO_column fO_chosen ++ (WW 42 hF lF kw (fun _ => 0) (fun _ => 0) (fun _ _ => 0)))) hP (fW_all (g := fun q => jn 432 hw hF (463 + q)) hc4)
  have hD : va_D A ([(hG 0, .inr (3, [.ref (hM 0), .ref (hO 0), .ref (hQ 0), .int 0, .int 0, .ref q7, .ref r15, .ref q22, .ref q33, .ref q44, .ref r57, .ref q64, .ref q75, .ref q86, .ref q99, .ref q107, .int 0])), (q7, .inl (kZ, 28, .inl (fun _ => 0))), (r15, .inl (kb, 28, .inr (.inr (.inr (.inr (fun q => some (jn 432 hw hF (432 + q)))))))), (r57, .inl (kb, 8, .inr (.inr (.inr (.inr (fun q => some (jn 432 hw hF (463 + q)))))))), (q99, .inl (kI, 40, .inl (fun _ => 0))), (q107, .inl (kI, 40, .inl (fun _ => 0)))] ++ (WO hO aO kO hM hQ hw iO_answered iO_searched iO_searchedRelaxed iO_counted fO_countedCase gO_goalNumber gO_goalScale fO_start fO_column fO_chosen ++ (WW 42 hF lF kw (fun _ => 0) (fun _ => 0) (fun _ _ => 0)))) := va_D.cg (X := [(hG 0, .inr (3, [.ref (hM 0), .ref (hO 0), .ref (hQ 0), .int 0, .int 0, .ref q7, .ref r15, .ref q22, .ref q33, .ref q44, .ref r57, .ref q64, .ref q75, .ref q86, .ref q99, .ref q107, .int 0])), (q7, .inl (kZ, 28, .inl (fun _ => 0))), (r15, .inl (kb, 28, .inr (.inr (.inr (.inr (fun q => some (jn 432 hw hF (432 + q))))))))]) (Y := [(q99, .inl (kI, 40, .inl (fun _ => 0))), (q107, .inl (kI, 40, .inl (fun _ => 0)))] ++ (WO hO aO kO hM hQ hw iO_answered iO_searched iO_searchedRelaxed iO_counted fO_countedCase gO_goalNumber gO_goalScale fO_start fO_column fO_chosen ++ (WW 42 hF lF kw (fun _ => 0) (fun _ => 0) (fun _ _ => 0)))) hD
  have hP : va_P (dC, dI) vwCl ([(hG 0, .inr (3, [.ref (hM 0), .ref (hO 0), .ref (hQ 0), .int 0, .int 0, .ref q7, .ref r15, .ref q22, .ref q33, .ref q44, .ref r57, .ref q64, .ref q75, .ref q86, .ref q99, .ref q107, .int 0])), (q7, .inl (kZ, 28, .inl (fun _ => 0))), (r15, .inl (kb, 28, .inr (.inr (.inr (.inr (fun q => some (jn 432 hw hF (432 + q)))))))), (r57, .inl (kb, 8, .inr (.inr (.inr (.inr (fun q => some (jn 432 hw hF (463 + q)))))))), (q99, .inl (kI, 40, .inl (fun _ => 0))), (q107, .inl (kI, 40, .inl (fun _ => 0)))] ++ (WO hO aO kO hM hQ hw iO_answered iO_searched iO_searchedRelaxed iO_counted fO_countedCase gO_goalNumber gO_goalScale fO_start fO_column fO_chosen ++ (WW 42 hF lF kw (fun _ => 0) (fun _ => 0) (fun _ _ => 0)))) H := hP
  rw [hq22] at hP hD
  rw [hq33] at hP hD
  rw [hq44] at hP hD
  rw [hq64] at hP hD
  rw [hq75] at hP hD
  rw [hq86] at hP hD
  refine W.widen (k := 89) (n := 858) (by omega) (by omega) ?_
  exact W.vret hx hb hr (fun t ht hW => ⟨⟨((fun j => ([q7, r15, r57, q99, q107] : List Nat).getD j 0), hF, lF), rfl, trivial, by rw [ht]; exact hP, hD⟩, hS.F ht⟩) hS.2.2 dX3_init_130
set_option maxHeartbeats 4000000 in
set_option maxRecDepth 100000 in
/-- a prover, its whole numbers -/
theorem k_X3_init (l : Launch) (dC : Nat → ClassId) (dI : Nat → Nat → Nat) (hG hM hO aO hQ hw : Nat → Nat) (kG kO : Nat → ClassId) (kw : ClassId) (iO_answered : Int32) (iO_searched : Int32) (iO_searchedRelaxed : Int32) (iO_counted : Int32) (fO_countedCase : Nat → Int32) (gO_goalNumber : Nat → Int64) (gO_goalScale : Nat → Int64) (fO_start : Nat → Int32) (fO_column : Nat → Int32) (fO_chosen : Nat → Int32) (sz : Nat) : Met l yX3_init wsKX3_init ({ frames := 4, cells := 89, slots := 858, locals := 62 }) (va_Pc [.ref (hG 0), .ref (hM 0), .ref (hO 0)] (fun U => U.heap.size = sz ∧ va_P (dC, dI) vwCl ([(hG 0, .inr (3, [.null, .null, .null, .int 0, .int 0, .null, .null, .null, .null, .null, .null, .null, .null, .null, .null, .null, .int 0]))] ++ (WO hO aO kO hM hQ hw iO_answered iO_searched iO_searchedRelaxed iO_counted fO_countedCase gO_goalNumber gO_goalScale fO_start fO_column fO_chosen)) U.heap ∧ va_K (dC, dI) vwCl (tG kG ++ (tO kO ++ (tW kw))) U ∧ va_D (fun _ => True) ([(hG 0, .inr (3, [.null, .null, .null, .int 0, .int 0, .null, .null, .null, .null, .null, .null, .null, .null, .null, .null, .null, .int 0]))] ++ (WO hO aO kO hM hQ hw iO_answered iO_searched iO_searchedRelaxed iO_counted fO_countedCase gO_goalNumber gO_goalScale fO_start fO_column fO_chosen)) ∧ CE (va_A ([(hG 0, .inr (3, [.null, .null, .null, .int 0, .int 0, .null, .null, .null, .null, .null, .null, .null, .null, .null, .null, .null, .int 0]))] ++ (WO hO aO kO hM hQ hw iO_answered iO_searched iO_searchedRelaxed iO_counted fO_countedCase gO_goalNumber gO_goalScale fO_start fO_column fO_chosen)) sz) U U.heap)) (va_Qv (fun _ : (Nat → Nat) × (Nat → Nat) × (Nat → Nat) => True) (fun u t => va_P (dC, dI) vwCl (WG hG u.1 kG hM hO hQ (jn 432 hw u.2.1) 0 0 (fun _ => 0) (fun _ => 0) (fun _ => 0) 0 ++ (WO hO aO kO hM hQ hw iO_answered iO_searched iO_searchedRelaxed iO_counted fO_countedCase gO_goalNumber gO_goalScale fO_start fO_column fO_chosen ++ (WW 42 u.2.1 u.2.2 kw (fun _ => 0) (fun _ => 0) (fun _ _ => 0)))) t.heap ∧ va_D (va_A ([(hG 0, .inr (3, [.null, .null, .null, .int 0, .int 0, .null, .null, .null, .null, .null, .null, .null, .null, .null, .null, .null, .int 0]))] ++ (WO hO aO kO hM hQ hw iO_answered iO_searched iO_searchedRelaxed iO_counted fO_countedCase gO_goalNumber gO_goalScale fO_start fO_column fO_chosen)) sz) (WG hG u.1 kG hM hO hQ (jn 432 hw u.2.1) 0 0 (fun _ => 0) (fun _ => 0) (fun _ => 0) 0 ++ (WO hO aO kO hM hQ hw iO_answered iO_searched iO_searchedRelaxed iO_counted fO_countedCase gO_goalNumber gO_goalScale fO_start fO_column fO_chosen ++ (WW 42 u.2.1 u.2.2 kw (fun _ => 0) (fun _ => 0) (fun _ _ => 0))))) (va_A ([(hG 0, .inr (3, [.null, .null, .null, .int 0, .int 0, .null, .null, .null, .null, .null, .null, .null, .null, .null, .null, .null, .int 0]))] ++ (WO hO aO kO hM hQ hw iO_answered iO_searched iO_searchedRelaxed iO_counted fO_countedCase gO_goalNumber gO_goalScale fO_start fO_column fO_chosen)) sz)) 89 858 (va_A ([(hG 0, .inr (3, [.null, .null, .null, .int 0, .int 0, .null, .null, .null, .null, .null, .null, .null, .null, .null, .null, .null, .int 0]))] ++ (WO hO aO kO hM hQ hw iO_answered iO_searched iO_searchedRelaxed iO_counted fO_countedCase gO_goalNumber gO_goalScale fO_start fO_column fO_chosen)) sz) := by
  refine Met.ad (kl_X3_init l dC dI hG hM hO aO hQ hw kO iO_answered iO_searched iO_searchedRelaxed iO_counted fO_countedCase gO_goalNumber gO_goalScale fO_start fO_column fO_chosen (kG 1) kw (kG 3) (kG 0) sz) (fun _ h => h) ⟨Nat.le_refl _, Nat.le_refl _, Nat.le_refl _, Nat.le_refl _⟩ (Nat.le_refl _) (Nat.le_refl _) (fun a U h => ⟨h.1, h.2.1, h.2.2.1, h.2.2.2.1.sub [1, 15, 3, 0] rfl, h.2.2.2.2⟩) (fun a st o t hP0 hvm _ _ hQ9 => ?_) (fun _ h => h)
  obtain ⟨⟨⟨aG, h42, l42⟩, e1, _, hP1, hD1⟩, hF⟩ := hQ9
  have hK0 := hP0.2.2.2.1
  dsimp only at hP1 hD1
  rw [WG_k (k := fun j => ([kG 0, kG 1, kG 1, kG 3, kG 3] : List ClassId).getD j (kG 1)) (k9 := kG) rfl rfl (va_K.cl2 hK0 hK0 (i := 1) (j := 2) rfl rfl) rfl (va_K.cl2 hK0 hK0 (i := 3) (j := 4) rfl rfl)] at hP1 hD1
  exact ⟨⟨(aG, h42, l42), e1, trivial, hP1, hD1⟩, hF⟩
end
section
/-! how much a method has made, where it throws -/
theorem W.xsz {p : Program} {l : Launch} {e : Env} {R : Room} {s : State} {m : MethodId} {args : Array Value} {below : List Frame} {meth : Method} {c : Code} {H : Heap} {locs : List Loc} {cells slots : Nat} {g : JFrame} {Qc : Array Value → State → Outcome → State → Prop} {XC XC1 : String → State → State → Prop} {mc ms mc1 ms1 : Nat} {free : Addr → Prop} (h1 : mc1 ≤ mc) (h2 : ms1 ≤ ms)
    (hX : ∀ E t, XC1 E s t → t.heap.size ≤ s.heap.size + mc1 → nS s.heap.size t.heap ≤ ms1 → XC E s t) (k : W p l e R s m args below meth c H locs cells slots (vx_MQ below Qc XC1 args s mc1 ms1 free) g) : W p l e R s m args below meth c H locs cells slots (vx_MQ below Qc XC args s mc ms free) g := by
  intro T hT X
  obtain ⟨t, a1, o, b1, b2, b3⟩ := k T hT X
  refine ⟨t, a1, o, b1, b2, ?_⟩
  rcases b3 with ⟨q4, L, q5, q6⟩ | ⟨q, q4, E, ce, L, r1, r2, r3, r4, r5, r6, r7⟩
  · exact Or.inl ⟨q4, L, ⟨q5.1, q5.2.1, q5.2.2.mono h1 h2⟩, q6⟩
  · exact Or.inr ⟨q, q4, E, ce, L, hX _ _ r1 r6.2.2.1 (by unfold nS; exact r6.2.2.2.2.1), r2, r3, r4, r5, r6.mono h1 h2, r7⟩
theorem vx_known {p : Program} {l : Launch} {e : Env} {R : Room} {s : State} {m : MethodId} {args : Array Value} {below : List Frame} {meth : Method} {c : Code} {H : Heap} {locs : List Loc} {cells slots : Nat} {Q : State → Prop} {g : JFrame} {q : Addr}
    (k : H.size ≤ s.heap.size + cells → nS s.heap.size H ≤ slots → vx_W p l e R s m args below meth c H locs cells slots Q g q) : vx_W p l e R s m args below meth c H locs cells slots Q g q := fun T hT X => by
  have h := X.same
  have e1 : (T.setVm s.vm).heap = H := hT
  exact k (by rw [← e1]; exact h.2.2.1) (by unfold nS; rw [← e1]; exact h.2.2.2.2.1) T hT X
end
section
def WX (hX : Nat → Nat) (aX : Nat → Nat) (kX : Nat → ClassId) (hT : Nat → Nat) (hM : Nat → Nat) (fX_ready : Nat → Int32) (fX_sheet : Nat → Int32) (dX_sheet : Nat) (nX_sheet : Nat) (iX_sheetLength : Int32) (xX_reader : Value) (xX_solver : Value) (xX_prover : Value) (xX_values : Value) (xX_clauses : Value) (xX_nets : Value) : va_W := [(hX 0, .inr (11, [.ref (aX 0), .ref (hT 0), .ref (hM 0), .ref dX_sheet, .int iX_sheetLength, xX_reader, xX_solver, xX_prover, xX_values, xX_clauses, xX_nets])), (aX 0, .inl (kX 0, 5, .inl fX_ready)), (dX_sheet, .inl (kX 1, nX_sheet, .inl fX_sheet))]
def tX (kX : Nat → ClassId) : List (ClassId × FieldType) := [(kX 0, .int), (kX 1, .byte)]
theorem dX11_put_0 : decode cX11_put 0 = .ok (.aload_n 0, 1) := dk_42 (by decide +kernel)
theorem dX11_put_1 : decode cX11_put 1 = .ok (.getfield 138, 3) := dk_180 (by decide +kernel)
theorem dX11_put_4 : decode cX11_put 4 = .ok (.sipush 30000, 3) := dk_17 (by decide +kernel)
theorem dX11_put_7 : decode cX11_put 7 = .ok (.if_icmp .lt 4, 3) := dk_161 (by decide +kernel)
theorem dX11_put_10 : decode cX11_put 10 = .ok (.return_, 1) := dk_177 (by decide +kernel)
theorem dX11_put_11 : decode cX11_put 11 = .ok (.aload_n 0, 1) := dk_42 (by decide +kernel)
theorem dX11_put_12 : decode cX11_put 12 = .ok (.getfield 138, 3) := dk_180 (by decide +kernel)
theorem dX11_put_15 : decode cX11_put 15 = .ok (.aload_n 0, 1) := dk_42 (by decide +kernel)
theorem dX11_put_16 : decode cX11_put 16 = .ok (.getfield 27, 3) := dk_180 (by decide +kernel)
theorem dX11_put_19 : decode cX11_put 19 = .ok (.arraylength, 1) := dk_190 (by decide +kernel)
theorem dX11_put_20 : decode cX11_put 20 = .ok (.if_icmp .lt 21, 3) := dk_161 (by decide +kernel)
theorem dX11_put_23 : decode cX11_put 23 = .ok (.aload_n 0, 1) := dk_42 (by decide +kernel)
theorem dX11_put_24 : decode cX11_put 24 = .ok (.aload_n 0, 1) := dk_42 (by decide +kernel)
theorem dX11_put_25 : decode cX11_put 25 = .ok (.getfield 27, 3) := dk_180 (by decide +kernel)
theorem dX11_put_28 : decode cX11_put 28 = .ok (.aload_n 0, 1) := dk_42 (by decide +kernel)
theorem dX11_put_29 : decode cX11_put 29 = .ok (.getfield 27, 3) := dk_180 (by decide +kernel)
theorem dX11_put_32 : decode cX11_put 32 = .ok (.arraylength, 1) := dk_190 (by decide +kernel)
theorem dX11_put_33 : decode cX11_put 33 = .ok (.iconst 2, 1) := dk_5 (by decide +kernel)
theorem dX11_put_34 : decode cX11_put 34 = .ok (.imul, 1) := dk_104 (by decide +kernel)
theorem dX11_put_35 : decode cX11_put 35 = .ok (.invokestatic 230, 3) := dk_184 (by decide +kernel)
theorem dX11_put_38 : decode cX11_put 38 = .ok (.putfield 27, 3) := dk_181 (by decide +kernel)
theorem dX11_put_41 : decode cX11_put 41 = .ok (.aload_n 0, 1) := dk_42 (by decide +kernel)
theorem dX11_put_42 : decode cX11_put 42 = .ok (.getfield 27, 3) := dk_180 (by decide +kernel)
theorem dX11_put_45 : decode cX11_put 45 = .ok (.aload_n 0, 1) := dk_42 (by decide +kernel)
theorem dX11_put_46 : decode cX11_put 46 = .ok (.getfield 138, 3) := dk_180 (by decide +kernel)
theorem dX11_put_49 : decode cX11_put 49 = .ok (.iload_n 1, 1) := dk_27 (by decide +kernel)
theorem dX11_put_50 : decode cX11_put 50 = .ok (.i2b, 1) := dk_145 (by decide +kernel)
theorem dX11_put_51 : decode cX11_put 51 = .ok (.bastore, 1) := dk_84 (by decide +kernel)
theorem dX11_put_52 : decode cX11_put 52 = .ok (.aload_n 0, 1) := dk_42 (by decide +kernel)
theorem dX11_put_53 : decode cX11_put 53 = .ok (.dup, 1) := dk_89 (by decide +kernel)
theorem dX11_put_54 : decode cX11_put 54 = .ok (.getfield 138, 3) := dk_180 (by decide +kernel)
theorem dX11_put_57 : decode cX11_put 57 = .ok (.iconst 1, 1) := dk_4 (by decide +kernel)
theorem dX11_put_58 : decode cX11_put 58 = .ok (.iadd, 1) := dk_96 (by decide +kernel)
theorem dX11_put_59 : decode cX11_put 59 = .ok (.putfield 138, 3) := dk_181 (by decide +kernel)
theorem dX11_put_62 : decode cX11_put 62 = .ok (.return_, 1) := dk_177 (by decide +kernel)
def wsMX11_put : List Cond := .code yX11_put cX11_put 2 none :: ([.fieldLink RX11 138 "OptimaWorks" "sheetLength" "I", .fieldLink RX11 27 "OptimaWorks" "sheet" "[B"] ++ wsX110 ++ (va_wsS RX11 230 yJ7_copyOf_9075b wsMJ7_copyOf_9075b))
theorem iwsMX11_put_in11 : ∀ w ∈ wsX110, w ∈ wsMX11_put := fun _ h => List.mem_cons_of_mem _ (List.mem_append_left _ (List.mem_append_right _ h))
theorem gwsMX11_put_0 : GoodIn wsMX11_put (va_wsS RX11 230 yJ7_copyOf_9075b wsMJ7_copyOf_9075b) := goodIn_sub (fun _ h => List.mem_cons_of_mem _ (List.mem_append_right _ h)) (gdS (by decide +kernel) gdwsMJ7_copyOf_9075b)
theorem gdwsMX11_put : wsMX11_put.all goodWord = true := gdC rfl (gdA (gdA (by decide +kernel : ([.fieldLink RX11 138 "OptimaWorks" "sheetLength" "I", .fieldLink RX11 27 "OptimaWorks" "sheet" "[B"] : List Cond).all goodWord = true) gdwsX110) (gdS (by decide +kernel) gdwsMJ7_copyOf_9075b))
theorem hm_m_X11_put_0 : (.fieldLink RX11 138 "OptimaWorks" "sheetLength" "I" : Cond) ∈ wsMX11_put := by decide +kernel
theorem hm_m_X11_put_1 : (.fieldLink RX11 27 "OptimaWorks" "sheet" "[B" : Cond) ∈ wsMX11_put := by decide +kernel
set_option maxHeartbeats 4000000 in
set_option maxRecDepth 100000 in
/-- a letter more -/
theorem m_X11_put (l : Launch) (dC : Nat → ClassId) (dI : Nat → Nat → Nat) (hX : Nat → Nat) (aX : Nat → Nat) (kX : Nat → ClassId) (hT : Nat → Nat) (hM : Nat → Nat) (fX_ready : Nat → Int32) (fX_sheet : Nat → Int32) (dX_sheet : Nat) (nX_sheet : Nat) (iX_sheetLength : Int32) (xX_reader : Value) (xX_solver : Value) (xX_prover : Value) (xX_values : Value) (xX_clauses : Value) (xX_nets : Value) (p1 : Int32) (b_fX_sheet : ∀ q : Nat, (-128) ≤ (fX_sheet q).toInt ∧ (fX_sheet q).toInt ≤ 127) (b_nX_sheet : 64 ≤ nX_sheet ∧ nX_sheet ≤ 60000) (b_iX_sheetLength : 0 ≤ iX_sheetLength.toInt ∧ iX_sheetLength.toInt ≤ 30000) (b_shl : iX_sheetLength.toInt ≤ ((nX_sheet : Nat) : Int)) (sz : Nat) : Met l yX11_put wsMX11_put ({ frames := 2, cells := 1876, slots := 180000, locals := 40 }) (va_Pc [.ref (hX 0), .int p1] (fun U => U.heap.size = sz ∧ va_P (dC, dI) vwCl (WX hX aX kX hT hM fX_ready fX_sheet dX_sheet nX_sheet iX_sheetLength xX_reader xX_solver xX_prover xX_values xX_clauses xX_nets) U.heap ∧ va_K (dC, dI) vwCl (tX kX) U ∧ va_D (fun _ => True) (WX hX aX kX hT hM fX_ready fX_sheet dX_sheet nX_sheet iX_sheetLength xX_reader xX_solver xX_prover xX_values xX_clauses xX_nets))) (va_Qv (fun (u : (Nat → Int32) × (Nat) × (Nat) × (Int32)) => (∀ q : Nat, (-128) ≤ ((u.1) q).toInt ∧ ((u.1) q).toInt ≤ 127) ∧ (64 ≤ (u.2.2.1) ∧ (u.2.2.1) ≤ 60000) ∧ (0 ≤ (u.2.2.2).toInt ∧ (u.2.2.2).toInt ≤ 30000) ∧ ((u.2.2.2).toInt ≤ (((u.2.2.1) : Nat) : Int)) ∧ (nX_sheet ≤ (u.2.2.1)) ∧ (iX_sheetLength.toInt ≤ (u.2.2.2).toInt)) (fun (u : (Nat → Int32) × (Nat) × (Nat) × (Int32)) t => va_P (dC, dI) vwCl (WX hX aX kX hT hM fX_ready (u.1) (u.2.1) (u.2.2.1) (u.2.2.2) xX_reader xX_solver xX_prover xX_values xX_clauses xX_nets) t.heap ∧ va_D (va_A (WX hX aX kX hT hM fX_ready fX_sheet dX_sheet nX_sheet iX_sheetLength xX_reader xX_solver xX_prover xX_values xX_clauses xX_nets) sz) (WX hX aX kX hT hM fX_ready (u.1) (u.2.1) (u.2.2.1) (u.2.2.2) xX_reader xX_solver xX_prover xX_values xX_clauses xX_nets) ∧ t.heap.size + (nX_sheet / 32) ≤ sz + ((u.2.2.1) / 32) ∧ nS sz t.heap + (2 * nX_sheet) ≤ (2 * (u.2.2.1))) (va_A (WX hX aX kX hT hM fX_ready fX_sheet dX_sheet nX_sheet iX_sheetLength xX_reader xX_solver xX_prover xX_values xX_clauses xX_nets) sz)) 1876 180000 (va_A (WX hX aX kX hT hM fX_ready fX_sheet dX_sheet nX_sheet iX_sheetLength xX_reader xX_solver xX_prover xX_values xX_clauses xX_nets) sz) := by
  refine Met.ofW (cc := cX11_put) (maxL := 2) (ret := none) (by decide) rfl ?_
  intro p e s m args below meth c s₁ B hml hv
  obtain ⟨rfl, hsz, hP, hK, hD0⟩ := hv
  have hx := B.exec
  have hb := B.bytes
  have hr := B.returns
  have hts := atoms_spec (ws := wsMX11_put) B.pre
  have hown : s.vm.findClass RX11 = some m.cls := findClass_of_methodNamed B.named
  have hlocks := B.notSynchronized
  subst hsz
  have hD := hD0.self (sz := s.heap.size)
  generalize hAe : va_A (WX hX aX kX hT hM fX_ready fX_sheet dX_sheet nX_sheet iX_sheetLength xX_reader xX_solver xX_prover xX_values xX_clauses xX_nets) s.heap.size = A at hD ⊢
  have hA : ∀ q : Nat, s.heap.size ≤ q → A q := fun q h => by rw [← hAe]; exact Or.inr h
  have hS : va_S A s.heap s.heap [] := va_S.rf
  have hl := lv_entry ([.ref (hX 0), .int p1]) (n := 2) (Nat.le_of_ble_eq_true rfl)
  rw [lg_entry_eq]
  generalize (lg_sl ([.ref (hX 0), .int p1]) ++ List.replicate (2 - (lg_sl ([.ref (hX 0), .int p1])).length) Slot.unset).toArray = ls at hl ⊢
  have hl : lv_has ls 2 [(0, .ref (hX 0)), (1, .int p1)] := hl
  refine W.widen (k := (nX_sheet / 32 - (nX_sheet / 32))) (n := (2 * nX_sheet - (2 * nX_sheet))) (Nat.zero_le _) (Nat.zero_le _) ?_
  refine lv_aload_n hx hb dX11_put_0 rfl (lv_at hl 0 rfl) ?_
  refine va_get (D := (dC, dI)) (ci := 11) (v := .int iX_sheetLength) (C := RX11) (T := TX11) (N := 11) hx hb hts iwsMX11_put_in11 hown hK hP 0 rfl rfl 4 (by decide) (hts _ hm_m_X11_put_0) (fun _ h9 => h9) rfl dX11_put_1 ?_
  refine lv_sipush (v := 30000) hx hb dX11_put_4 (by decide) ?_
  refine lv_icmp_lt (tgt := 11) hx hb dX11_put_7 (by decide) (fun c_7 => ?_) (fun c_7 => ?_)
  · have t_7 : iX_sheetLength.toInt < 30000 := toI_lt c_7 rfl (by decide : (30000 : Int32).toInt = 30000)
    refine lv_aload_n hx hb dX11_put_11 rfl (lv_at hl 0 rfl) ?_
    refine va_get (D := (dC, dI)) (ci := 11) (v := .int iX_sheetLength) (C := RX11) (T := TX11) (N := 11) hx hb hts iwsMX11_put_in11 hown hK hP 0 rfl rfl 4 (by decide) (hts _ hm_m_X11_put_0) (fun _ h9 => h9) rfl dX11_put_12 ?_
    refine lv_aload_n hx hb dX11_put_15 rfl (lv_at hl 0 rfl) ?_
    refine va_get (D := (dC, dI)) (ci := 11) (v := .ref dX_sheet) (C := RX11) (T := TX11) (N := 11) hx hb hts iwsMX11_put_in11 hown hK hP 0 rfl rfl 3 (by decide) (hts _ hm_m_X11_put_1) (fun _ h9 => h9) rfl dX11_put_16 ?_
    refine va_alen hx hb hK hP 2 1 rfl rfl (v := (iI ((nX_sheet : Nat) : Int))) (iI_nat _) dX11_put_19 ?_
    refine W.known (fun hzk hnk => ?_)
    refine W.widen (k := 1875) (n := 120000) (by omega) (by omega) ?_
    refine W.cut (pc := 41) (fun H locs ls stk => ∃ (fX_sheet_j2 : Nat → Int32) (dX_sheet_j2 : Nat) (nX_sheet_j2 : Nat), (∀ q : Nat, (-128) ≤ (fX_sheet_j2 q).toInt ∧ (fX_sheet_j2 q).toInt ≤ 127) ∧ (64 ≤ nX_sheet_j2 ∧ nX_sheet_j2 ≤ 60000) ∧ (iX_sheetLength.toInt ≤ ((nX_sheet_j2 : Nat) : Int)) ∧ (iX_sheetLength.toInt < ((nX_sheet_j2 : Nat) : Int)) ∧ (nX_sheet ≤ nX_sheet_j2) ∧ (H.size + (nX_sheet / 32) ≤ s.heap.size + (nX_sheet_j2 / 32) ∧ nS s.heap.size H + (2 * nX_sheet) ≤ (2 * nX_sheet_j2)) ∧  stk = [] ∧ va_P (dC, dI) vwCl (WX hX aX kX hT hM fX_ready fX_sheet_j2 dX_sheet_j2 nX_sheet_j2 iX_sheetLength xX_reader xX_solver xX_prover xX_values xX_clauses xX_nets) H ∧ va_D A (WX hX aX kX hT hM fX_ready fX_sheet_j2 dX_sheet_j2 nX_sheet_j2 iX_sheetLength xX_reader xX_solver xX_prover xX_values xX_clauses xX_nets) ∧ va_S A s.heap H locs ∧ lv_has ls 2 [(0, .ref (hX 0)), (1, .int p1)]) (fun join2 => ?_) ?_
    · refine W.tight (cells2 := (nX_sheet / 32 - (nX_sheet / 32))) (slots2 := (2 * nX_sheet - (2 * nX_sheet))) hzk hnk ?_
      refine lv_icmp_lt (tgt := 41) hx hb dX11_put_20 (by decide) (fun c_20 => ?_) (fun c_20 => ?_)
      · first | (have t_20 : iX_sheetLength.toInt < ((nX_sheet : Nat) : Int) := toI_lt c_20 rfl (iI_t (by omega) (by omega))) | skip
        have hl : lv_has _ _ ([(0, .ref (hX 0)), (1, .int p1)]) := lv_sub hl [0, 1] rfl
        refine W.known (fun hza hna => ?_)
        refine W.widen (k := 1875) (n := 120000) (by omega) (by omega) ?_
        exact join2 _ _ _ _ ⟨fX_sheet, dX_sheet, nX_sheet, b_fX_sheet, (by first | exact b_nX_sheet | with_reducible assumption | exact ⟨by omega, by omega⟩ | assumption), (by first | with_reducible assumption | omega | (rw [iI_t (by omega) (by omega)]; omega) | (have h7 : (0 : Int32).toInt = 0 := (by decide); omega)), (show iX_sheetLength.toInt < ((nX_sheet : Nat) : Int) from by omega), (show nX_sheet ≤ nX_sheet from by omega), ⟨by omega, by omega⟩, rfl, hP, hD, hS, hl⟩
      · first | (have t_20 : ¬ iX_sheetLength.toInt < ((nX_sheet : Nat) : Int) := toI_nlt c_20 rfl (iI_t (by omega) (by omega))) | skip
        refine lv_aload_n hx hb dX11_put_23 rfl (lv_at hl 0 rfl) ?_
        refine lv_aload_n hx hb dX11_put_24 rfl (lv_at hl 0 rfl) ?_
        refine va_get (D := (dC, dI)) (ci := 11) (v := .ref dX_sheet) (C := RX11) (T := TX11) (N := 11) hx hb hts iwsMX11_put_in11 hown hK hP 0 rfl rfl 3 (by decide) (hts _ hm_m_X11_put_1) (fun _ h9 => h9) rfl dX11_put_25 ?_
        refine lv_aload_n hx hb dX11_put_28 rfl (lv_at hl 0 rfl) ?_
        refine va_get (D := (dC, dI)) (ci := 11) (v := .ref dX_sheet) (C := RX11) (T := TX11) (N := 11) hx hb hts iwsMX11_put_in11 hown hK hP 0 rfl rfl 3 (by decide) (hts _ hm_m_X11_put_1) (fun _ h9 => h9) rfl dX11_put_29 ?_
        refine va_alen hx hb hK hP 2 1 rfl rfl (v := (iI ((nX_sheet : Nat) : Int))) (iI_nat _) dX11_put_32 ?_
        refine lv_iconst (v := 2) hx hb dX11_put_33 (by decide) ?_
        refine lv_imul hx hb dX11_put_34 ?_
        refine lv_topi (fun y3 hy3 => ?_)
        obtain rfl : (iI (((nX_sheet : Nat) : Int) * 2)) = y3 := (hy3.trans (iI_mul2 rfl (by decide : (2 : Int32) = iI 2))).symm
        obtain ⟨nn4, hnn4⟩ : ∃ k9 : Nat, (k9 : Int) = (((nX_sheet : Nat) : Int) * 2) := ⟨((((nX_sheet : Nat) : Int) * 2)).toNat, by omega⟩
        have hPc : va_P (dC, dI) vwCl (WH (fun _ => 0) (fun _ => dX_sheet) (fun _ => kX 1) nX_sheet fX_sheet) _ := hP.sub [2] rfl
        have hDc : va_D _ (WH (fun _ => 0) (fun _ => dX_sheet) (fun _ => kX 1) nX_sheet fX_sheet) := hD.sub [2] (by decide) rfl
        have hKc : va_K (dC, dI) vwCl (tH (fun _ => kX 1)) _ := hK.sub [1] rfl
        have hFc := va_free (wc := WH (fun _ => 0) (fun _ => dX_sheet) (fun _ => kX 1) nX_sheet fX_sheet) hD hS hA [2] rfl
        refine va_callr (va_runS (As := [.ref dX_sheet, .int (iI (((nX_sheet : Nat) : Int) * 2))]) (rest := [.ref (hX 0)]) ⟨hx, hb, hml, hown, hts⟩ (m_J7_copyOf_9075b l dC dI (fun _ => 0) (fun _ => dX_sheet) (fun _ => kX 1) nX_sheet fX_sheet (iI (((nX_sheet : Nat) : Int) * 2)) nn4 ⟨by omega, by omega⟩ b_fX_sheet ((iI_t (by omega) (by omega)).trans hnn4.symm) (by omega) (by omega) s.heap.size) (va_cwS 2 hts gwsMX11_put_0 rfl rfl rfl (by decide +kernel) ⟨(by first | decide +kernel | (dsimp only [headSpec] <;> omega)), (by first | decide +kernel | (dsimp only [headSpec] <;> omega))⟩) ⟨fun a U g mk q => by obtain ⟨q0, q1, qP, qK, qD⟩ := q; exact ⟨q0, q1, qP, va_K.moved (u := U) (U := U.calling g mk a) (Vm.Alike.refl U.vm) qK, qD⟩, fun U hU9 hW => ⟨rfl, by rw [hU9], by rw [hU9]; exact hPc, va_K.moved hW.alike hKc, hDc.weaken (fun _ _ _ _ => trivial)⟩⟩ rfl rfl hl.1 rfl (lv_room (Nat.le_of_ble_eq_true rfl)) dX11_put_35 ⟨(by first | decide +kernel | (dsimp only [headSpec] <;> omega)), (by first | decide +kernel | (dsimp only [headSpec] <;> omega))⟩) hS (fun q _ h => hFc q h) hFc (fun uC4 ra4 t9_ H locs ht hvm hw9 hB9 hz1 hk1 hS => ?_)
        obtain ⟨hP, hD⟩ := va_join (wr := [(hX 0, .inr (11, [.ref (aX 0), .ref (hT 0), .ref (hM 0), .ref dX_sheet, .int iX_sheetLength, xX_reader, xX_solver, xX_prover, xX_values, xX_clauses, xX_nets])), (aX 0, .inl (kX 0, 5, .inl fX_ready))]) (w1 := [(dX_sheet, .inl (kX 1, nX_sheet, .inl fX_sheet)), (ra4, .inl (kX 1, nn4, .inl uC4))]) hP hD [2] [0, 1] rfl rfl (by decide) (by decide) hk1 hFc (fz_P ht hB9.1) hB9.2
        have hP : va_P (dC, dI) vwCl ((WX hX aX kX hT hM fX_ready fX_sheet dX_sheet nX_sheet iX_sheetLength xX_reader xX_solver xX_prover xX_values xX_clauses xX_nets) ++ [(ra4, .inl (kX 1, nn4, .inl uC4))]) H := hP.sub [0, 1, 2, 3] rfl
        have hD : va_D A ((WX hX aX kX hT hM fX_ready fX_sheet dX_sheet nX_sheet iX_sheetLength xX_reader xX_solver xX_prover xX_values xX_clauses xX_nets) ++ [(ra4, .inl (kX 1, nn4, .inl uC4))]) := hD.sub [0, 1, 2, 3] (by decide) rfl
        have b_uC4 := hw9
        refine va_put (D := (dC, dI)) (ci := 11) (v := .ref ra4) (ty := .array .byte) (C := RX11) (T := TX11) (N := 11) hx hb hts iwsMX11_put_in11 tyX11 tyX11_ok nmX11 hown hK hP hD hS 0 rfl rfl 3 (by decide) (hts _ hm_m_X11_put_1) (fun _ h9 => h9) rfl (by decide +kernel) rfl rfl (Nat.le_of_ble_eq_true rfl) dX11_put_38 (fun H locs hP hD hS => ?_)
        have hP : va_P (dC, dI) vwCl (WX hX aX kX hT hM fX_ready uC4 ra4 nn4 iX_sheetLength xX_reader xX_solver xX_prover xX_values xX_clauses xX_nets) _ := hP.sub [0, 1, 3] rfl
        have hD : va_D _ (WX hX aX kX hT hM fX_ready uC4 ra4 nn4 iX_sheetLength xX_reader xX_solver xX_prover xX_values xX_clauses xX_nets) := hD.sub [0, 1, 3] (by decide) rfl
        have hP : va_P (dC, dI) vwCl (WX hX aX kX hT hM fX_ready uC4 ra4 nn4 iX_sheetLength xX_reader xX_solver xX_prover xX_values xX_clauses xX_nets) H := hP
        have hD : va_D A (WX hX aX kX hT hM fX_ready uC4 ra4 nn4 iX_sheetLength xX_reader xX_solver xX_prover xX_values xX_clauses xX_nets) := hD
        refine W.widen (k := (nn4 / 32 - (nX_sheet / 32))) (n := (2 * nn4 - (2 * nX_sheet))) (by omega) (by omega) ?_
        have hl : lv_has _ _ ([(0, .ref (hX 0)), (1, .int p1)]) := lv_sub hl [0, 1] rfl
        refine W.known (fun hza hna => ?_)
        refine W.widen (k := 1875) (n := 120000) (by omega) (by omega) ?_
        exact join2 _ _ _ _ ⟨uC4, ra4, nn4, b_uC4, (by first | exact b_nn4 | with_reducible assumption | exact ⟨by omega, by omega⟩ | assumption), (by first | with_reducible assumption | omega | (rw [iI_t (by omega) (by omega)]; omega) | (have h7 : (0 : Int32).toInt = 0 := (by decide); omega)), (show iX_sheetLength.toInt < ((nn4 : Nat) : Int) from by omega), (show nX_sheet ≤ nn4 from by omega), ⟨by omega, by omega⟩, rfl, hP, hD, hS, hl⟩
    · rintro H locs ls stk ⟨fX_sheet_j2, dX_sheet_j2, nX_sheet_j2, b_fX_sheet_j2, b_nX_sheet_j2, b_shl_j2, hjn, hgm0_j2, ⟨hzj, hnj⟩, rfl, hP, hD, hS, hl⟩
      refine W.tight (cells2 := (nX_sheet_j2 / 32 - (nX_sheet / 32))) (slots2 := (2 * nX_sheet_j2 - (2 * nX_sheet))) (tg1 hzj hS.1) (tg2 hnj) ?_
      refine lv_aload_n hx hb dX11_put_41 rfl (lv_at hl 0 rfl) ?_
      refine va_get (D := (dC, dI)) (ci := 11) (v := .ref dX_sheet_j2) (C := RX11) (T := TX11) (N := 11) hx hb hts iwsMX11_put_in11 hown hK hP 0 rfl rfl 3 (by decide) (hts _ hm_m_X11_put_1) (fun _ h9 => h9) rfl dX11_put_42 ?_
      refine lv_aload_n hx hb dX11_put_45 rfl (lv_at hl 0 rfl) ?_
      refine va_get (D := (dC, dI)) (ci := 11) (v := .int iX_sheetLength) (C := RX11) (T := TX11) (N := 11) hx hb hts iwsMX11_put_in11 hown hK hP 0 rfl rfl 4 (by decide) (hts _ hm_m_X11_put_0) (fun _ h9 => h9) rfl dX11_put_46 ?_
      refine lv_iload_n hx hb dX11_put_49 rfl (lv_at hl 1 rfl) ?_
      refine lv_i2b hx hb dX11_put_50 rfl ?_
      refine lv_topi (fun v5 hv5 => ?_)
      clear hv5
      refine va_bast (cA := kX 1) (n := nX_sheet_j2) (f := fX_sheet_j2) hx hb hK hP hD hS 2 1 rfl rfl (vp_in_iff.mpr ⟨b_iX_sheetLength.1, (by omega)⟩) dX11_put_51 (fun H locs hP hD hS => ?_)
      obtain ⟨u6, hu6⟩ : ∃ f9, f9 = upd fX_sheet_j2 (iX_sheetLength).toNatClampNeg (vp_nar FieldType.byte v5) := ⟨_, rfl⟩
      have hP : va_P (dC, dI) vwCl (WX hX aX kX hT hM fX_ready u6 dX_sheet_j2 nX_sheet_j2 iX_sheetLength xX_reader xX_solver xX_prover xX_values xX_clauses xX_nets) H := by rw [hu6]; exact hP
      have hD : va_D A (WX hX aX kX hT hM fX_ready u6 dX_sheet_j2 nX_sheet_j2 iX_sheetLength xX_reader xX_solver xX_prover xX_values xX_clauses xX_nets) := by rw [hu6]; exact hD
      have b_u6 : ∀ q : Nat, (-128) ≤ (u6 q).toInt ∧ (u6 q).toInt ≤ 127 := by rw [hu6]; exact updb_r b_fX_sheet_j2
      clear hu6
      refine lv_aload_n hx hb dX11_put_52 rfl (lv_at hl 0 rfl) ?_
      refine lv_dup hx hb dX11_put_53 rfl ?_
      refine va_get (D := (dC, dI)) (ci := 11) (v := .int iX_sheetLength) (C := RX11) (T := TX11) (N := 11) hx hb hts iwsMX11_put_in11 hown hK hP 0 rfl rfl 4 (by decide) (hts _ hm_m_X11_put_0) (fun _ h9 => h9) rfl dX11_put_54 ?_
      refine lv_iconst (v := 1) hx hb dX11_put_57 (by decide) ?_
      refine lv_iadd hx hb dX11_put_58 ?_
      refine lv_topi (fun y7 hy7 => ?_)
      obtain rfl : (iI (iX_sheetLength.toInt + 1)) = y7 := (hy7.trans (iI_add2 (iI_of _) (by decide : (1 : Int32) = iI 1))).symm
      refine va_put (D := (dC, dI)) (ci := 11) (v := .int (iI (iX_sheetLength.toInt + 1))) (ty := .int) (C := RX11) (T := TX11) (N := 11) hx hb hts iwsMX11_put_in11 tyX11 tyX11_ok nmX11 hown hK hP hD hS 0 rfl rfl 4 (by decide) (hts _ hm_m_X11_put_0) (fun _ h9 => h9) rfl (by decide +kernel) rfl rfl (Nat.le_of_ble_eq_true rfl) dX11_put_59 (fun H locs hP hD hS => ?_)
      have hP : va_P (dC, dI) vwCl (WX hX aX kX hT hM fX_ready u6 dX_sheet_j2 nX_sheet_j2 (iI (iX_sheetLength.toInt + 1)) xX_reader xX_solver xX_prover xX_values xX_clauses xX_nets) H := hP
      have hD : va_D A (WX hX aX kX hT hM fX_ready u6 dX_sheet_j2 nX_sheet_j2 (iI (iX_sheetLength.toInt + 1)) xX_reader xX_solver xX_prover xX_values xX_clauses xX_nets) := hD
      refine W.known (fun hz9 hn9 => ?_)
      refine W.widen (k := 1876) (n := 180000) (by omega) (by omega) ?_
      exact W.vret hx hb hr (fun t9_ ht hW => ⟨⟨(u6, dX_sheet_j2, nX_sheet_j2, (iI (iX_sheetLength.toInt + 1))), rfl, ⟨b_u6, (by (try dsimp only); exact (by first | exact b_nX_sheet_j2 | with_reducible assumption | exact ⟨by omega, by omega⟩ | assumption)), (by (try dsimp only); exact (iI_rng (Int.le_trans (by decide) (Int.add_le_add (b_iX_sheetLength.1) (Int.le_refl _))) (by omega) (by decide) (by decide))), (by (try dsimp only); exact (by first | with_reducible assumption | omega | (rw [iI_t (by omega) (by omega)]; omega) | (have h7 : (0 : Int32).toInt = 0 := (by decide); omega))), (by (try dsimp only); omega), (by (try dsimp only); first | omega | (rw [iI_t (by omega) (by omega)]; omega))⟩, by rw [ht]; exact hP, hD, by rw [ht]; (try dsimp only); omega, by rw [ht]; (try dsimp only); omega⟩, hS.F ht⟩) hS.2.2 dX11_put_62
  · have t_7 : ¬ iX_sheetLength.toInt < 30000 := toI_nlt c_7 rfl (by decide : (30000 : Int32).toInt = 30000)
    refine W.known (fun hz9 hn9 => ?_)
    refine W.widen (k := 1876) (n := 180000) (by omega) (by omega) ?_
    exact W.vret hx hb hr (fun t9_ ht hW => ⟨⟨(fX_sheet, dX_sheet, nX_sheet, iX_sheetLength), rfl, ⟨b_fX_sheet, (by (try dsimp only); exact (by first | exact b_nX_sheet | with_reducible assumption | exact ⟨by omega, by omega⟩ | assumption)), b_iX_sheetLength, (by (try dsimp only); exact (by first | with_reducible assumption | omega | (rw [iI_t (by omega) (by omega)]; omega) | (have h7 : (0 : Int32).toInt = 0 := (by decide); omega))), (by (try dsimp only); omega), (by (try dsimp only); first | omega | (rw [iI_t (by omega) (by omega)]; omega))⟩, by rw [ht]; exact hP, hD, by rw [ht]; (try dsimp only); omega, by rw [ht]; (try dsimp only); omega⟩, hS.F ht⟩) hS.2.2 dX11_put_10
theorem dX11_turnRound_0 : decode cX11_turnRound 0 = .ok (.iload_n 1, 1) := dk_27 (by decide +kernel)
theorem dX11_turnRound_1 : decode cX11_turnRound 1 = .ok (.istore_n 2, 1) := dk_61 (by decide +kernel)
theorem dX11_turnRound_2 : decode cX11_turnRound 2 = .ok (.aload_n 0, 1) := dk_42 (by decide +kernel)
theorem dX11_turnRound_3 : decode cX11_turnRound 3 = .ok (.getfield 138, 3) := dk_180 (by decide +kernel)
theorem dX11_turnRound_6 : decode cX11_turnRound 6 = .ok (.iconst 1, 1) := dk_4 (by decide +kernel)
theorem dX11_turnRound_7 : decode cX11_turnRound 7 = .ok (.isub, 1) := dk_100 (by decide +kernel)
theorem dX11_turnRound_8 : decode cX11_turnRound 8 = .ok (.istore_n 3, 1) := dk_62 (by decide +kernel)
theorem dX11_turnRound_9 : decode cX11_turnRound 9 = .ok (.iload_n 2, 1) := dk_28 (by decide +kernel)
theorem dX11_turnRound_10 : decode cX11_turnRound 10 = .ok (.iload_n 3, 1) := dk_29 (by decide +kernel)
theorem dX11_turnRound_11 : decode cX11_turnRound 11 = .ok (.if_icmp .ge 40, 3) := dk_162 (by decide +kernel)
theorem dX11_turnRound_14 : decode cX11_turnRound 14 = .ok (.aload_n 0, 1) := dk_42 (by decide +kernel)
theorem dX11_turnRound_15 : decode cX11_turnRound 15 = .ok (.getfield 27, 3) := dk_180 (by decide +kernel)
theorem dX11_turnRound_18 : decode cX11_turnRound 18 = .ok (.iload_n 2, 1) := dk_28 (by decide +kernel)
theorem dX11_turnRound_19 : decode cX11_turnRound 19 = .ok (.baload, 1) := dk_51 (by decide +kernel)
theorem dX11_turnRound_20 : decode cX11_turnRound 20 = .ok (.istore 4, 2) := dk_54 (by decide +kernel)
theorem dX11_turnRound_22 : decode cX11_turnRound 22 = .ok (.aload_n 0, 1) := dk_42 (by decide +kernel)
theorem dX11_turnRound_23 : decode cX11_turnRound 23 = .ok (.getfield 27, 3) := dk_180 (by decide +kernel)
theorem dX11_turnRound_26 : decode cX11_turnRound 26 = .ok (.iload_n 2, 1) := dk_28 (by decide +kernel)
theorem dX11_turnRound_27 : decode cX11_turnRound 27 = .ok (.aload_n 0, 1) := dk_42 (by decide +kernel)
theorem dX11_turnRound_28 : decode cX11_turnRound 28 = .ok (.getfield 27, 3) := dk_180 (by decide +kernel)
theorem dX11_turnRound_31 : decode cX11_turnRound 31 = .ok (.iload_n 3, 1) := dk_29 (by decide +kernel)
theorem dX11_turnRound_32 : decode cX11_turnRound 32 = .ok (.baload, 1) := dk_51 (by decide +kernel)
theorem dX11_turnRound_33 : decode cX11_turnRound 33 = .ok (.bastore, 1) := dk_84 (by decide +kernel)
theorem dX11_turnRound_34 : decode cX11_turnRound 34 = .ok (.aload_n 0, 1) := dk_42 (by decide +kernel)
theorem dX11_turnRound_35 : decode cX11_turnRound 35 = .ok (.getfield 27, 3) := dk_180 (by decide +kernel)
theorem dX11_turnRound_38 : decode cX11_turnRound 38 = .ok (.iload_n 3, 1) := dk_29 (by decide +kernel)
theorem dX11_turnRound_39 : decode cX11_turnRound 39 = .ok (.iload 4, 2) := dk_21 (by decide +kernel)
theorem dX11_turnRound_41 : decode cX11_turnRound 41 = .ok (.bastore, 1) := dk_84 (by decide +kernel)
theorem dX11_turnRound_42 : decode cX11_turnRound 42 = .ok (.iinc 2 1, 3) := dk_132 (by decide +kernel)
theorem dX11_turnRound_45 : decode cX11_turnRound 45 = .ok (.iinc 3 (-1), 3) := dk_132 (by decide +kernel)
theorem dX11_turnRound_48 : decode cX11_turnRound 48 = .ok (.goto (-39), 3) := dk_167 (by decide +kernel)
theorem dX11_turnRound_51 : decode cX11_turnRound 51 = .ok (.return_, 1) := dk_177 (by decide +kernel)
def wsMX11_turnRound : List Cond := .code yX11_turnRound cX11_turnRound 5 none :: ([.fieldLink RX11 138 "OptimaWorks" "sheetLength" "I", .fieldLink RX11 27 "OptimaWorks" "sheet" "[B"] ++ wsX110)
theorem iwsMX11_turnRound_in11 : ∀ w ∈ wsX110, w ∈ wsMX11_turnRound := fun _ h => List.mem_cons_of_mem _ (List.mem_append_right _ h)
theorem gdwsMX11_turnRound : wsMX11_turnRound.all goodWord = true := gdC rfl (gdA (by decide +kernel : ([.fieldLink RX11 138 "OptimaWorks" "sheetLength" "I", .fieldLink RX11 27 "OptimaWorks" "sheet" "[B"] : List Cond).all goodWord = true) gdwsX110)
theorem hm_m_X11_turnRound_0 : (.fieldLink RX11 27 "OptimaWorks" "sheet" "[B" : Cond) ∈ wsMX11_turnRound := by decide +kernel
set_option maxHeartbeats 4000000 in
set_option maxRecDepth 100000 in
/-- digits turned round -/
theorem m_X11_turnRound (l : Launch) (dC : Nat → ClassId) (dI : Nat → Nat → Nat) (hX : Nat → Nat) (aX : Nat → Nat) (kX : Nat → ClassId) (hT : Nat → Nat) (hM : Nat → Nat) (fX_ready : Nat → Int32) (fX_sheet : Nat → Int32) (dX_sheet : Nat) (nX_sheet : Nat) (iX_sheetLength : Int32) (xX_reader : Value) (xX_solver : Value) (xX_prover : Value) (xX_values : Value) (xX_clauses : Value) (xX_nets : Value) (p1 : Int32) (b_fX_sheet : ∀ q : Nat, (-128) ≤ (fX_sheet q).toInt ∧ (fX_sheet q).toInt ≤ 127) (b_nX_sheet : 64 ≤ nX_sheet ∧ nX_sheet ≤ 60000) (b_iX_sheetLength : 0 ≤ iX_sheetLength.toInt ∧ iX_sheetLength.toInt ≤ 30000) (b_shl : iX_sheetLength.toInt ≤ ((nX_sheet : Nat) : Int)) (b_p1 : 0 ≤ p1.toInt ∧ p1.toInt ≤ 30000) (sz : Nat) : Met l yX11_turnRound wsMX11_turnRound ({ frames := 0, cells := 0, slots := 0, locals := 0 }) (va_Pc [.ref (hX 0), .int p1] (fun U => U.heap.size = sz ∧ va_P (dC, dI) vwCl (WX hX aX kX hT hM fX_ready fX_sheet dX_sheet nX_sheet iX_sheetLength xX_reader xX_solver xX_prover xX_values xX_clauses xX_nets) U.heap ∧ va_K (dC, dI) vwCl (tX kX) U ∧ va_D (fun _ => True) (WX hX aX kX hT hM fX_ready fX_sheet dX_sheet nX_sheet iX_sheetLength xX_reader xX_solver xX_prover xX_values xX_clauses xX_nets))) (va_Qv (fun (u : Nat → Int32) => (∀ q : Nat, (-128) ≤ (u q).toInt ∧ (u q).toInt ≤ 127)) (fun (u : Nat → Int32) t => va_P (dC, dI) vwCl (WX hX aX kX hT hM fX_ready u dX_sheet nX_sheet iX_sheetLength xX_reader xX_solver xX_prover xX_values xX_clauses xX_nets) t.heap ∧ va_D (va_A (WX hX aX kX hT hM fX_ready fX_sheet dX_sheet nX_sheet iX_sheetLength xX_reader xX_solver xX_prover xX_values xX_clauses xX_nets) sz) (WX hX aX kX hT hM fX_ready u dX_sheet nX_sheet iX_sheetLength xX_reader xX_solver xX_prover xX_values xX_clauses xX_nets)) (va_A (WX hX aX kX hT hM fX_ready fX_sheet dX_sheet nX_sheet iX_sheetLength xX_reader xX_solver xX_prover xX_values xX_clauses xX_nets) sz)) 0 0 (va_A (WX hX aX kX hT hM fX_ready fX_sheet dX_sheet nX_sheet iX_sheetLength xX_reader xX_solver xX_prover xX_values xX_clauses xX_nets) sz) := by
  refine Met.ofW (cc := cX11_turnRound) (maxL := 5) (ret := none) (by decide) rfl ?_
  intro p e s m args below meth c s₁ B hml hv
  obtain ⟨rfl, hsz, hP, hK, hD0⟩ := hv
  have hx := B.exec
  have hb := B.bytes
  have hr := B.returns
  have hts := atoms_spec (ws := wsMX11_turnRound) B.pre
  have hown : s.vm.findClass RX11 = some m.cls := findClass_of_methodNamed B.named
  have hlocks := B.notSynchronized
  subst hsz
  have hD := hD0.self (sz := s.heap.size)
  generalize hAe : va_A (WX hX aX kX hT hM fX_ready fX_sheet dX_sheet nX_sheet iX_sheetLength xX_reader xX_solver xX_prover xX_values xX_clauses xX_nets) s.heap.size = A at hD ⊢
  have hA : ∀ q : Nat, s.heap.size ≤ q → A q := fun q h => by rw [← hAe]; exact Or.inr h
  have hS : va_S A s.heap s.heap [] := va_S.rf
  have hl := lv_entry ([.ref (hX 0), .int p1]) (n := 5) (Nat.le_of_ble_eq_true rfl)
  rw [lg_entry_eq]
  generalize (lg_sl ([.ref (hX 0), .int p1]) ++ List.replicate (5 - (lg_sl ([.ref (hX 0), .int p1])).length) Slot.unset).toArray = ls at hl ⊢
  have hl : lv_has ls 5 [(0, .ref (hX 0)), (1, .int p1)] := hl
  refine lv_iload_n hx hb dX11_turnRound_0 rfl (lv_at hl 1 rfl) ?_
  refine lv_istore_n hx hb dX11_turnRound_1 rfl hl (by decide) rfl (fun ls (hl : lv_has ls _ ([(2, .int p1), (0, .ref (hX 0)), (1, .int p1)])) => ?_)
  refine lv_aload_n hx hb dX11_turnRound_2 rfl (lv_at hl 1 rfl) ?_
  refine va_get (D := (dC, dI)) (ci := 11) (v := .int iX_sheetLength) (C := RX11) (T := TX11) (N := 11) hx hb hts iwsMX11_turnRound_in11 hown hK hP 0 rfl rfl 4 (by decide) (hts (.fieldLink RX11 138 "OptimaWorks" "sheetLength" "I") (by decide +kernel)) (fun _ h9 => h9) rfl dX11_turnRound_3 ?_
  refine lv_iconst (v := 1) hx hb dX11_turnRound_6 (by decide) ?_
  refine lv_isub hx hb dX11_turnRound_7 ?_
  refine lv_topi (fun y1 hy1 => ?_)
  obtain rfl : (iI (iX_sheetLength.toInt - 1)) = y1 := (hy1.trans (iI_sub2 (iI_of _) (by decide : (1 : Int32) = iI 1))).symm
  refine lv_istore_n hx hb dX11_turnRound_8 rfl hl (by decide) rfl (fun ls (hl : lv_has ls _ ([(3, .int (iI (iX_sheetLength.toInt - 1))), (2, .int p1), (0, .ref (hX 0)), (1, .int p1)])) => ?_)
  have hl : lv_has _ _ ([(3, .int (iI (iX_sheetLength.toInt - 1))), (2, .int p1), (0, .ref (hX 0)), (1, .int p1)]) := lv_sub hl [0, 1, 2, 3] rfl
  refine (fun (loop : ∀ (n9 : Nat) (fX_sheet_x9 : Nat → Int32) (l3_x9 : Int32) (l2_x9 : Int32) (H : Heap) (locs : List Loc) (ls : Array Slot), (∀ q : Nat, (-128) ≤ (fX_sheet_x9 q).toInt ∧ (fX_sheet_x9 q).toInt ≤ 127) → ((-1) ≤ l3_x9.toInt ∧ l3_x9.toInt ≤ 29999) → (0 ≤ l2_x9.toInt ∧ l2_x9.toInt ≤ 30001) → (l3_x9.toInt < iX_sheetLength.toInt) → (30001 - l2_x9.toInt < ((n9 : Nat) : Int)) → va_P (dC, dI) vwCl (WX hX aX kX hT hM fX_ready fX_sheet_x9 dX_sheet nX_sheet iX_sheetLength xX_reader xX_solver xX_prover xX_values xX_clauses xX_nets) H → va_D A (WX hX aX kX hT hM fX_ready fX_sheet_x9 dX_sheet nX_sheet iX_sheetLength xX_reader xX_solver xX_prover xX_values xX_clauses xX_nets) → va_S A s.heap H locs → lv_has ls 5 [(3, .int l3_x9), (2, .int l2_x9), (0, .ref (hX 0)), (1, .int p1)] → W p l e _ s m _ below meth c H locs 0 0 _ (F0 m 9 ls [])) => loop (30002) fX_sheet (iI (iX_sheetLength.toInt - 1)) p1 _ _ _ b_fX_sheet (iI_rng (Int.le_trans (by decide) (Int.sub_le_sub (b_iX_sheetLength.1) (Int.le_refl _))) (Int.le_trans (Int.sub_le_sub (b_iX_sheetLength.2) (Int.le_refl _)) (by decide)) (by decide) (by decide)) (⟨b_p1.1, Int.le_trans b_p1.2 (by decide)⟩) (show (iI (iX_sheetLength.toInt - 1)).toInt < iX_sheetLength.toInt from by rw [iI_t (by omega) (by omega)]; omega) ((by have e9 : (p1).toInt = p1.toInt := rfl; omega)) hP hD hS hl) ?_
  intro n9
  induction n9 with
  | zero => intro fX_sheet_x9 l3_x9 l2_x9 H locs ls b_fX_sheet_x9 b_l3_x9 b_l2_x9 hjl hf9; exact False.elim (by omega)
  | succ n9 ihx9 =>
    intro fX_sheet_x9 l3_x9 l2_x9 H locs ls b_fX_sheet_x9 b_l3_x9 b_l2_x9 hjl hfx9 hP hD hS hl
    refine lv_iload_n hx hb dX11_turnRound_9 rfl (lv_at hl 1 rfl) ?_
    refine lv_iload_n hx hb dX11_turnRound_10 rfl (lv_at hl 0 rfl) ?_
    refine lv_icmp_ge (tgt := 51) hx hb dX11_turnRound_11 (by decide) (fun c_11 => ?_) (fun c_11 => ?_)
    · have t_11 : l2_x9.toInt ≥ l3_x9.toInt := toI_ge c_11 rfl rfl
      refine W.widen (k := 0) (n := 0) (by decide +kernel) (by decide +kernel) ?_
      exact W.vret hx hb hr (fun t9_ ht hW => ⟨⟨fX_sheet_x9, rfl, b_fX_sheet_x9, by rw [ht]; exact hP, hD⟩, hS.F ht⟩) hS.2.2 dX11_turnRound_51
    · have t_11 : ¬ l2_x9.toInt ≥ l3_x9.toInt := toI_nge c_11 rfl rfl
      refine lv_aload_n hx hb dX11_turnRound_14 rfl (lv_at hl 2 rfl) ?_
      refine va_get (D := (dC, dI)) (ci := 11) (v := .ref dX_sheet) (C := RX11) (T := TX11) (N := 11) hx hb hts iwsMX11_turnRound_in11 hown hK hP 0 rfl rfl 3 (by decide) (hts _ hm_m_X11_turnRound_0) (fun _ h9 => h9) rfl dX11_turnRound_15 ?_
      refine lv_iload_n hx hb dX11_turnRound_18 rfl (lv_at hl 1 rfl) ?_
      refine va_bald (cA := kX 1) (n := nX_sheet) (f := fX_sheet_x9) hx hb hK hP 2 1 rfl rfl (vp_in_iff.mpr ⟨b_l2_x9.1, (by omega)⟩) dX11_turnRound_19 ?_
      refine lv_topi (fun v22 hv22 => ?_)
      have b_v22 : (-128) ≤ v22.toInt ∧ v22.toInt ≤ 127 := by rw [hv22]; exact b_fX_sheet_x9 _
      clear hv22
      refine lv_istore hx hb dX11_turnRound_20 hl (by decide) rfl (fun ls (hl : lv_has ls _ ([(4, .int v22), (3, .int l3_x9), (2, .int l2_x9), (0, .ref (hX 0)), (1, .int p1)])) => ?_)
      refine lv_aload_n hx hb dX11_turnRound_22 rfl (lv_at hl 3 rfl) ?_
      refine va_get (D := (dC, dI)) (ci := 11) (v := .ref dX_sheet) (C := RX11) (T := TX11) (N := 11) hx hb hts iwsMX11_turnRound_in11 hown hK hP 0 rfl rfl 3 (by decide) (hts _ hm_m_X11_turnRound_0) (fun _ h9 => h9) rfl dX11_turnRound_23 ?_
      refine lv_iload_n hx hb dX11_turnRound_26 rfl (lv_at hl 2 rfl) ?_
      refine lv_aload_n hx hb dX11_turnRound_27 rfl (lv_at hl 3 rfl) ?_
      refine va_get (D := (dC, dI)) (ci := 11) (v := .ref dX_sheet) (C := RX11) (T := TX11) (N := 11) hx hb hts iwsMX11_turnRound_in11 hown hK hP 0 rfl rfl 3 (by decide) (hts _ hm_m_X11_turnRound_0) (fun _ h9 => h9) rfl dX11_turnRound_28 ?_
      refine lv_iload_n hx hb dX11_turnRound_31 rfl (lv_at hl 1 rfl) ?_
      refine va_bald (cA := kX 1) (n := nX_sheet) (f := fX_sheet_x9) hx hb hK hP 2 1 rfl rfl (vp_in_iff.mpr ⟨(by omega), (by omega)⟩) dX11_turnRound_32 ?_
      refine lv_topi (fun v23 hv23 => ?_)
      have b_v23 : (-128) ≤ v23.toInt ∧ v23.toInt ≤ 127 := by rw [hv23]; exact b_fX_sheet_x9 _
      clear hv23
      refine va_bast (cA := kX 1) (n := nX_sheet) (f := fX_sheet_x9) hx hb hK hP hD hS 2 1 rfl rfl (vp_in_iff.mpr ⟨b_l2_x9.1, (by omega)⟩) dX11_turnRound_33 (fun H locs hP hD hS => ?_)
      obtain ⟨u24, hu24⟩ : ∃ f9, f9 = upd fX_sheet_x9 (l2_x9).toNatClampNeg (vp_nar FieldType.byte v23) := ⟨_, rfl⟩
      have hP : va_P (dC, dI) vwCl (WX hX aX kX hT hM fX_ready u24 dX_sheet nX_sheet iX_sheetLength xX_reader xX_solver xX_prover xX_values xX_clauses xX_nets) H := by rw [hu24]; exact hP
      have hD : va_D A (WX hX aX kX hT hM fX_ready u24 dX_sheet nX_sheet iX_sheetLength xX_reader xX_solver xX_prover xX_values xX_clauses xX_nets) := by rw [hu24]; exact hD
      have b_u24 : ∀ q : Nat, (-128) ≤ (u24 q).toInt ∧ (u24 q).toInt ≤ 127 := by rw [hu24]; exact updb_r b_fX_sheet_x9
      clear hu24
      refine lv_aload_n hx hb dX11_turnRound_34 rfl (lv_at hl 3 rfl) ?_
      refine va_get (D := (dC, dI)) (ci := 11) (v := .ref dX_sheet) (C := RX11) (T := TX11) (N := 11) hx hb hts iwsMX11_turnRound_in11 hown hK hP 0 rfl rfl 3 (by decide) (hts _ hm_m_X11_turnRound_0) (fun _ h9 => h9) rfl dX11_turnRound_35 ?_
      refine lv_iload_n hx hb dX11_turnRound_38 rfl (lv_at hl 1 rfl) ?_
      refine lv_iload hx hb dX11_turnRound_39 (lv_at hl 0 rfl) ?_
      refine va_bast (cA := kX 1) (n := nX_sheet) (f := u24) hx hb hK hP hD hS 2 1 rfl rfl (vp_in_iff.mpr ⟨(by omega), (by omega)⟩) dX11_turnRound_41 (fun H locs hP hD hS => ?_)
      obtain ⟨u25, hu25⟩ : ∃ f9, f9 = upd u24 (l3_x9).toNatClampNeg (vp_nar FieldType.byte v22) := ⟨_, rfl⟩
      have hP : va_P (dC, dI) vwCl (WX hX aX kX hT hM fX_ready u25 dX_sheet nX_sheet iX_sheetLength xX_reader xX_solver xX_prover xX_values xX_clauses xX_nets) H := by rw [hu25]; exact hP
      have hD : va_D A (WX hX aX kX hT hM fX_ready u25 dX_sheet nX_sheet iX_sheetLength xX_reader xX_solver xX_prover xX_values xX_clauses xX_nets) := by rw [hu25]; exact hD
      have b_u25 : ∀ q : Nat, (-128) ≤ (u25 q).toInt ∧ (u25 q).toInt ≤ 127 := by rw [hu25]; exact updb_r b_u24
      clear hu25
      refine lv_iinc (v := (iI (l2_x9.toInt + 1))) hx hb dX11_turnRound_42 hl (k := 2) rfl (iI_add2 (iI_of _) (by decide : (1 : Int32) = iI 1)) (by decide) rfl (fun ls (hl : lv_has ls _ ([(2, .int (iI (l2_x9.toInt + 1))), (4, .int v22), (3, .int l3_x9), (0, .ref (hX 0)), (1, .int p1)])) => ?_)
      refine lv_iinc (v := (iI (l3_x9.toInt + (-1)))) hx hb dX11_turnRound_45 hl (k := 2) rfl (iI_add2 (iI_of _) (by decide : ((-1) : Int32) = iI (-1))) (by decide) rfl (fun ls (hl : lv_has ls _ ([(3, .int (iI (l3_x9.toInt + (-1)))), (2, .int (iI (l2_x9.toInt + 1))), (4, .int v22), (0, .ref (hX 0)), (1, .int p1)])) => ?_)
      refine lv_goto (tgt := 9) hx hb dX11_turnRound_48 (by decide) ?_
      have hl : lv_has _ _ ([(3, .int (iI (l3_x9.toInt + (-1)))), (2, .int (iI (l2_x9.toInt + 1))), (0, .ref (hX 0)), (1, .int p1)]) := lv_sub hl [0, 1, 3, 4] rfl
      exact ihx9 u25 (iI (l3_x9.toInt + (-1))) (iI (l2_x9.toInt + 1)) _ _ _ b_u25 (iI_rng (by omega) (Int.le_trans (Int.add_le_add (b_l3_x9.2) (Int.le_refl _)) (by decide)) (by decide) (by decide)) (iI_rng (Int.le_trans (by decide) (Int.add_le_add (b_l2_x9.1) (Int.le_refl _))) (by omega) (by decide) (by decide)) (show (iI (l3_x9.toInt + (-1))).toInt < iX_sheetLength.toInt from by rw [iI_t (by omega) (by omega)]; omega) (by have e9 : ((iI (l2_x9.toInt + 1))).toInt = (l2_x9.toInt + 1) := (iI_t (Int.le_trans (by decide) (Int.add_le_add (b_l2_x9.1) (Int.le_refl _))) (Int.le_trans (Int.add_le_add (b_l2_x9.2) (Int.le_refl _)) (by decide))); omega) hP hD hS hl
theorem dX11_putText_0 : decode cX11_putText 0 = .ok (.iconst 0, 1) := dk_3 (by decide +kernel)
theorem dX11_putText_1 : decode cX11_putText 1 = .ok (.istore_n 2, 1) := dk_61 (by decide +kernel)
theorem dX11_putText_2 : decode cX11_putText 2 = .ok (.iload_n 2, 1) := dk_28 (by decide +kernel)
theorem dX11_putText_3 : decode cX11_putText 3 = .ok (.aload_n 1, 1) := dk_43 (by decide +kernel)
theorem dX11_putText_4 : decode cX11_putText 4 = .ok (.invokevirtual 234, 3) := dk_182 (by decide +kernel)
theorem dX11_putText_7 : decode cX11_putText 7 = .ok (.if_icmp .ge 18, 3) := dk_162 (by decide +kernel)
theorem dX11_putText_10 : decode cX11_putText 10 = .ok (.aload_n 0, 1) := dk_42 (by decide +kernel)
theorem dX11_putText_11 : decode cX11_putText 11 = .ok (.aload_n 1, 1) := dk_43 (by decide +kernel)
theorem dX11_putText_12 : decode cX11_putText 12 = .ok (.iload_n 2, 1) := dk_28 (by decide +kernel)
theorem dX11_putText_13 : decode cX11_putText 13 = .ok (.invokevirtual 238, 3) := dk_182 (by decide +kernel)
theorem dX11_putText_16 : decode cX11_putText 16 = .ok (.invokevirtual 242, 3) := dk_182 (by decide +kernel)
theorem dX11_putText_19 : decode cX11_putText 19 = .ok (.iinc 2 1, 3) := dk_132 (by decide +kernel)
theorem dX11_putText_22 : decode cX11_putText 22 = .ok (.goto (-20), 3) := dk_167 (by decide +kernel)
theorem dX11_putText_25 : decode cX11_putText 25 = .ok (.return_, 1) := dk_177 (by decide +kernel)
def wsMX11_putText : List Cond := .code yX11_putText cX11_putText 3 none :: ([] ++ (wsV RX11 234 RJ0 yJ0_length_8abf5 wsMJ0_length_8abf5) ++ (wsV RX11 238 RJ0 yJ0_charAt_5068e wsRJ0ca) ++ (wsV RX11 242 RX11 yX11_put wsMX11_put))
theorem gwsMX11_putText_0 : GoodIn wsMX11_putText (wsV RX11 234 RJ0 yJ0_length_8abf5 wsMJ0_length_8abf5) := goodIn_sub (fun _ h => List.mem_cons_of_mem _ (List.mem_append_left _ (List.mem_append_left _ (List.mem_append_right _ h)))) (gdV (by decide +kernel) gdwsMJ0_length_8abf5)
theorem gwsMX11_putText_1 : GoodIn wsMX11_putText (wsV RX11 238 RJ0 yJ0_charAt_5068e wsRJ0ca) := goodIn_sub (fun _ h => List.mem_cons_of_mem _ (List.mem_append_left _ (List.mem_append_right _ h))) (gdV (by decide +kernel) gdwsRJ0ca)
theorem gwsMX11_putText_2 : GoodIn wsMX11_putText (wsV RX11 242 RX11 yX11_put wsMX11_put) := goodIn_sub (fun _ h => List.mem_cons_of_mem _ (List.mem_append_right _ h)) (gdV (by decide +kernel) gdwsMX11_put)
theorem gdwsMX11_putText : wsMX11_putText.all goodWord = true := gdC rfl (gdA (gdA (gdA (by decide +kernel : ([] : List Cond).all goodWord = true) (gdV (by decide +kernel) gdwsMJ0_length_8abf5)) (gdV (by decide +kernel) gdwsRJ0ca)) (gdV (by decide +kernel) gdwsMX11_put))
set_option maxHeartbeats 4000000 in
set_option maxRecDepth 100000 in
/-- a text more -/
theorem m_X11_putText (l : Launch) (dC : Nat → ClassId) (dI : Nat → Nat → Nat) (hX : Nat → Nat) (aX : Nat → Nat) (kX : Nat → ClassId) (hT : Nat → Nat) (hM : Nat → Nat) (fX_ready : Nat → Int32) (fX_sheet : Nat → Int32) (dX_sheet : Nat) (nX_sheet : Nat) (iX_sheetLength : Int32) (xX_reader : Value) (xX_solver : Value) (xX_prover : Value) (xX_values : Value) (xX_clauses : Value) (xX_nets : Value) (qS : Nat) (nn : Nat) (fB : Nat → Int32) (b_fX_sheet : ∀ q : Nat, (-128) ≤ (fX_sheet q).toInt ∧ (fX_sheet q).toInt ≤ 127) (b_nX_sheet : 64 ≤ nX_sheet ∧ nX_sheet ≤ 60000) (b_iX_sheetLength : 0 ≤ iX_sheetLength.toInt ∧ iX_sheetLength.toInt ≤ 30000) (b_shl : iX_sheetLength.toInt ≤ ((nX_sheet : Nat) : Int)) (hnn : nn ≤ 1000) (sz : Nat) : Met l yX11_putText wsMX11_putText ({ frames := 4, cells := 3751, slots := 300000, locals := 85 }) (va_Pc [.ref (hX 0), .ref qS] (fun U => U.heap.size = sz ∧ va_P (dC, dI) vwCl (WX hX aX kX hT hM fX_ready fX_sheet dX_sheet nX_sheet iX_sheetLength xX_reader xX_solver xX_prover xX_values xX_clauses xX_nets) U.heap ∧ va_K (dC, dI) vwCl (tX kX) U ∧ va_D (fun _ => True) (WX hX aX kX hT hM fX_ready fX_sheet dX_sheet nX_sheet iX_sheetLength xX_reader xX_solver xX_prover xX_values xX_clauses xX_nets) ∧ (StrE qS nn fB) (va_A (WX hX aX kX hT hM fX_ready fX_sheet dX_sheet nX_sheet iX_sheetLength xX_reader xX_solver xX_prover xX_values xX_clauses xX_nets) sz) U U.heap)) (va_Qv (fun (u : (Nat → Int32) × (Nat) × (Nat) × (Int32)) => (∀ q : Nat, (-128) ≤ ((u.1) q).toInt ∧ ((u.1) q).toInt ≤ 127) ∧ (64 ≤ (u.2.2.1) ∧ (u.2.2.1) ≤ 60000) ∧ (0 ≤ (u.2.2.2).toInt ∧ (u.2.2.2).toInt ≤ 30000) ∧ ((u.2.2.2).toInt ≤ (((u.2.2.1) : Nat) : Int)) ∧ (nX_sheet ≤ (u.2.2.1)) ∧ (iX_sheetLength.toInt ≤ (u.2.2.2).toInt)) (fun (u : (Nat → Int32) × (Nat) × (Nat) × (Int32)) t => va_P (dC, dI) vwCl (WX hX aX kX hT hM fX_ready (u.1) (u.2.1) (u.2.2.1) (u.2.2.2) xX_reader xX_solver xX_prover xX_values xX_clauses xX_nets) t.heap ∧ va_D (va_A (WX hX aX kX hT hM fX_ready fX_sheet dX_sheet nX_sheet iX_sheetLength xX_reader xX_solver xX_prover xX_values xX_clauses xX_nets) sz) (WX hX aX kX hT hM fX_ready (u.1) (u.2.1) (u.2.2.1) (u.2.2.2) xX_reader xX_solver xX_prover xX_values xX_clauses xX_nets) ∧ t.heap.size + (nX_sheet / 32) ≤ sz + ((u.2.2.1) / 32) ∧ nS sz t.heap + (2 * nX_sheet) ≤ (2 * (u.2.2.1))) (va_A (WX hX aX kX hT hM fX_ready fX_sheet dX_sheet nX_sheet iX_sheetLength xX_reader xX_solver xX_prover xX_values xX_clauses xX_nets) sz)) 3751 300000 (va_A (WX hX aX kX hT hM fX_ready fX_sheet dX_sheet nX_sheet iX_sheetLength xX_reader xX_solver xX_prover xX_values xX_clauses xX_nets) sz) := by
  refine Met.ofW (cc := cX11_putText) (maxL := 3) (ret := none) (by decide) rfl ?_
  intro p e s m args below meth c s₁ B hml hv
  obtain ⟨rfl, hsz, hP, hK, hD0, hE⟩ := hv
  have hx := B.exec
  have hb := B.bytes
  have hr := B.returns
  have hts := atoms_spec (ws := wsMX11_putText) B.pre
  have hown : s.vm.findClass RX11 = some m.cls := findClass_of_methodNamed B.named
  have hlocks := B.notSynchronized
  subst hsz
  have hD := hD0.self (sz := s.heap.size)
  generalize hAe : va_A (WX hX aX kX hT hM fX_ready fX_sheet dX_sheet nX_sheet iX_sheetLength xX_reader xX_solver xX_prover xX_values xX_clauses xX_nets) s.heap.size = A at hD hE ⊢
  have hA : ∀ q : Nat, s.heap.size ≤ q → A q := fun q h => by rw [← hAe]; exact Or.inr h
  have hS : va_S A s.heap s.heap [] := va_S.rf
  have hl := lv_entry ([.ref (hX 0), .ref qS]) (n := 3) (Nat.le_of_ble_eq_true rfl)
  rw [lg_entry_eq]
  generalize (lg_sl ([.ref (hX 0), .ref qS]) ++ List.replicate (3 - (lg_sl ([.ref (hX 0), .ref qS])).length) Slot.unset).toArray = ls at hl ⊢
  have hl : lv_has ls 3 [(0, .ref (hX 0)), (1, .ref qS)] := hl
  refine W.widen (k := (nX_sheet / 32 - (nX_sheet / 32))) (n := (2 * nX_sheet - (2 * nX_sheet))) (Nat.zero_le _) (Nat.zero_le _) ?_
  refine lv_iconst (v := 0) hx hb dX11_putText_0 (by decide) ?_
  refine lv_istore_n hx hb dX11_putText_1 rfl hl (by decide) rfl (fun ls (hl : lv_has ls _ ([(2, .int 0), (0, .ref (hX 0)), (1, .ref qS)])) => ?_)
  have hl : lv_has _ _ ([(2, .int 0), (0, .ref (hX 0)), (1, .ref qS)]) := lv_sub hl [0, 1, 2] rfl
  refine (fun (loop : ∀ (n9 : Nat) (fX_sheet_x2 : Nat → Int32) (dX_sheet_x2 : Nat) (nX_sheet_x2 : Nat) (iX_sheetLength_x2 : Int32) (l2_x2 : Int32) (H : Heap) (locs : List Loc) (ls : Array Slot), (∀ q : Nat, (-128) ≤ (fX_sheet_x2 q).toInt ∧ (fX_sheet_x2 q).toInt ≤ 127) → (64 ≤ nX_sheet_x2 ∧ nX_sheet_x2 ≤ 60000) → (0 ≤ iX_sheetLength_x2.toInt ∧ iX_sheetLength_x2.toInt ≤ 30000) → (0 ≤ l2_x2.toInt ∧ l2_x2.toInt ≤ 1000) → (iX_sheetLength_x2.toInt ≤ ((nX_sheet_x2 : Nat) : Int)) → (iX_sheetLength.toInt ≤ iX_sheetLength_x2.toInt) → (nX_sheet ≤ nX_sheet_x2) → (1000 - l2_x2.toInt < ((n9 : Nat) : Int)) → va_P (dC, dI) vwCl (WX hX aX kX hT hM fX_ready fX_sheet_x2 dX_sheet_x2 nX_sheet_x2 iX_sheetLength_x2 xX_reader xX_solver xX_prover xX_values xX_clauses xX_nets) H → va_D A (WX hX aX kX hT hM fX_ready fX_sheet_x2 dX_sheet_x2 nX_sheet_x2 iX_sheetLength_x2 xX_reader xX_solver xX_prover xX_values xX_clauses xX_nets) → va_S A s.heap H locs → lv_has ls 3 [(2, .int l2_x2), (0, .ref (hX 0)), (1, .ref qS)] → W p l e _ s m _ below meth c H locs (nX_sheet_x2 / 32 - (nX_sheet / 32)) (2 * nX_sheet_x2 - (2 * nX_sheet)) _ (F0 m 2 ls [])) => loop (1001) fX_sheet dX_sheet nX_sheet iX_sheetLength 0 _ _ _ b_fX_sheet (by first | exact b_nX_sheet | with_reducible assumption | exact ⟨by omega, by omega⟩ | assumption) (b_iX_sheetLength) (show 0 ≤ (0 : Int32).toInt ∧ (0 : Int32).toInt ≤ 1000 from by decide) (by first | with_reducible assumption | omega | (rw [iI_t (by omega) (by omega)]; omega) | (have h7 : (0 : Int32).toInt = 0 := (by decide); omega)) (show iX_sheetLength.toInt ≤ iX_sheetLength.toInt from by omega) (show nX_sheet ≤ nX_sheet from by omega) ((by have e9 : (0 : Int32).toInt = 0 := (by decide : (0 : Int32).toInt = 0); omega)) hP hD hS hl) ?_
  intro n9
  induction n9 with
  | zero => intro fX_sheet_x2 dX_sheet_x2 nX_sheet_x2 iX_sheetLength_x2 l2_x2 H locs ls b_fX_sheet_x2 b_nX_sheet_x2 b_iX_sheetLength_x2 b_l2_x2 b_shl_x2 hsl_ hgm0_x2 hf9; exact False.elim (by omega)
  | succ n9 ihx2 =>
    intro fX_sheet_x2 dX_sheet_x2 nX_sheet_x2 iX_sheetLength_x2 l2_x2 H locs ls b_fX_sheet_x2 b_nX_sheet_x2 b_iX_sheetLength_x2 b_l2_x2 b_shl_x2 hsl_ hgm0_x2 hfx2 hP hD hS hl
    refine lv_iload_n hx hb dX11_putText_2 rfl (lv_at hl 0 rfl) ?_
    refine lv_aload_n hx hb dX11_putText_3 rfl (lv_at hl 2 rfl) ?_
    have hFc := noneFree hS hA
    refine va_calli (va_runV (As := []) (rest := [.int l2_x2]) ⟨hx, hb, hml, hown, hts⟩ (m_J0_length_8abf5 l dC dI qS nn fB (by first | with_reducible assumption | omega | (rw [iI_t (by omega) (by omega)]; omega) | decide | assumption) H.size) (cwV 0 hts gwsMX11_putText_0 rfl rfl rfl (by decide +kernel) ⟨by first | decide +kernel | (dsimp only [headSpec] <;> omega), by first | decide +kernel | (dsimp only [headSpec] <;> omega)⟩) ⟨fun a U g mk q => by obtain ⟨q0, q1, qP, qK, qD, qE⟩ := q; exact ⟨q0, q1, qP, va_K.moved (u := U) (U := U.calling g mk a) (Vm.Alike.refl U.vm) qK, qD, qE.same rfl⟩, hE.recv hS, fun U hU9 hW => ⟨rfl, by rw [hU9], by rw [hU9]; exact nilP, va_K.moved hW.alike (hK.sub (tys' := []) [] rfl), nilD, by rw [hU9]; exact (((hE : (StrE qS nn fB) A s s.heap).kept hS.2.1).narrow (fun q h => hFc q h)).warm hW⟩⟩ rfl rfl hl.1 rfl (lv_room (Nat.le_of_ble_eq_true rfl)) dX11_putText_4 ⟨by first | decide +kernel | (dsimp only [headSpec] <;> omega), by first | decide +kernel | (dsimp only [headSpec] <;> omega)⟩) hS (fun q _ h => hFc q h) hFc (fun r15 u t9_ H1 locs ht hvm hw9 hB9 hz1 hk1 hS => ?_)
    have f15_0 := hw9
    try dsimp only at f15_0
    clear hB9
    have hP := keepAll hP hk1
    generalize H1 = H at hP hS ⊢
    have hP : va_P (dC, dI) vwCl (WX hX aX kX hT hM fX_ready fX_sheet_x2 dX_sheet_x2 nX_sheet_x2 iX_sheetLength_x2 xX_reader xX_solver xX_prover xX_values xX_clauses xX_nets) H := hP
    have hD : va_D A (WX hX aX kX hT hM fX_ready fX_sheet_x2 dX_sheet_x2 nX_sheet_x2 iX_sheetLength_x2 xX_reader xX_solver xX_prover xX_values xX_clauses xX_nets) := hD
    have hlen : r15.toInt = ((nn : Nat) : Int) := f15_0
    refine lv_icmp_ge (tgt := 25) hx hb dX11_putText_7 (by decide) (fun c_7 => ?_) (fun c_7 => ?_)
    · have t_7 : l2_x2.toInt ≥ r15.toInt := toI_ge c_7 rfl rfl
      refine W.known (fun hz9 hn9 => ?_)
      refine W.widen (k := 3751) (n := 300000) (by omega) (by omega) ?_
      exact W.vret hx hb hr (fun t9_ ht hW => ⟨⟨(fX_sheet_x2, dX_sheet_x2, nX_sheet_x2, iX_sheetLength_x2), rfl, ⟨b_fX_sheet_x2, (by (try dsimp only); exact (by first | exact b_nX_sheet_x2 | with_reducible assumption | exact ⟨by omega, by omega⟩ | assumption)), b_iX_sheetLength_x2, (by (try dsimp only); exact (by first | with_reducible assumption | omega | (rw [iI_t (by omega) (by omega)]; omega) | (have h7 : (0 : Int32).toInt = 0 := (by decide); omega))), (by (try dsimp only); omega), (by (try dsimp only); first | omega | (rw [iI_t (by omega) (by omega)]; omega))⟩, by rw [ht]; exact hP, hD, by rw [ht]; (try dsimp only); omega, by rw [ht]; (try dsimp only); omega⟩, hS.F ht⟩) hS.2.2 dX11_putText_25
    · have t_7 : ¬ l2_x2.toInt ≥ r15.toInt := toI_nge c_7 rfl rfl
      refine lv_aload_n hx hb dX11_putText_10 rfl (lv_at hl 1 rfl) ?_
      refine lv_aload_n hx hb dX11_putText_11 rfl (lv_at hl 2 rfl) ?_
      refine lv_iload_n hx hb dX11_putText_12 rfl (lv_at hl 0 rfl) ?_
      refine lv_topi (fun y19 hy19 => ?_)
      obtain rfl : (nI l2_x2.toInt.toNat) = y19 := (hy19.trans (toN rfl (by omega))).symm
      have hFc := noneFree hS hA
      refine va_calli (va_runV (As := [.int (nI l2_x2.toInt.toNat)]) (rest := [.ref (hX 0)]) ⟨hx, hb, hml, hown, hts⟩ (r_J0_charAt_5068e l dC dI qS fB l2_x2.toInt.toNat nn (by omega) (by omega) H.size) (cwV 1 hts gwsMX11_putText_1 rfl rfl rfl (by decide +kernel) ⟨by first | decide +kernel | (dsimp only [headSpec] <;> omega), by first | decide +kernel | (dsimp only [headSpec] <;> omega)⟩) ⟨fun a U g mk q => by obtain ⟨q0, q1, qP, qK, qD, qE⟩ := q; exact ⟨q0, q1, qP, va_K.moved (u := U) (U := U.calling g mk a) (Vm.Alike.refl U.vm) qK, qD, qE.same rfl⟩, hE.recv hS, fun U hU9 hW => ⟨rfl, by rw [hU9], by rw [hU9]; exact nilP, va_K.moved hW.alike (hK.sub (tys' := []) [] rfl), nilD, by rw [hU9]; exact (((hE : (StrE qS nn fB) A s s.heap).kept hS.2.1).narrow (fun q h => hFc q h)).warm hW⟩⟩ rfl rfl hl.1 rfl (lv_room (Nat.le_of_ble_eq_true rfl)) dX11_putText_13 ⟨by first | decide +kernel | (dsimp only [headSpec] <;> omega), by first | decide +kernel | (dsimp only [headSpec] <;> omega)⟩) hS (fun q _ h => hFc q h) hFc (fun r20 u t9_ H1 locs ht hvm hw9 hB9 hz1 hk1 hS => ?_)
      revert hw9
      refine fz_a2 ?_
      intro f20_0 f20_1
      clear hB9
      have hP := keepAll hP hk1
      generalize H1 = H at hP hS ⊢
      have hP : va_P (dC, dI) vwCl (WX hX aX kX hT hM fX_ready fX_sheet_x2 dX_sheet_x2 nX_sheet_x2 iX_sheetLength_x2 xX_reader xX_solver xX_prover xX_values xX_clauses xX_nets) H := hP
      have hD : va_D A (WX hX aX kX hT hM fX_ready fX_sheet_x2 dX_sheet_x2 nX_sheet_x2 iX_sheetLength_x2 xX_reader xX_solver xX_prover xX_values xX_clauses xX_nets) := hD
      refine W.known (fun hz0 hn0 => ?_)
      have hS0 := hS.1
      have hFc := allFree hD hS hA
      refine va_callv (va_runV (As := [.int r20]) (rest := []) ⟨hx, hb, hml, hown, hts⟩ (Met.sV (m_X11_put l dC dI hX aX kX hT hM fX_ready fX_sheet_x2 dX_sheet_x2 nX_sheet_x2 iX_sheetLength_x2 xX_reader xX_solver xX_prover xX_values xX_clauses xX_nets r20 b_fX_sheet_x2 (by first | exact b_nX_sheet_x2 | with_reducible assumption | exact ⟨by omega, by omega⟩ | assumption) (b_iX_sheetLength_x2) (by first | with_reducible assumption | omega | (rw [iI_t (by omega) (by omega)]; omega) | (have h7 : (0 : Int32).toInt = 0 := (by decide); omega)) H.size) H) (cwV 1 hts gwsMX11_putText_2 rfl rfl rfl (by decide +kernel) ⟨by first | decide +kernel | (dsimp only [headSpec] <;> omega), by first | decide +kernel | (dsimp only [headSpec] <;> omega)⟩) ⟨fun a U g mk q => by obtain ⟨q0, qh, q1, qP, qK, qD⟩ := q; exact ⟨q0, qh, q1, qP, va_K.moved (u := U) (U := U.calling g mk a) (Vm.Alike.refl U.vm) qK, qD⟩, va_recv hK hP (ci := 11) (q0 := 0) rfl rfl, fun U hU9 hW => ⟨rfl, hU9, by rw [hU9], by rw [hU9]; exact hP, va_K.moved hW.alike hK, hD.weaken (fun _ _ _ _ => trivial)⟩⟩ rfl rfl hl.1 rfl (lv_room (Nat.le_of_ble_eq_true rfl)) dX11_putText_16 ⟨by first | decide +kernel | (dsimp only [headSpec] <;> omega), by first | decide +kernel | (dsimp only [headSpec] <;> omega)⟩) hS (fun q _ h => hFc q h) hFc (fun u t9_ H1 locs ht hvm hw9 hB9 hz1 hk1 hS => ?_)
      revert u hw9 hB9
      refine fz_p4 ?_
      intro fX_sheet_21 dX_sheet_21 nX_sheet_21 iX_sheetLength_21 hw9 hB9
      try dsimp only at hw9 hB9
      revert hw9
      refine fz_a6 ?_
      intro b_fX_sheet_21 b_nX_sheet_21 b_iX_sheetLength_21 b_shl_21 f21_0 f21_1
      obtain ⟨⟨hP1, hD1, hg1, hg2⟩, hSz⟩ := hB9
      rw [ht] at hP1 hSz hg1 hg2
      have hP := hP1
      have hD := hD1.weaken (fun _ q _ h => hFc q.1 h)
      have hz9 : H1.size ≤ s.heap.size + (nX_sheet_21 / 32 - (nX_sheet / 32)) := by (try dsimp only at hg1); omega
      have hn9 : nS s.heap.size H1 ≤ (2 * nX_sheet_21 - (2 * nX_sheet)) := by rw [hSz.n hS0]; (try dsimp only at hg2); omega
      refine W.tight (cells2 := (nX_sheet_21 / 32 - (nX_sheet / 32))) (slots2 := (2 * nX_sheet_21 - (2 * nX_sheet))) hz9 hn9 ?_
      clear hz9 hn9 hz0 hn0 hS0 hSz hg1 hg2
      generalize H1 = H at hP hS ⊢
      have hP : va_P (dC, dI) vwCl (WX hX aX kX hT hM fX_ready fX_sheet_21 dX_sheet_21 nX_sheet_21 iX_sheetLength_21 xX_reader xX_solver xX_prover xX_values xX_clauses xX_nets) H := hP
      have hD : va_D A (WX hX aX kX hT hM fX_ready fX_sheet_21 dX_sheet_21 nX_sheet_21 iX_sheetLength_21 xX_reader xX_solver xX_prover xX_values xX_clauses xX_nets) := hD
      refine lv_iinc (v := (iI (l2_x2.toInt + 1))) hx hb dX11_putText_19 hl (k := 0) rfl (iI_add2 (iI_of _) (by decide : (1 : Int32) = iI 1)) (by decide) rfl (fun ls (hl : lv_has ls _ ([(2, .int (iI (l2_x2.toInt + 1))), (0, .ref (hX 0)), (1, .ref qS)])) => ?_)
      refine lv_goto (tgt := 2) hx hb dX11_putText_22 (by decide) ?_
      have hl : lv_has _ _ ([(2, .int (iI (l2_x2.toInt + 1))), (0, .ref (hX 0)), (1, .ref qS)]) := lv_sub hl [0, 1, 2] rfl
      exact ihx2 fX_sheet_21 dX_sheet_21 nX_sheet_21 iX_sheetLength_21 (iI (l2_x2.toInt + 1)) _ _ _ b_fX_sheet_21 (by first | exact b_nX_sheet_21 | with_reducible assumption | exact ⟨by omega, by omega⟩ | assumption) (b_iX_sheetLength_21) (iI_rng (Int.le_trans (by decide) (Int.add_le_add (b_l2_x2.1) (Int.le_refl _))) (by omega) (by decide) (by decide)) (by first | with_reducible assumption | omega | (rw [iI_t (by omega) (by omega)]; omega) | (have h7 : (0 : Int32).toInt = 0 := (by decide); omega)) (show iX_sheetLength.toInt ≤ iX_sheetLength_21.toInt from by omega) (show nX_sheet ≤ nX_sheet_21 from by omega) (by have e9 : ((iI (l2_x2.toInt + 1))).toInt = (l2_x2.toInt + 1) := (iI_t (Int.le_trans (by decide) (Int.add_le_add (b_l2_x2.1) (Int.le_refl _))) (Int.le_trans (Int.add_le_add (b_l2_x2.2) (Int.le_refl _)) (by decide))); omega) hP hD hS hl
theorem dX11_putNumber_0 : decode cX11_putNumber 0 = .ok (.iload_n 1, 1) := dk_27 (by decide +kernel)
theorem dX11_putNumber_1 : decode cX11_putNumber 1 = .ok (.ifCond .ge 9, 3) := dk_156 (by decide +kernel)
theorem dX11_putNumber_4 : decode cX11_putNumber 4 = .ok (.aload_n 0, 1) := dk_42 (by decide +kernel)
theorem dX11_putNumber_5 : decode cX11_putNumber 5 = .ok (.bipush 45, 2) := dk_16 (by decide +kernel)
theorem dX11_putNumber_7 : decode cX11_putNumber 7 = .ok (.invokevirtual 242, 3) := dk_182 (by decide +kernel)
theorem dX11_putNumber_10 : decode cX11_putNumber 10 = .ok (.aload_n 0, 1) := dk_42 (by decide +kernel)
theorem dX11_putNumber_11 : decode cX11_putNumber 11 = .ok (.getfield 138, 3) := dk_180 (by decide +kernel)
theorem dX11_putNumber_14 : decode cX11_putNumber 14 = .ok (.istore_n 2, 1) := dk_61 (by decide +kernel)
theorem dX11_putNumber_15 : decode cX11_putNumber 15 = .ok (.iload_n 1, 1) := dk_27 (by decide +kernel)
theorem dX11_putNumber_16 : decode cX11_putNumber 16 = .ok (.ifCond .ge 8, 3) := dk_156 (by decide +kernel)
theorem dX11_putNumber_19 : decode cX11_putNumber 19 = .ok (.iload_n 1, 1) := dk_27 (by decide +kernel)
theorem dX11_putNumber_20 : decode cX11_putNumber 20 = .ok (.ineg, 1) := dk_116 (by decide +kernel)
theorem dX11_putNumber_21 : decode cX11_putNumber 21 = .ok (.goto 4, 3) := dk_167 (by decide +kernel)
theorem dX11_putNumber_24 : decode cX11_putNumber 24 = .ok (.iload_n 1, 1) := dk_27 (by decide +kernel)
theorem dX11_putNumber_25 : decode cX11_putNumber 25 = .ok (.istore_n 3, 1) := dk_62 (by decide +kernel)
theorem dX11_putNumber_26 : decode cX11_putNumber 26 = .ok (.iconst 0, 1) := dk_3 (by decide +kernel)
theorem dX11_putNumber_27 : decode cX11_putNumber 27 = .ok (.istore 4, 2) := dk_54 (by decide +kernel)
theorem dX11_putNumber_29 : decode cX11_putNumber 29 = .ok (.iload 4, 2) := dk_21 (by decide +kernel)
theorem dX11_putNumber_31 : decode cX11_putNumber 31 = .ok (.bipush 10, 2) := dk_16 (by decide +kernel)
theorem dX11_putNumber_33 : decode cX11_putNumber 33 = .ok (.if_icmp .ge 34, 3) := dk_162 (by decide +kernel)
theorem dX11_putNumber_36 : decode cX11_putNumber 36 = .ok (.iload 4, 2) := dk_21 (by decide +kernel)
theorem dX11_putNumber_38 : decode cX11_putNumber 38 = .ok (.ifCond .eq 7, 3) := dk_153 (by decide +kernel)
theorem dX11_putNumber_41 : decode cX11_putNumber 41 = .ok (.iload_n 3, 1) := dk_29 (by decide +kernel)
theorem dX11_putNumber_42 : decode cX11_putNumber 42 = .ok (.ifCond .eq 25, 3) := dk_153 (by decide +kernel)
theorem dX11_putNumber_45 : decode cX11_putNumber 45 = .ok (.aload_n 0, 1) := dk_42 (by decide +kernel)
theorem dX11_putNumber_46 : decode cX11_putNumber 46 = .ok (.bipush 48, 2) := dk_16 (by decide +kernel)
theorem dX11_putNumber_48 : decode cX11_putNumber 48 = .ok (.iload_n 3, 1) := dk_29 (by decide +kernel)
theorem dX11_putNumber_49 : decode cX11_putNumber 49 = .ok (.bipush 10, 2) := dk_16 (by decide +kernel)
theorem dX11_putNumber_51 : decode cX11_putNumber 51 = .ok (.irem, 1) := dk_112 (by decide +kernel)
theorem dX11_putNumber_52 : decode cX11_putNumber 52 = .ok (.iadd, 1) := dk_96 (by decide +kernel)
theorem dX11_putNumber_53 : decode cX11_putNumber 53 = .ok (.invokevirtual 242, 3) := dk_182 (by decide +kernel)
theorem dX11_putNumber_56 : decode cX11_putNumber 56 = .ok (.iload_n 3, 1) := dk_29 (by decide +kernel)
theorem dX11_putNumber_57 : decode cX11_putNumber 57 = .ok (.bipush 10, 2) := dk_16 (by decide +kernel)
theorem dX11_putNumber_59 : decode cX11_putNumber 59 = .ok (.idiv, 1) := dk_108 (by decide +kernel)
theorem dX11_putNumber_60 : decode cX11_putNumber 60 = .ok (.istore_n 3, 1) := dk_62 (by decide +kernel)
theorem dX11_putNumber_61 : decode cX11_putNumber 61 = .ok (.iinc 4 1, 3) := dk_132 (by decide +kernel)
theorem dX11_putNumber_64 : decode cX11_putNumber 64 = .ok (.goto (-35), 3) := dk_167 (by decide +kernel)
theorem dX11_putNumber_67 : decode cX11_putNumber 67 = .ok (.aload_n 0, 1) := dk_42 (by decide +kernel)
theorem dX11_putNumber_68 : decode cX11_putNumber 68 = .ok (.iload_n 2, 1) := dk_28 (by decide +kernel)
theorem dX11_putNumber_69 : decode cX11_putNumber 69 = .ok (.invokevirtual 245, 3) := dk_182 (by decide +kernel)
theorem dX11_putNumber_72 : decode cX11_putNumber 72 = .ok (.return_, 1) := dk_177 (by decide +kernel)
def wsMX11_putNumber : List Cond := .code yX11_putNumber cX11_putNumber 5 none :: ([.fieldLink RX11 138 "OptimaWorks" "sheetLength" "I"] ++ wsX110 ++ (wsV RX11 242 RX11 yX11_put wsMX11_put) ++ (wsV RX11 245 RX11 yX11_turnRound wsMX11_turnRound))
theorem iwsMX11_putNumber_in11 : ∀ w ∈ wsX110, w ∈ wsMX11_putNumber := fun _ h => List.mem_cons_of_mem _ (List.mem_append_left _ (List.mem_append_left _ (List.mem_append_right _ h)))
theorem gwsMX11_putNumber_0 : GoodIn wsMX11_putNumber (wsV RX11 242 RX11 yX11_put wsMX11_put) := goodIn_sub (fun _ h => List.mem_cons_of_mem _ (List.mem_append_left _ (List.mem_append_right _ h))) (gdV (by decide +kernel) gdwsMX11_put)
theorem gwsMX11_putNumber_1 : GoodIn wsMX11_putNumber (wsV RX11 245 RX11 yX11_turnRound wsMX11_turnRound) := goodIn_sub (fun _ h => List.mem_cons_of_mem _ (List.mem_append_right _ h)) (gdV (by decide +kernel) gdwsMX11_turnRound)
theorem gdwsMX11_putNumber : wsMX11_putNumber.all goodWord = true := gdC rfl (gdA (gdA (gdA (by decide +kernel : ([.fieldLink RX11 138 "OptimaWorks" "sheetLength" "I"] : List Cond).all goodWord = true) gdwsX110) (gdV (by decide +kernel) gdwsMX11_put)) (gdV (by decide +kernel) gdwsMX11_turnRound))
set_option maxHeartbeats 4000000 in
set_option maxRecDepth 100000 in
/-- a number more -/
theorem m_X11_putNumber (l : Launch) (dC : Nat → ClassId) (dI : Nat → Nat → Nat) (hX : Nat → Nat) (aX : Nat → Nat) (kX : Nat → ClassId) (hT : Nat → Nat) (hM : Nat → Nat) (fX_ready : Nat → Int32) (fX_sheet : Nat → Int32) (dX_sheet : Nat) (nX_sheet : Nat) (iX_sheetLength : Int32) (xX_reader : Value) (xX_solver : Value) (xX_prover : Value) (xX_values : Value) (xX_clauses : Value) (xX_nets : Value) (p1 : Int32) (b_fX_sheet : ∀ q : Nat, (-128) ≤ (fX_sheet q).toInt ∧ (fX_sheet q).toInt ≤ 127) (b_nX_sheet : 64 ≤ nX_sheet ∧ nX_sheet ≤ 60000) (b_iX_sheetLength : 0 ≤ iX_sheetLength.toInt ∧ iX_sheetLength.toInt ≤ 30000) (b_shl : iX_sheetLength.toInt ≤ ((nX_sheet : Nat) : Int)) (sz : Nat) : Met l yX11_putNumber wsMX11_putNumber ({ frames := 3, cells := 3751, slots := 300000, locals := 61 }) (va_Pc [.ref (hX 0), .int p1] (fun U => U.heap.size = sz ∧ va_P (dC, dI) vwCl (WX hX aX kX hT hM fX_ready fX_sheet dX_sheet nX_sheet iX_sheetLength xX_reader xX_solver xX_prover xX_values xX_clauses xX_nets) U.heap ∧ va_K (dC, dI) vwCl (tX kX) U ∧ va_D (fun _ => True) (WX hX aX kX hT hM fX_ready fX_sheet dX_sheet nX_sheet iX_sheetLength xX_reader xX_solver xX_prover xX_values xX_clauses xX_nets))) (va_Qv (fun (u : (Nat → Int32) × (Nat) × (Nat) × (Int32)) => (∀ q : Nat, (-128) ≤ ((u.1) q).toInt ∧ ((u.1) q).toInt ≤ 127) ∧ (64 ≤ (u.2.2.1) ∧ (u.2.2.1) ≤ 60000) ∧ (0 ≤ (u.2.2.2).toInt ∧ (u.2.2.2).toInt ≤ 30000) ∧ ((u.2.2.2).toInt ≤ (((u.2.2.1) : Nat) : Int)) ∧ (nX_sheet ≤ (u.2.2.1)) ∧ (iX_sheetLength.toInt ≤ (u.2.2.2).toInt)) (fun (u : (Nat → Int32) × (Nat) × (Nat) × (Int32)) t => va_P (dC, dI) vwCl (WX hX aX kX hT hM fX_ready (u.1) (u.2.1) (u.2.2.1) (u.2.2.2) xX_reader xX_solver xX_prover xX_values xX_clauses xX_nets) t.heap ∧ va_D (va_A (WX hX aX kX hT hM fX_ready fX_sheet dX_sheet nX_sheet iX_sheetLength xX_reader xX_solver xX_prover xX_values xX_clauses xX_nets) sz) (WX hX aX kX hT hM fX_ready (u.1) (u.2.1) (u.2.2.1) (u.2.2.2) xX_reader xX_solver xX_prover xX_values xX_clauses xX_nets) ∧ t.heap.size + (nX_sheet / 32) ≤ sz + ((u.2.2.1) / 32) ∧ nS sz t.heap + (2 * nX_sheet) ≤ (2 * (u.2.2.1))) (va_A (WX hX aX kX hT hM fX_ready fX_sheet dX_sheet nX_sheet iX_sheetLength xX_reader xX_solver xX_prover xX_values xX_clauses xX_nets) sz)) 3751 300000 (va_A (WX hX aX kX hT hM fX_ready fX_sheet dX_sheet nX_sheet iX_sheetLength xX_reader xX_solver xX_prover xX_values xX_clauses xX_nets) sz) := by
  refine Met.ofW (cc := cX11_putNumber) (maxL := 5) (ret := none) (by decide) rfl ?_
  intro p e s m args below meth c s₁ B hml hv
  obtain ⟨rfl, hsz, hP, hK, hD0⟩ := hv
  have hx := B.exec
  have hb := B.bytes
  have hr := B.returns
  have hts := atoms_spec (ws := wsMX11_putNumber) B.pre
  have hown : s.vm.findClass RX11 = some m.cls := findClass_of_methodNamed B.named
  have hlocks := B.notSynchronized
  subst hsz
  have hD := hD0.self (sz := s.heap.size)
  generalize hAe : va_A (WX hX aX kX hT hM fX_ready fX_sheet dX_sheet nX_sheet iX_sheetLength xX_reader xX_solver xX_prover xX_values xX_clauses xX_nets) s.heap.size = A at hD ⊢
  have hA : ∀ q : Nat, s.heap.size ≤ q → A q := fun q h => by rw [← hAe]; exact Or.inr h
  have hS : va_S A s.heap s.heap [] := va_S.rf
  have hl := lv_entry ([.ref (hX 0), .int p1]) (n := 5) (Nat.le_of_ble_eq_true rfl)
  rw [lg_entry_eq]
  generalize (lg_sl ([.ref (hX 0), .int p1]) ++ List.replicate (5 - (lg_sl ([.ref (hX 0), .int p1])).length) Slot.unset).toArray = ls at hl ⊢
  have hl : lv_has ls 5 [(0, .ref (hX 0)), (1, .int p1)] := hl
  refine W.widen (k := (nX_sheet / 32 - (nX_sheet / 32))) (n := (2 * nX_sheet - (2 * nX_sheet))) (Nat.zero_le _) (Nat.zero_le _) ?_
  refine lv_iload_n hx hb dX11_putNumber_0 rfl (lv_at hl 1 rfl) ?_
  refine W.known (fun hzk hnk => ?_)
  refine W.widen (k := 1875) (n := 120000) (by omega) (by omega) ?_
  refine W.cut (pc := 10) (fun H locs ls stk => ∃ (fX_sheet_j5 : Nat → Int32) (dX_sheet_j5 : Nat) (nX_sheet_j5 : Nat) (iX_sheetLength_j5 : Int32), (∀ q : Nat, (-128) ≤ (fX_sheet_j5 q).toInt ∧ (fX_sheet_j5 q).toInt ≤ 127) ∧ (64 ≤ nX_sheet_j5 ∧ nX_sheet_j5 ≤ 60000) ∧ (0 ≤ iX_sheetLength_j5.toInt ∧ iX_sheetLength_j5.toInt ≤ 30000) ∧ (iX_sheetLength_j5.toInt ≤ ((nX_sheet_j5 : Nat) : Int)) ∧ (iX_sheetLength.toInt ≤ iX_sheetLength_j5.toInt) ∧ (nX_sheet ≤ nX_sheet_j5) ∧ (H.size + (nX_sheet / 32) ≤ s.heap.size + (nX_sheet_j5 / 32) ∧ nS s.heap.size H + (2 * nX_sheet) ≤ (2 * nX_sheet_j5)) ∧  stk = [] ∧ va_P (dC, dI) vwCl (WX hX aX kX hT hM fX_ready fX_sheet_j5 dX_sheet_j5 nX_sheet_j5 iX_sheetLength_j5 xX_reader xX_solver xX_prover xX_values xX_clauses xX_nets) H ∧ va_D A (WX hX aX kX hT hM fX_ready fX_sheet_j5 dX_sheet_j5 nX_sheet_j5 iX_sheetLength_j5 xX_reader xX_solver xX_prover xX_values xX_clauses xX_nets) ∧ va_S A s.heap H locs ∧ lv_has ls 5 [(0, .ref (hX 0)), (1, .int p1)]) (fun join5 => ?_) ?_
  · refine W.tight (cells2 := (nX_sheet / 32 - (nX_sheet / 32))) (slots2 := (2 * nX_sheet - (2 * nX_sheet))) hzk hnk ?_
    refine lv_if_ge (tgt := 10) hx hb dX11_putNumber_1 (by decide) (fun c_1 => ?_) (fun c_1 => ?_)
    · have t_1 : p1.toInt ≥ 0 := toI_ge c_1 rfl (by decide : (0 : Int32).toInt = 0)
      have hl : lv_has _ _ ([(0, .ref (hX 0)), (1, .int p1)]) := lv_sub hl [0, 1] rfl
      refine W.known (fun hza hna => ?_)
      refine W.widen (k := 1875) (n := 120000) (by omega) (by omega) ?_
      exact join5 _ _ _ _ ⟨fX_sheet, dX_sheet, nX_sheet, iX_sheetLength, b_fX_sheet, (by first | exact b_nX_sheet | with_reducible assumption | exact ⟨by omega, by omega⟩ | assumption), (b_iX_sheetLength), (by first | with_reducible assumption | omega | (rw [iI_t (by omega) (by omega)]; omega) | (have h7 : (0 : Int32).toInt = 0 := (by decide); omega)), (show iX_sheetLength.toInt ≤ iX_sheetLength.toInt from by omega), (show nX_sheet ≤ nX_sheet from by omega), ⟨by omega, by omega⟩, rfl, hP, hD, hS, hl⟩
    · have t_1 : ¬ p1.toInt ≥ 0 := toI_nge c_1 rfl (by decide : (0 : Int32).toInt = 0)
      refine lv_aload_n hx hb dX11_putNumber_4 rfl (lv_at hl 0 rfl) ?_
      refine lv_bipush (v := 45) hx hb dX11_putNumber_5 (by decide) ?_
      refine W.known (fun hz0 hn0 => ?_)
      have hS0 := hS.1
      have hFc := allFree hD hS hA
      refine va_callv (va_runV (As := [.int 45]) (rest := []) ⟨hx, hb, hml, hown, hts⟩ (Met.sV (m_X11_put l dC dI hX aX kX hT hM fX_ready fX_sheet dX_sheet nX_sheet iX_sheetLength xX_reader xX_solver xX_prover xX_values xX_clauses xX_nets 45 b_fX_sheet (by first | exact b_nX_sheet | with_reducible assumption | exact ⟨by omega, by omega⟩ | assumption) (b_iX_sheetLength) (by first | with_reducible assumption | omega | (rw [iI_t (by omega) (by omega)]; omega) | (have h7 : (0 : Int32).toInt = 0 := (by decide); omega)) s.heap.size) s.heap) (cwV 1 hts gwsMX11_putNumber_0 rfl rfl rfl (by decide +kernel) ⟨by first | decide +kernel | (dsimp only [headSpec] <;> omega), by first | decide +kernel | (dsimp only [headSpec] <;> omega)⟩) ⟨fun a U g mk q => by obtain ⟨q0, qh, q1, qP, qK, qD⟩ := q; exact ⟨q0, qh, q1, qP, va_K.moved (u := U) (U := U.calling g mk a) (Vm.Alike.refl U.vm) qK, qD⟩, va_recv hK hP (ci := 11) (q0 := 0) rfl rfl, fun U hU9 hW => ⟨rfl, hU9, by rw [hU9], by rw [hU9]; exact hP, va_K.moved hW.alike hK, hD.weaken (fun _ _ _ _ => trivial)⟩⟩ rfl rfl hl.1 rfl (lv_room (Nat.le_of_ble_eq_true rfl)) dX11_putNumber_7 ⟨by first | decide +kernel | (dsimp only [headSpec] <;> omega), by first | decide +kernel | (dsimp only [headSpec] <;> omega)⟩) hS (fun q _ h => hFc q h) hFc (fun u t9_ H1 locs ht hvm hw9 hB9 hz1 hk1 hS => ?_)
      revert u hw9 hB9
      refine fz_p4 ?_
      intro fX_sheet_2 dX_sheet_2 nX_sheet_2 iX_sheetLength_2 hw9 hB9
      try dsimp only at hw9 hB9
      revert hw9
      refine fz_a6 ?_
      intro b_fX_sheet_2 b_nX_sheet_2 b_iX_sheetLength_2 b_shl_2 f2_0 f2_1
      obtain ⟨⟨hP1, hD1, hg1, hg2⟩, hSz⟩ := hB9
      rw [ht] at hP1 hSz hg1 hg2
      have hP := hP1
      have hD := hD1.weaken (fun _ q _ h => hFc q.1 h)
      have hz9 : H1.size ≤ s.heap.size + (nX_sheet_2 / 32 - (nX_sheet / 32)) := by (try dsimp only at hg1); omega
      have hn9 : nS s.heap.size H1 ≤ (2 * nX_sheet_2 - (2 * nX_sheet)) := by rw [hSz.n hS0]; (try dsimp only at hg2); omega
      refine W.tight (cells2 := (nX_sheet_2 / 32 - (nX_sheet / 32))) (slots2 := (2 * nX_sheet_2 - (2 * nX_sheet))) hz9 hn9 ?_
      clear hz9 hn9 hz0 hn0 hS0 hSz hg1 hg2
      generalize H1 = H at hP hS ⊢
      have hP : va_P (dC, dI) vwCl (WX hX aX kX hT hM fX_ready fX_sheet_2 dX_sheet_2 nX_sheet_2 iX_sheetLength_2 xX_reader xX_solver xX_prover xX_values xX_clauses xX_nets) H := hP
      have hD : va_D A (WX hX aX kX hT hM fX_ready fX_sheet_2 dX_sheet_2 nX_sheet_2 iX_sheetLength_2 xX_reader xX_solver xX_prover xX_values xX_clauses xX_nets) := hD
      have hl : lv_has _ _ ([(0, .ref (hX 0)), (1, .int p1)]) := lv_sub hl [0, 1] rfl
      refine W.known (fun hza hna => ?_)
      refine W.widen (k := 1875) (n := 120000) (by omega) (by omega) ?_
      exact join5 _ _ _ _ ⟨fX_sheet_2, dX_sheet_2, nX_sheet_2, iX_sheetLength_2, b_fX_sheet_2, (by first | exact b_nX_sheet_2 | with_reducible assumption | exact ⟨by omega, by omega⟩ | assumption), (b_iX_sheetLength_2), (by first | with_reducible assumption | omega | (rw [iI_t (by omega) (by omega)]; omega) | (have h7 : (0 : Int32).toInt = 0 := (by decide); omega)), (show iX_sheetLength.toInt ≤ iX_sheetLength_2.toInt from by omega), (show nX_sheet ≤ nX_sheet_2 from by omega), ⟨by omega, by omega⟩, rfl, hP, hD, hS, hl⟩
  · rintro H locs ls stk ⟨fX_sheet_j5, dX_sheet_j5, nX_sheet_j5, iX_sheetLength_j5, b_fX_sheet_j5, b_nX_sheet_j5, b_iX_sheetLength_j5, b_shl_j5, hj1, hgm0_j5, ⟨hzj, hnj⟩, rfl, hP, hD, hS, hl⟩
    refine W.tight (cells2 := (nX_sheet_j5 / 32 - (nX_sheet / 32))) (slots2 := (2 * nX_sheet_j5 - (2 * nX_sheet))) (tg1 hzj hS.1) (tg2 hnj) ?_
    refine lv_aload_n hx hb dX11_putNumber_10 rfl (lv_at hl 0 rfl) ?_
    refine va_get (D := (dC, dI)) (ci := 11) (v := .int iX_sheetLength_j5) (C := RX11) (T := TX11) (N := 11) hx hb hts iwsMX11_putNumber_in11 hown hK hP 0 rfl rfl 4 (by decide) (hts (.fieldLink RX11 138 "OptimaWorks" "sheetLength" "I") (by decide +kernel)) (fun _ h9 => h9) rfl dX11_putNumber_11 ?_
    refine lv_istore_n hx hb dX11_putNumber_14 rfl hl (by decide) rfl (fun ls (hl : lv_has ls _ ([(2, .int iX_sheetLength_j5), (0, .ref (hX 0)), (1, .int p1)])) => ?_)
    refine lv_iload_n hx hb dX11_putNumber_15 rfl (lv_at hl 2 rfl) ?_
    refine W.known (fun hzk hnk => ?_)
    refine W.widen (k := 1875) (n := 120000) (by omega) (by omega) ?_
    refine W.cut (pc := 25) (fun H locs ls stk => ∃ (k0_j6 : Int32), (H.size + (nX_sheet / 32) ≤ s.heap.size + (nX_sheet_j5 / 32) ∧ nS s.heap.size H + (2 * nX_sheet) ≤ (2 * nX_sheet_j5)) ∧  stk = [.int k0_j6] ∧ va_P (dC, dI) vwCl (WX hX aX kX hT hM fX_ready fX_sheet_j5 dX_sheet_j5 nX_sheet_j5 iX_sheetLength_j5 xX_reader xX_solver xX_prover xX_values xX_clauses xX_nets) H ∧ va_D A (WX hX aX kX hT hM fX_ready fX_sheet_j5 dX_sheet_j5 nX_sheet_j5 iX_sheetLength_j5 xX_reader xX_solver xX_prover xX_values xX_clauses xX_nets) ∧ va_S A s.heap H locs ∧ lv_has ls 5 [(2, .int iX_sheetLength_j5), (0, .ref (hX 0)), (1, .int p1)]) (fun join6 => ?_) ?_
    · refine W.tight (cells2 := (nX_sheet_j5 / 32 - (nX_sheet / 32))) (slots2 := (2 * nX_sheet_j5 - (2 * nX_sheet))) hzk hnk ?_
      refine lv_if_ge (tgt := 24) hx hb dX11_putNumber_16 (by decide) (fun c_16 => ?_) (fun c_16 => ?_)
      · have t_16 : p1.toInt ≥ 0 := toI_ge c_16 rfl (by decide : (0 : Int32).toInt = 0)
        refine lv_iload_n hx hb dX11_putNumber_24 rfl (lv_at hl 2 rfl) ?_
        have hl : lv_has _ _ ([(2, .int iX_sheetLength_j5), (0, .ref (hX 0)), (1, .int p1)]) := lv_sub hl [0, 1, 2] rfl
        refine W.known (fun hza hna => ?_)
        refine W.widen (k := 1875) (n := 120000) (by omega) (by omega) ?_
        exact join6 _ _ _ _ ⟨p1, ⟨by omega, by omega⟩, rfl, hP, hD, hS, hl⟩
      · have t_16 : ¬ p1.toInt ≥ 0 := toI_nge c_16 rfl (by decide : (0 : Int32).toInt = 0)
        refine lv_iload_n hx hb dX11_putNumber_19 rfl (lv_at hl 2 rfl) ?_
        refine lv_ineg hx hb dX11_putNumber_20 ?_
        refine lv_topi (fun y4 hy4 => ?_)
        obtain rfl : (iI (-p1.toInt)) = y4 := (hy4.trans (iI_neg2 (iI_of _))).symm
        refine lv_goto (tgt := 25) hx hb dX11_putNumber_21 (by decide) ?_
        have hl : lv_has _ _ ([(2, .int iX_sheetLength_j5), (0, .ref (hX 0)), (1, .int p1)]) := lv_sub hl [0, 1, 2] rfl
        refine W.known (fun hza hna => ?_)
        refine W.widen (k := 1875) (n := 120000) (by omega) (by omega) ?_
        exact join6 _ _ _ _ ⟨(iI (-p1.toInt)), ⟨by omega, by omega⟩, rfl, hP, hD, hS, hl⟩
    · rintro H locs ls stk ⟨k0_j6, ⟨hzj, hnj⟩, rfl, hP, hD, hS, hl⟩
      refine W.tight (cells2 := (nX_sheet_j5 / 32 - (nX_sheet / 32))) (slots2 := (2 * nX_sheet_j5 - (2 * nX_sheet))) (tg1 hzj hS.1) (tg2 hnj) ?_
      refine lv_istore_n hx hb dX11_putNumber_25 rfl hl (by decide) rfl (fun ls (hl : lv_has ls _ ([(3, .int k0_j6), (2, .int iX_sheetLength_j5), (0, .ref (hX 0)), (1, .int p1)])) => ?_)
      refine lv_iconst (v := 0) hx hb dX11_putNumber_26 (by decide) ?_
      refine lv_istore hx hb dX11_putNumber_27 hl (by decide) rfl (fun ls (hl : lv_has ls _ ([(4, .int 0), (3, .int k0_j6), (2, .int iX_sheetLength_j5), (0, .ref (hX 0)), (1, .int p1)])) => ?_)
      have hl : lv_has _ _ ([(4, .int 0), (3, .int k0_j6), (2, .int iX_sheetLength_j5), (0, .ref (hX 0)), (1, .int p1)]) := lv_sub hl [0, 1, 2, 3, 4] rfl
      refine (fun (loop : ∀ (n9 : Nat) (fX_sheet_x29 : Nat → Int32) (dX_sheet_x29 : Nat) (nX_sheet_x29 : Nat) (iX_sheetLength_x29 : Int32) (l4_x29 : Int32) (l3_x29 : Int32) (H : Heap) (locs : List Loc) (ls : Array Slot), (∀ q : Nat, (-128) ≤ (fX_sheet_x29 q).toInt ∧ (fX_sheet_x29 q).toInt ≤ 127) → (64 ≤ nX_sheet_x29 ∧ nX_sheet_x29 ≤ 60000) → (0 ≤ iX_sheetLength_x29.toInt ∧ iX_sheetLength_x29.toInt ≤ 30000) → (0 ≤ l4_x29.toInt ∧ l4_x29.toInt ≤ 10) → (iX_sheetLength_x29.toInt ≤ ((nX_sheet_x29 : Nat) : Int)) → (iX_sheetLength.toInt ≤ iX_sheetLength_x29.toInt) → (iX_sheetLength_j5.toInt ≤ iX_sheetLength_x29.toInt) → (nX_sheet ≤ nX_sheet_x29) → (10 - l4_x29.toInt < ((n9 : Nat) : Int)) → va_P (dC, dI) vwCl (WX hX aX kX hT hM fX_ready fX_sheet_x29 dX_sheet_x29 nX_sheet_x29 iX_sheetLength_x29 xX_reader xX_solver xX_prover xX_values xX_clauses xX_nets) H → va_D A (WX hX aX kX hT hM fX_ready fX_sheet_x29 dX_sheet_x29 nX_sheet_x29 iX_sheetLength_x29 xX_reader xX_solver xX_prover xX_values xX_clauses xX_nets) → va_S A s.heap H locs → lv_has ls 5 [(4, .int l4_x29), (3, .int l3_x29), (2, .int iX_sheetLength_j5), (0, .ref (hX 0)), (1, .int p1)] → W p l e _ s m _ below meth c H locs (nX_sheet_x29 / 32 - (nX_sheet / 32)) (2 * nX_sheet_x29 - (2 * nX_sheet)) _ (F0 m 29 ls [])) => loop (11) fX_sheet_j5 dX_sheet_j5 nX_sheet_j5 iX_sheetLength_j5 0 k0_j6 _ _ _ b_fX_sheet_j5 (by first | exact b_nX_sheet_j5 | with_reducible assumption | exact ⟨by omega, by omega⟩ | assumption) (b_iX_sheetLength_j5) (show 0 ≤ (0 : Int32).toInt ∧ (0 : Int32).toInt ≤ 10 from by decide) (by first | with_reducible assumption | omega | (rw [iI_t (by omega) (by omega)]; omega) | (have h7 : (0 : Int32).toInt = 0 := (by decide); omega)) (show iX_sheetLength.toInt ≤ iX_sheetLength_j5.toInt from by omega) (show iX_sheetLength_j5.toInt ≤ iX_sheetLength_j5.toInt from by omega) (show nX_sheet ≤ nX_sheet_j5 from by omega) ((by have e9 : (0 : Int32).toInt = 0 := (by decide : (0 : Int32).toInt = 0); omega)) hP hD hS hl) ?_
      intro n9
      induction n9 with
      | zero => intro fX_sheet_x29 dX_sheet_x29 nX_sheet_x29 iX_sheetLength_x29 l4_x29 l3_x29 H locs ls b_fX_sheet_x29 b_nX_sheet_x29 b_iX_sheetLength_x29 b_l4_x29 b_shl_x29 hsl_ hst_ hgm0_x29 hf9; exact False.elim (by omega)
      | succ n9 ihx29 =>
        intro fX_sheet_x29 dX_sheet_x29 nX_sheet_x29 iX_sheetLength_x29 l4_x29 l3_x29 H locs ls b_fX_sheet_x29 b_nX_sheet_x29 b_iX_sheetLength_x29 b_l4_x29 b_shl_x29 hsl_ hst_ hgm0_x29 hfx29 hP hD hS hl
        refine lv_iload hx hb dX11_putNumber_29 (lv_at hl 0 rfl) ?_
        refine lv_bipush (v := 10) hx hb dX11_putNumber_31 (by decide) ?_
        refine W.known (fun hzk hnk => ?_)
        refine W.widen (k := 1875) (n := 120000) (by omega) (by omega) ?_
        refine W.cut (pc := 67) (fun H locs ls stk => (iX_sheetLength.toInt ≤ iX_sheetLength_x29.toInt) ∧ (iX_sheetLength_j5.toInt ≤ iX_sheetLength_x29.toInt) ∧ (H.size + (nX_sheet / 32) ≤ s.heap.size + (nX_sheet_x29 / 32) ∧ nS s.heap.size H + (2 * nX_sheet) ≤ (2 * nX_sheet_x29)) ∧  stk = [] ∧ va_P (dC, dI) vwCl (WX hX aX kX hT hM fX_ready fX_sheet_x29 dX_sheet_x29 nX_sheet_x29 iX_sheetLength_x29 xX_reader xX_solver xX_prover xX_values xX_clauses xX_nets) H ∧ va_D A (WX hX aX kX hT hM fX_ready fX_sheet_x29 dX_sheet_x29 nX_sheet_x29 iX_sheetLength_x29 xX_reader xX_solver xX_prover xX_values xX_clauses xX_nets) ∧ va_S A s.heap H locs ∧ lv_has ls 5 [(4, .int l4_x29), (3, .int l3_x29), (2, .int iX_sheetLength_j5), (0, .ref (hX 0)), (1, .int p1)]) (fun join8 => ?_) ?_
        · refine W.tight (cells2 := (nX_sheet_x29 / 32 - (nX_sheet / 32))) (slots2 := (2 * nX_sheet_x29 - (2 * nX_sheet))) hzk hnk ?_
          refine lv_icmp_ge (tgt := 67) hx hb dX11_putNumber_33 (by decide) (fun c_33 => ?_) (fun c_33 => ?_)
          · have t_33 : l4_x29.toInt ≥ 10 := toI_ge c_33 rfl (by decide : (10 : Int32).toInt = 10)
            have hl : lv_has _ _ ([(4, .int l4_x29), (3, .int l3_x29), (2, .int iX_sheetLength_j5), (0, .ref (hX 0)), (1, .int p1)]) := lv_sub hl [0, 1, 2, 3, 4] rfl
            refine W.known (fun hza hna => ?_)
            refine W.widen (k := 1875) (n := 120000) (by omega) (by omega) ?_
            exact join8 _ _ _ _ ⟨(show iX_sheetLength.toInt ≤ iX_sheetLength_x29.toInt from by omega), (show iX_sheetLength_j5.toInt ≤ iX_sheetLength_x29.toInt from by omega), ⟨by omega, by omega⟩, rfl, hP, hD, hS, hl⟩
          · have t_33 : ¬ l4_x29.toInt ≥ 10 := toI_nge c_33 rfl (by decide : (10 : Int32).toInt = 10)
            refine lv_iload hx hb dX11_putNumber_36 (lv_at hl 0 rfl) ?_
            refine lv_if_eq (tgt := 45) hx hb dX11_putNumber_38 (by decide) (fun c_38 => ?_) (fun c_38 => ?_)
            · have t_38 : l4_x29.toInt = 0 := toI_eq c_38 rfl (by decide : (0 : Int32).toInt = 0)
              refine lv_aload_n hx hb dX11_putNumber_45 rfl (lv_at hl 3 rfl) ?_
              refine lv_bipush (v := 48) hx hb dX11_putNumber_46 (by decide) ?_
              refine lv_iload_n hx hb dX11_putNumber_48 rfl (lv_at hl 1 rfl) ?_
              refine lv_bipush (v := 10) hx hb dX11_putNumber_49 (by decide) ?_
              refine lv_irem hx hb dX11_putNumber_51 (by decide) ?_
              refine lv_topi (fun v34 hv34 => ?_)
              clear hv34
              refine lv_iadd hx hb dX11_putNumber_52 ?_
              refine lv_topi (fun y35 hy35 => ?_)
              obtain rfl : (iI (48 + v34.toInt)) = y35 := (hy35.trans (iI_add2 (by decide : (48 : Int32) = iI 48) (iI_of _))).symm
              refine W.known (fun hz0 hn0 => ?_)
              have hS0 := hS.1
              have hFc := allFree hD hS hA
              refine va_callv (va_runV (As := [.int (iI (48 + v34.toInt))]) (rest := []) ⟨hx, hb, hml, hown, hts⟩ (Met.sV (m_X11_put l dC dI hX aX kX hT hM fX_ready fX_sheet_x29 dX_sheet_x29 nX_sheet_x29 iX_sheetLength_x29 xX_reader xX_solver xX_prover xX_values xX_clauses xX_nets (iI (48 + v34.toInt)) b_fX_sheet_x29 (by first | exact b_nX_sheet_x29 | with_reducible assumption | exact ⟨by omega, by omega⟩ | assumption) (b_iX_sheetLength_x29) (by first | with_reducible assumption | omega | (rw [iI_t (by omega) (by omega)]; omega) | (have h7 : (0 : Int32).toInt = 0 := (by decide); omega)) H.size) H) (cwV 1 hts gwsMX11_putNumber_0 rfl rfl rfl (by decide +kernel) ⟨by first | decide +kernel | (dsimp only [headSpec] <;> omega), by first | decide +kernel | (dsimp only [headSpec] <;> omega)⟩) ⟨fun a U g mk q => by obtain ⟨q0, qh, q1, qP, qK, qD⟩ := q; exact ⟨q0, qh, q1, qP, va_K.moved (u := U) (U := U.calling g mk a) (Vm.Alike.refl U.vm) qK, qD⟩, va_recv hK hP (ci := 11) (q0 := 0) rfl rfl, fun U hU9 hW => ⟨rfl, hU9, by rw [hU9], by rw [hU9]; exact hP, va_K.moved hW.alike hK, hD.weaken (fun _ _ _ _ => trivial)⟩⟩ rfl rfl hl.1 rfl (lv_room (Nat.le_of_ble_eq_true rfl)) dX11_putNumber_53 ⟨by first | decide +kernel | (dsimp only [headSpec] <;> omega), by first | decide +kernel | (dsimp only [headSpec] <;> omega)⟩) hS (fun q _ h => hFc q h) hFc (fun u t9_ H1 locs ht hvm hw9 hB9 hz1 hk1 hS => ?_)
              revert u hw9 hB9
              refine fz_p4 ?_
              intro fX_sheet_36 dX_sheet_36 nX_sheet_36 iX_sheetLength_36 hw9 hB9
              try dsimp only at hw9 hB9
              revert hw9
              refine fz_a6 ?_
              intro b_fX_sheet_36 b_nX_sheet_36 b_iX_sheetLength_36 b_shl_36 f36_0 f36_1
              obtain ⟨⟨hP1, hD1, hg1, hg2⟩, hSz⟩ := hB9
              rw [ht] at hP1 hSz hg1 hg2
              have hP := hP1
              have hD := hD1.weaken (fun _ q _ h => hFc q.1 h)
              have hz9 : H1.size ≤ s.heap.size + (nX_sheet_36 / 32 - (nX_sheet / 32)) := by (try dsimp only at hg1); omega
              have hn9 : nS s.heap.size H1 ≤ (2 * nX_sheet_36 - (2 * nX_sheet)) := by rw [hSz.n hS0]; (try dsimp only at hg2); omega
              refine W.tight (cells2 := (nX_sheet_36 / 32 - (nX_sheet / 32))) (slots2 := (2 * nX_sheet_36 - (2 * nX_sheet))) hz9 hn9 ?_
              clear hz9 hn9 hz0 hn0 hS0 hSz hg1 hg2
              generalize H1 = H at hP hS ⊢
              have hP : va_P (dC, dI) vwCl (WX hX aX kX hT hM fX_ready fX_sheet_36 dX_sheet_36 nX_sheet_36 iX_sheetLength_36 xX_reader xX_solver xX_prover xX_values xX_clauses xX_nets) H := hP
              have hD : va_D A (WX hX aX kX hT hM fX_ready fX_sheet_36 dX_sheet_36 nX_sheet_36 iX_sheetLength_36 xX_reader xX_solver xX_prover xX_values xX_clauses xX_nets) := hD
              refine lv_iload_n hx hb dX11_putNumber_56 rfl (lv_at hl 1 rfl) ?_
              refine lv_bipush (v := 10) hx hb dX11_putNumber_57 (by decide) ?_
              refine lv_idiv hx hb dX11_putNumber_59 (by decide) ?_
              refine lv_topi (fun v37 hv37 => ?_)
              clear hv37
              refine lv_istore_n hx hb dX11_putNumber_60 rfl hl (by decide) rfl (fun ls (hl : lv_has ls _ ([(3, .int v37), (4, .int l4_x29), (2, .int iX_sheetLength_j5), (0, .ref (hX 0)), (1, .int p1)])) => ?_)
              refine lv_iinc (v := (iI (l4_x29.toInt + 1))) hx hb dX11_putNumber_61 hl (k := 1) rfl (iI_add2 (iI_of _) (by decide : (1 : Int32) = iI 1)) (by decide) rfl (fun ls (hl : lv_has ls _ ([(4, .int (iI (l4_x29.toInt + 1))), (3, .int v37), (2, .int iX_sheetLength_j5), (0, .ref (hX 0)), (1, .int p1)])) => ?_)
              refine lv_goto (tgt := 29) hx hb dX11_putNumber_64 (by decide) ?_
              have hl : lv_has _ _ ([(4, .int (iI (l4_x29.toInt + 1))), (3, .int v37), (2, .int iX_sheetLength_j5), (0, .ref (hX 0)), (1, .int p1)]) := lv_sub hl [0, 1, 2, 3, 4] rfl
              exact ihx29 fX_sheet_36 dX_sheet_36 nX_sheet_36 iX_sheetLength_36 (iI (l4_x29.toInt + 1)) v37 _ _ _ b_fX_sheet_36 (by first | exact b_nX_sheet_36 | with_reducible assumption | exact ⟨by omega, by omega⟩ | assumption) (b_iX_sheetLength_36) (iI_rng (Int.le_trans (by decide) (Int.add_le_add (b_l4_x29.1) (Int.le_refl _))) (by omega) (by decide) (by decide)) (by first | with_reducible assumption | omega | (rw [iI_t (by omega) (by omega)]; omega) | (have h7 : (0 : Int32).toInt = 0 := (by decide); omega)) (show iX_sheetLength.toInt ≤ iX_sheetLength_36.toInt from by omega) (show iX_sheetLength_j5.toInt ≤ iX_sheetLength_36.toInt from by omega) (show nX_sheet ≤ nX_sheet_36 from by omega) (by have e9 : ((iI (l4_x29.toInt + 1))).toInt = (l4_x29.toInt + 1) := (iI_t (Int.le_trans (by decide) (Int.add_le_add (b_l4_x29.1) (Int.le_refl _))) (Int.le_trans (Int.add_le_add (b_l4_x29.2) (Int.le_refl _)) (by decide))); omega) hP hD hS hl
            · have t_38 : ¬ l4_x29.toInt = 0 := toI_neq c_38 rfl (by decide : (0 : Int32).toInt = 0)
              refine lv_iload_n hx hb dX11_putNumber_41 rfl (lv_at hl 1 rfl) ?_
              refine lv_if_eq (tgt := 67) hx hb dX11_putNumber_42 (by decide) (fun c_42 => ?_) (fun c_42 => ?_)
              · have t_42 : l3_x29.toInt = 0 := toI_eq c_42 rfl (by decide : (0 : Int32).toInt = 0)
                have hl : lv_has _ _ ([(4, .int l4_x29), (3, .int l3_x29), (2, .int iX_sheetLength_j5), (0, .ref (hX 0)), (1, .int p1)]) := lv_sub hl [0, 1, 2, 3, 4] rfl
                refine W.known (fun hza hna => ?_)
                refine W.widen (k := 1875) (n := 120000) (by omega) (by omega) ?_
                exact join8 _ _ _ _ ⟨(show iX_sheetLength.toInt ≤ iX_sheetLength_x29.toInt from by omega), (show iX_sheetLength_j5.toInt ≤ iX_sheetLength_x29.toInt from by omega), ⟨by omega, by omega⟩, rfl, hP, hD, hS, hl⟩
              · have t_42 : ¬ l3_x29.toInt = 0 := toI_neq c_42 rfl (by decide : (0 : Int32).toInt = 0)
                refine lv_aload_n hx hb dX11_putNumber_45 rfl (lv_at hl 3 rfl) ?_
                refine lv_bipush (v := 48) hx hb dX11_putNumber_46 (by decide) ?_
                refine lv_iload_n hx hb dX11_putNumber_48 rfl (lv_at hl 1 rfl) ?_
                refine lv_bipush (v := 10) hx hb dX11_putNumber_49 (by decide) ?_
                refine lv_irem hx hb dX11_putNumber_51 (by decide) ?_
                refine lv_topi (fun v38 hv38 => ?_)
                clear hv38
                refine lv_iadd hx hb dX11_putNumber_52 ?_
                refine lv_topi (fun y39 hy39 => ?_)
                obtain rfl : (iI (48 + v38.toInt)) = y39 := (hy39.trans (iI_add2 (by decide : (48 : Int32) = iI 48) (iI_of _))).symm
                refine W.known (fun hz0 hn0 => ?_)
                have hS0 := hS.1
                have hFc := allFree hD hS hA
                refine va_callv (va_runV (As := [.int (iI (48 + v38.toInt))]) (rest := []) ⟨hx, hb, hml, hown, hts⟩ (Met.sV (m_X11_put l dC dI hX aX kX hT hM fX_ready fX_sheet_x29 dX_sheet_x29 nX_sheet_x29 iX_sheetLength_x29 xX_reader xX_solver xX_prover xX_values xX_clauses xX_nets (iI (48 + v38.toInt)) b_fX_sheet_x29 (by first | exact b_nX_sheet_x29 | with_reducible assumption | exact ⟨by omega, by omega⟩ | assumption) (b_iX_sheetLength_x29) (by first | with_reducible assumption | omega | (rw [iI_t (by omega) (by omega)]; omega) | (have h7 : (0 : Int32).toInt = 0 := (by decide); omega)) H.size) H) (cwV 1 hts gwsMX11_putNumber_0 rfl rfl rfl (by decide +kernel) ⟨by first | decide +kernel | (dsimp only [headSpec] <;> omega), by first | decide +kernel | (dsimp only [headSpec] <;> omega)⟩) ⟨fun a U g mk q => by obtain ⟨q0, qh, q1, qP, qK, qD⟩ := q; exact ⟨q0, qh, q1, qP, va_K.moved (u := U) (U := U.calling g mk a) (Vm.Alike.refl U.vm) qK, qD⟩, va_recv hK hP (ci := 11) (q0 := 0) rfl rfl, fun U hU9 hW => ⟨rfl, hU9, by rw [hU9], by rw [hU9]; exact hP, va_K.moved hW.alike hK, hD.weaken (fun _ _ _ _ => trivial)⟩⟩ rfl rfl hl.1 rfl (lv_room (Nat.le_of_ble_eq_true rfl)) dX11_putNumber_53 ⟨by first | decide +kernel | (dsimp only [headSpec] <;> omega), by first | decide +kernel | (dsimp only [headSpec] <;> omega)⟩) hS (fun q _ h => hFc q h) hFc (fun u t9_ H1 locs ht hvm hw9 hB9 hz1 hk1 hS => ?_)
                revert u hw9 hB9
                refine fz_p4 ?_
                intro fX_sheet_40 dX_sheet_40 nX_sheet_40 iX_sheetLength_40 hw9 hB9
                try dsimp only at hw9 hB9
                revert hw9
                refine fz_a6 ?_
                intro b_fX_sheet_40 b_nX_sheet_40 b_iX_sheetLength_40 b_shl_40 f40_0 f40_1
                obtain ⟨⟨hP1, hD1, hg1, hg2⟩, hSz⟩ := hB9
                rw [ht] at hP1 hSz hg1 hg2
                have hP := hP1
                have hD := hD1.weaken (fun _ q _ h => hFc q.1 h)
                have hz9 : H1.size ≤ s.heap.size + (nX_sheet_40 / 32 - (nX_sheet / 32)) := by (try dsimp only at hg1); omega
                have hn9 : nS s.heap.size H1 ≤ (2 * nX_sheet_40 - (2 * nX_sheet)) := by rw [hSz.n hS0]; (try dsimp only at hg2); omega
                refine W.tight (cells2 := (nX_sheet_40 / 32 - (nX_sheet / 32))) (slots2 := (2 * nX_sheet_40 - (2 * nX_sheet))) hz9 hn9 ?_
                clear hz9 hn9 hz0 hn0 hS0 hSz hg1 hg2
                generalize H1 = H at hP hS ⊢
                have hP : va_P (dC, dI) vwCl (WX hX aX kX hT hM fX_ready fX_sheet_40 dX_sheet_40 nX_sheet_40 iX_sheetLength_40 xX_reader xX_solver xX_prover xX_values xX_clauses xX_nets) H := hP
                have hD : va_D A (WX hX aX kX hT hM fX_ready fX_sheet_40 dX_sheet_40 nX_sheet_40 iX_sheetLength_40 xX_reader xX_solver xX_prover xX_values xX_clauses xX_nets) := hD
                refine lv_iload_n hx hb dX11_putNumber_56 rfl (lv_at hl 1 rfl) ?_
                refine lv_bipush (v := 10) hx hb dX11_putNumber_57 (by decide) ?_
                refine lv_idiv hx hb dX11_putNumber_59 (by decide) ?_
                refine lv_topi (fun v41 hv41 => ?_)
                clear hv41
                refine lv_istore_n hx hb dX11_putNumber_60 rfl hl (by decide) rfl (fun ls (hl : lv_has ls _ ([(3, .int v41), (4, .int l4_x29), (2, .int iX_sheetLength_j5), (0, .ref (hX 0)), (1, .int p1)])) => ?_)
                refine lv_iinc (v := (iI (l4_x29.toInt + 1))) hx hb dX11_putNumber_61 hl (k := 1) rfl (iI_add2 (iI_of _) (by decide : (1 : Int32) = iI 1)) (by decide) rfl (fun ls (hl : lv_has ls _ ([(4, .int (iI (l4_x29.toInt + 1))), (3, .int v41), (2, .int iX_sheetLength_j5), (0, .ref (hX 0)), (1, .int p1)])) => ?_)
                refine lv_goto (tgt := 29) hx hb dX11_putNumber_64 (by decide) ?_
                have hl : lv_has _ _ ([(4, .int (iI (l4_x29.toInt + 1))), (3, .int v41), (2, .int iX_sheetLength_j5), (0, .ref (hX 0)), (1, .int p1)]) := lv_sub hl [0, 1, 2, 3, 4] rfl
                exact ihx29 fX_sheet_40 dX_sheet_40 nX_sheet_40 iX_sheetLength_40 (iI (l4_x29.toInt + 1)) v41 _ _ _ b_fX_sheet_40 (by first | exact b_nX_sheet_40 | with_reducible assumption | exact ⟨by omega, by omega⟩ | assumption) (b_iX_sheetLength_40) (iI_rng (Int.le_trans (by decide) (Int.add_le_add (b_l4_x29.1) (Int.le_refl _))) (by omega) (by decide) (by decide)) (by first | with_reducible assumption | omega | (rw [iI_t (by omega) (by omega)]; omega) | (have h7 : (0 : Int32).toInt = 0 := (by decide); omega)) (show iX_sheetLength.toInt ≤ iX_sheetLength_40.toInt from by omega) (show iX_sheetLength_j5.toInt ≤ iX_sheetLength_40.toInt from by omega) (show nX_sheet ≤ nX_sheet_40 from by omega) (by have e9 : ((iI (l4_x29.toInt + 1))).toInt = (l4_x29.toInt + 1) := (iI_t (Int.le_trans (by decide) (Int.add_le_add (b_l4_x29.1) (Int.le_refl _))) (Int.le_trans (Int.add_le_add (b_l4_x29.2) (Int.le_refl _)) (by decide))); omega) hP hD hS hl
        · rintro H locs ls stk ⟨hj2, hj3, ⟨hzj, hnj⟩, rfl, hP, hD, hS, hl⟩
          refine W.tight (cells2 := (nX_sheet_x29 / 32 - (nX_sheet / 32))) (slots2 := (2 * nX_sheet_x29 - (2 * nX_sheet))) (tg1 hzj hS.1) (tg2 hnj) ?_
          refine lv_aload_n hx hb dX11_putNumber_67 rfl (lv_at hl 3 rfl) ?_
          refine lv_iload_n hx hb dX11_putNumber_68 rfl (lv_at hl 2 rfl) ?_
          have hFc := allFree hD hS hA
          refine va_callv (va_runV (As := [.int iX_sheetLength_j5]) (rest := []) ⟨hx, hb, hml, hown, hts⟩ (m_X11_turnRound l dC dI hX aX kX hT hM fX_ready fX_sheet_x29 dX_sheet_x29 nX_sheet_x29 iX_sheetLength_x29 xX_reader xX_solver xX_prover xX_values xX_clauses xX_nets iX_sheetLength_j5 b_fX_sheet_x29 (by first | exact b_nX_sheet_x29 | with_reducible assumption | exact ⟨by omega, by omega⟩ | assumption) (b_iX_sheetLength_x29) (by first | with_reducible assumption | omega | (rw [iI_t (by omega) (by omega)]; omega) | (have h7 : (0 : Int32).toInt = 0 := (by decide); omega)) (b_iX_sheetLength_j5) H.size) (cwV 1 hts gwsMX11_putNumber_1 rfl rfl rfl (by decide +kernel) ⟨by first | decide +kernel | (dsimp only [headSpec] <;> omega), by first | decide +kernel | (dsimp only [headSpec] <;> omega)⟩) (fz_pre (va_recv hK hP (ci := 11) (q0 := 0) rfl rfl) hP hK hD) rfl rfl hl.1 rfl (lv_room (Nat.le_of_ble_eq_true rfl)) dX11_putNumber_69 ⟨by first | decide +kernel | (dsimp only [headSpec] <;> omega), by first | decide +kernel | (dsimp only [headSpec] <;> omega)⟩) hS (fun q _ h => hFc q h) hFc (fun fX_sheet_42 t9_ H locs ht hvm hw9 hB9 hz1 hk1 hS => ?_)
          have b_fX_sheet_42 := hw9
          try dsimp only at b_fX_sheet_42
          have hP : va_P (dC, dI) vwCl (WX hX aX kX hT hM fX_ready fX_sheet_42 dX_sheet_x29 nX_sheet_x29 iX_sheetLength_x29 xX_reader xX_solver xX_prover xX_values xX_clauses xX_nets) H := fz_P ht hB9.1
          have hD : va_D A (WX hX aX kX hT hM fX_ready fX_sheet_42 dX_sheet_x29 nX_sheet_x29 iX_sheetLength_x29 xX_reader xX_solver xX_prover xX_values xX_clauses xX_nets) := hB9.2.weaken (fun _ q _ h => hFc q.1 h)
          refine W.known (fun hz9 hn9 => ?_)
          refine W.widen (k := 3751) (n := 300000) (by omega) (by omega) ?_
          exact W.vret hx hb hr (fun t9_ ht hW => ⟨⟨(fX_sheet_42, dX_sheet_x29, nX_sheet_x29, iX_sheetLength_x29), rfl, ⟨b_fX_sheet_42, (by (try dsimp only); exact (by first | exact b_nX_sheet_x29 | with_reducible assumption | exact ⟨by omega, by omega⟩ | assumption)), b_iX_sheetLength_x29, (by (try dsimp only); exact (by first | with_reducible assumption | omega | (rw [iI_t (by omega) (by omega)]; omega) | (have h7 : (0 : Int32).toInt = 0 := (by decide); omega))), (by (try dsimp only); omega), (by (try dsimp only); first | omega | (rw [iI_t (by omega) (by omega)]; omega))⟩, by rw [ht]; exact hP, hD, by rw [ht]; (try dsimp only); omega, by rw [ht]; (try dsimp only); omega⟩, hS.F ht⟩) hS.2.2 dX11_putNumber_72
end

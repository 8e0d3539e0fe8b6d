section
theorem dX7_keepListed_0 : decode cX7_keepListed 0 = .ok (.aload_n 0, 1) := dk_42 (by decide +kernel)
theorem dX7_keepListed_1 : decode cX7_keepListed 1 = .ok (.getfield 166, 3) := dk_180 (by decide +kernel)
theorem dX7_keepListed_4 : decode cX7_keepListed 4 = .ok (.aload_n 0, 1) := dk_42 (by decide +kernel)
theorem dX7_keepListed_5 : decode cX7_keepListed 5 = .ok (.getfield 56, 3) := dk_180 (by decide +kernel)
theorem dX7_keepListed_8 : decode cX7_keepListed 8 = .ok (.arraylength, 1) := dk_190 (by decide +kernel)
theorem dX7_keepListed_9 : decode cX7_keepListed 9 = .ok (.if_icmp .lt 25, 3) := dk_161 (by decide +kernel)
theorem dX7_keepListed_12 : decode cX7_keepListed 12 = .ok (.aload_n 0, 1) := dk_42 (by decide +kernel)
theorem dX7_keepListed_13 : decode cX7_keepListed 13 = .ok (.aload_n 0, 1) := dk_42 (by decide +kernel)
theorem dX7_keepListed_14 : decode cX7_keepListed 14 = .ok (.getfield 56, 3) := dk_180 (by decide +kernel)
theorem dX7_keepListed_17 : decode cX7_keepListed 17 = .ok (.bipush 8, 2) := dk_16 (by decide +kernel)
theorem dX7_keepListed_19 : decode cX7_keepListed 19 = .ok (.iconst 2, 1) := dk_5 (by decide +kernel)
theorem dX7_keepListed_20 : decode cX7_keepListed 20 = .ok (.aload_n 0, 1) := dk_42 (by decide +kernel)
theorem dX7_keepListed_21 : decode cX7_keepListed 21 = .ok (.getfield 166, 3) := dk_180 (by decide +kernel)
theorem dX7_keepListed_24 : decode cX7_keepListed 24 = .ok (.imul, 1) := dk_104 (by decide +kernel)
theorem dX7_keepListed_25 : decode cX7_keepListed 25 = .ok (.invokestatic 89, 3) := dk_184 (by decide +kernel)
theorem dX7_keepListed_28 : decode cX7_keepListed 28 = .ok (.invokestatic 188, 3) := dk_184 (by decide +kernel)
theorem dX7_keepListed_31 : decode cX7_keepListed 31 = .ok (.putfield 56, 3) := dk_181 (by decide +kernel)
theorem dX7_keepListed_34 : decode cX7_keepListed 34 = .ok (.lconst 0, 1) := dk_9 (by decide +kernel)
theorem dX7_keepListed_35 : decode cX7_keepListed 35 = .ok (.lstore_n 1, 1) := dk_64 (by decide +kernel)
theorem dX7_keepListed_36 : decode cX7_keepListed 36 = .ok (.aload_n 0, 1) := dk_42 (by decide +kernel)
theorem dX7_keepListed_37 : decode cX7_keepListed 37 = .ok (.getfield 59, 3) := dk_180 (by decide +kernel)
theorem dX7_keepListed_40 : decode cX7_keepListed 40 = .ok (.iconst 1, 1) := dk_4 (by decide +kernel)
theorem dX7_keepListed_41 : decode cX7_keepListed 41 = .ok (.isub, 1) := dk_100 (by decide +kernel)
theorem dX7_keepListed_42 : decode cX7_keepListed 42 = .ok (.istore_n 3, 1) := dk_62 (by decide +kernel)
theorem dX7_keepListed_43 : decode cX7_keepListed 43 = .ok (.iload_n 3, 1) := dk_29 (by decide +kernel)
theorem dX7_keepListed_44 : decode cX7_keepListed 44 = .ok (.ifCond .lt 21, 3) := dk_155 (by decide +kernel)
theorem dX7_keepListed_47 : decode cX7_keepListed 47 = .ok (.lload_n 1, 1) := dk_31 (by decide +kernel)
theorem dX7_keepListed_48 : decode cX7_keepListed 48 = .ok (.iconst 4, 1) := dk_7 (by decide +kernel)
theorem dX7_keepListed_49 : decode cX7_keepListed 49 = .ok (.lshl, 1) := dk_121 (by decide +kernel)
theorem dX7_keepListed_50 : decode cX7_keepListed 50 = .ok (.aload_n 0, 1) := dk_42 (by decide +kernel)
theorem dX7_keepListed_51 : decode cX7_keepListed 51 = .ok (.getfield 53, 3) := dk_180 (by decide +kernel)
theorem dX7_keepListed_54 : decode cX7_keepListed 54 = .ok (.iload_n 3, 1) := dk_29 (by decide +kernel)
theorem dX7_keepListed_55 : decode cX7_keepListed 55 = .ok (.iaload, 1) := dk_46 (by decide +kernel)
theorem dX7_keepListed_56 : decode cX7_keepListed 56 = .ok (.i2l, 1) := dk_133 (by decide +kernel)
theorem dX7_keepListed_57 : decode cX7_keepListed 57 = .ok (.lor, 1) := dk_129 (by decide +kernel)
theorem dX7_keepListed_58 : decode cX7_keepListed 58 = .ok (.lstore_n 1, 1) := dk_64 (by decide +kernel)
theorem dX7_keepListed_59 : decode cX7_keepListed 59 = .ok (.iinc 3 (-1), 3) := dk_132 (by decide +kernel)
theorem dX7_keepListed_62 : decode cX7_keepListed 62 = .ok (.goto (-19), 3) := dk_167 (by decide +kernel)
theorem dX7_keepListed_65 : decode cX7_keepListed 65 = .ok (.aload_n 0, 1) := dk_42 (by decide +kernel)
theorem dX7_keepListed_66 : decode cX7_keepListed 66 = .ok (.getfield 56, 3) := dk_180 (by decide +kernel)
theorem dX7_keepListed_69 : decode cX7_keepListed 69 = .ok (.aload_n 0, 1) := dk_42 (by decide +kernel)
theorem dX7_keepListed_70 : decode cX7_keepListed 70 = .ok (.getfield 166, 3) := dk_180 (by decide +kernel)
theorem dX7_keepListed_73 : decode cX7_keepListed 73 = .ok (.lload_n 1, 1) := dk_31 (by decide +kernel)
theorem dX7_keepListed_74 : decode cX7_keepListed 74 = .ok (.lastore, 1) := dk_80 (by decide +kernel)
theorem dX7_keepListed_75 : decode cX7_keepListed 75 = .ok (.aload_n 0, 1) := dk_42 (by decide +kernel)
theorem dX7_keepListed_76 : decode cX7_keepListed 76 = .ok (.dup, 1) := dk_89 (by decide +kernel)
theorem dX7_keepListed_77 : decode cX7_keepListed 77 = .ok (.getfield 166, 3) := dk_180 (by decide +kernel)
theorem dX7_keepListed_80 : decode cX7_keepListed 80 = .ok (.iconst 1, 1) := dk_4 (by decide +kernel)
theorem dX7_keepListed_81 : decode cX7_keepListed 81 = .ok (.iadd, 1) := dk_96 (by decide +kernel)
theorem dX7_keepListed_82 : decode cX7_keepListed 82 = .ok (.putfield 166, 3) := dk_181 (by decide +kernel)
theorem dX7_keepListed_85 : decode cX7_keepListed 85 = .ok (.return_, 1) := dk_177 (by decide +kernel)
def wsMX7_keepListed : List Cond := .code yX7_keepListed cX7_keepListed 4 none :: ([.fieldLink RX7 166 "OptimaWorks$ValueDesk" "listed" "I", .fieldLink RX7 56 "OptimaWorks$ValueDesk" "list" "[J", .methodLink RX7 89 Lib.Math.max.name, .static Lib.Math.max.name, .initialized "java/lang/Math", .code Lib.Math.max.name Lib.Math.max.code 2 (some .int), .fieldLink RX7 59 "OptimaWorks$ValueDesk" "holders" "I", .fieldLink RX7 53 "OptimaWorks$ValueDesk" "member" "[I"] ++ wsX70 ++ (va_wsS RX7 188 yJ7_copyOf_c38d5 wsMJ7_copyOf_c38d5))
theorem iwsMX7_keepListed_in7 : ∀ w ∈ wsX70, w ∈ wsMX7_keepListed := fun _ h => List.mem_cons_of_mem _ (List.mem_append_left _ (List.mem_append_right _ h))
theorem gwsMX7_keepListed_0 : GoodIn wsMX7_keepListed (va_wsS RX7 188 yJ7_copyOf_c38d5 wsMJ7_copyOf_c38d5) := goodIn_sub (fun _ h => List.mem_cons_of_mem _ (List.mem_append_right _ h)) (gdS (by decide +kernel) gdwsMJ7_copyOf_c38d5)
theorem gdwsMX7_keepListed : wsMX7_keepListed.all goodWord = true := gdC rfl (gdA (gdA (by decide +kernel : ([.fieldLink RX7 166 "OptimaWorks$ValueDesk" "listed" "I", .fieldLink RX7 56 "OptimaWorks$ValueDesk" "list" "[J", .methodLink RX7 89 Lib.Math.max.name, .static Lib.Math.max.name, .initialized "java/lang/Math", .code Lib.Math.max.name Lib.Math.max.code 2 (some .int), .fieldLink RX7 59 "OptimaWorks$ValueDesk" "holders" "I", .fieldLink RX7 53 "OptimaWorks$ValueDesk" "member" "[I"] : List Cond).all goodWord = true) gdwsX70) (gdS (by decide +kernel) gdwsMJ7_copyOf_c38d5))
set_option maxHeartbeats 4000000 in
set_option maxRecDepth 100000 in
/-- one more is listed -/
theorem m_X7_keepListed (l : Launch) (dC : Nat → ClassId) (dI : Nat → Nat → Nat) (hV : Nat → Nat) (aV : Nat → Nat) (kV : Nat → ClassId) (iV_holders : Int32) (iV_rules : Int32) (fV_pairs : Nat → Int32) (fV_domain : Nat → Int32) (fV_kind : Nat → Int32) (fV_a : Nat → Int32) (fV_b : Nat → Int32) (fV_c : Nat → Int32) (fV_rulePairs : Nat → Int32) (fV_lastHolder : Nat → Int32) (fV_now : Nat → Int32) (iV_doneFor : Int32) (iV_changed : Int32) (gV_fore : Nat → Int64) (gV_back : Nat → Int64) (fV_together : Nat → Int32) (fV_member : Nat → Int32) (gV_list : Nat → Int64) (dV_list : Nat) (nV_list : Nat) (iV_listed : Int32) (iV_listDone : Int32) (b_iV_holders : 0 ≤ iV_holders.toInt ∧ iV_holders.toInt ≤ 10) (b_iV_rules : 0 ≤ iV_rules.toInt ∧ iV_rules.toInt ≤ 12) (b_fV_kind : ∀ q : Nat, 0 ≤ (fV_kind q).toInt ∧ (fV_kind q).toInt ≤ 4) (b_iV_changed : 0 ≤ iV_changed.toInt ∧ iV_changed.toInt ≤ 1) (b_fV_member : ∀ q : Nat, (-1) ≤ (fV_member q).toInt ∧ (fV_member q).toInt ≤ 15) (b_nV_list : 0 ≤ nV_list ∧ nV_list ≤ 20000) (b_iV_listed : (-1) ≤ iV_listed.toInt ∧ iV_listed.toInt ≤ 5000) (b_iV_listDone : 0 ≤ iV_listDone.toInt ∧ iV_listDone.toInt ≤ 1) (b_RuV : RuV fV_kind fV_a fV_b fV_c fV_lastHolder) (b_lst : iV_listed.toInt ≤ ((nV_list : Nat) : Int)) (hl0 : 0 ≤ iV_listed.toInt) (hl5 : iV_listed.toInt < 5000) (sz : Nat) : Met l yX7_keepListed wsMX7_keepListed ({ frames := 2, cells := 5001, slots := 60000, locals := 40 }) (va_Pc [.ref (hV 0)] (fun U => U.heap.size = sz ∧ va_P (dC, dI) vwCl (WV hV aV kV iV_holders iV_rules fV_pairs fV_domain fV_kind fV_a fV_b fV_c fV_rulePairs fV_lastHolder fV_now iV_doneFor iV_changed gV_fore gV_back fV_together fV_member gV_list dV_list nV_list iV_listed iV_listDone) U.heap ∧ va_K (dC, dI) vwCl (tV kV) U ∧ va_D (fun _ => True) (WV hV aV kV iV_holders iV_rules fV_pairs fV_domain fV_kind fV_a fV_b fV_c fV_rulePairs fV_lastHolder fV_now iV_doneFor iV_changed gV_fore gV_back fV_together fV_member gV_list dV_list nV_list iV_listed iV_listDone))) (va_Qv (fun (u : (Nat → Int64) × (Nat) × (Nat) × (Int32)) => (0 ≤ (u.2.2.1) ∧ (u.2.2.1) ≤ 20000) ∧ ((-1) ≤ (u.2.2.2).toInt ∧ (u.2.2.2).toInt ≤ 5000) ∧ ((u.2.2.2).toInt ≤ (((u.2.2.1) : Nat) : Int)) ∧ ((u.2.2.2).toInt = iV_listed.toInt + 1) ∧ (nV_list ≤ (u.2.2.1))) (fun (u : (Nat → Int64) × (Nat) × (Nat) × (Int32)) t => va_P (dC, dI) vwCl (WV hV aV kV iV_holders iV_rules fV_pairs fV_domain fV_kind fV_a fV_b fV_c fV_rulePairs fV_lastHolder fV_now iV_doneFor iV_changed gV_fore gV_back fV_together fV_member (u.1) (u.2.1) (u.2.2.1) (u.2.2.2) iV_listDone) t.heap ∧ va_D (va_A (WV hV aV kV iV_holders iV_rules fV_pairs fV_domain fV_kind fV_a fV_b fV_c fV_rulePairs fV_lastHolder fV_now iV_doneFor iV_changed gV_fore gV_back fV_together fV_member gV_list dV_list nV_list iV_listed iV_listDone) sz) (WV hV aV kV iV_holders iV_rules fV_pairs fV_domain fV_kind fV_a fV_b fV_c fV_rulePairs fV_lastHolder fV_now iV_doneFor iV_changed gV_fore gV_back fV_together fV_member (u.1) (u.2.1) (u.2.2.1) (u.2.2.2) iV_listDone) ∧ t.heap.size + (nV_list / 4) ≤ sz + ((u.2.2.1) / 4) ∧ nS sz t.heap + (2 * nV_list) ≤ (2 * (u.2.2.1))) (va_A (WV hV aV kV iV_holders iV_rules fV_pairs fV_domain fV_kind fV_a fV_b fV_c fV_rulePairs fV_lastHolder fV_now iV_doneFor iV_changed gV_fore gV_back fV_together fV_member gV_list dV_list nV_list iV_listed iV_listDone) sz)) 5001 60000 (va_A (WV hV aV kV iV_holders iV_rules fV_pairs fV_domain fV_kind fV_a fV_b fV_c fV_rulePairs fV_lastHolder fV_now iV_doneFor iV_changed gV_fore gV_back fV_together fV_member gV_list dV_list nV_list iV_listed iV_listDone) sz) := by
  refine Met.ofW (cc := cX7_keepListed) (maxL := 4) (ret := none) (by decide) rfl ?_
  intro p e s m args below meth c s₁ B hml hv
  obtain ⟨rfl, hsz, hP, hK, hD0⟩ := hv
  have hx := B.exec
  have hb := B.bytes
  have hr := B.returns
  have hts := atoms_spec (ws := wsMX7_keepListed) B.pre
  have hown : s.vm.findClass RX7 = some m.cls := findClass_of_methodNamed B.named
  have hlocks := B.notSynchronized
  subst hsz
  have hD := hD0.self (sz := s.heap.size)
  generalize hAe : va_A (WV hV aV kV iV_holders iV_rules fV_pairs fV_domain fV_kind fV_a fV_b fV_c fV_rulePairs fV_lastHolder fV_now iV_doneFor iV_changed gV_fore gV_back fV_together fV_member gV_list dV_list nV_list iV_listed iV_listDone) s.heap.size = A at hD ⊢
  have hA : ∀ q : Nat, s.heap.size ≤ q → A q := fun q h => by rw [← hAe]; exact Or.inr h
  have hS : va_S A s.heap s.heap [] := va_S.rf
  have hl := lv_entry ([.ref (hV 0)]) (n := 4) (Nat.le_of_ble_eq_true rfl)
  rw [lg_entry_eq]
  generalize (lg_sl ([.ref (hV 0)]) ++ List.replicate (4 - (lg_sl ([.ref (hV 0)])).length) Slot.unset).toArray = ls at hl ⊢
  have hl : lv_has ls 4 [(0, .ref (hV 0))] := hl
  refine W.widen (k := (nV_list / 4 - (nV_list / 4))) (n := (2 * nV_list - (2 * nV_list))) (Nat.zero_le _) (Nat.zero_le _) ?_
  refine lv_aload_n hx hb dX7_keepListed_0 rfl (lv_at hl 0 rfl) ?_
  refine va_get (D := (dC, dI)) (ci := 7) (v := .int iV_listed) (C := RX7) (T := TX7) (N := 20) hx hb hts iwsMX7_keepListed_in7 hown hK hP 0 rfl rfl 18 (by decide) (hts (.fieldLink RX7 166 "OptimaWorks$ValueDesk" "listed" "I") (by decide +kernel)) (fun _ h9 => h9) rfl dX7_keepListed_1 ?_
  refine lv_aload_n hx hb dX7_keepListed_4 rfl (lv_at hl 0 rfl) ?_
  refine va_get (D := (dC, dI)) (ci := 7) (v := .ref dV_list) (C := RX7) (T := TX7) (N := 20) hx hb hts iwsMX7_keepListed_in7 hown hK hP 0 rfl rfl 17 (by decide) (hts (.fieldLink RX7 56 "OptimaWorks$ValueDesk" "list" "[J") (by decide +kernel)) (fun _ h9 => h9) rfl dX7_keepListed_5 ?_
  refine va_alen hx hb hK hP 14 13 rfl rfl (v := (iI ((nV_list : Nat) : Int))) (iI_nat _) dX7_keepListed_8 ?_
  refine W.known (fun hzk hnk => ?_)
  refine W.widen (k := 5000) (n := 40000) (by omega) (by omega) ?_
  refine W.cut (pc := 34) (fun H locs ls stk => ∃ (gV_list_j2 : Nat → Int64) (dV_list_j2 : Nat) (nV_list_j2 : Nat), (0 ≤ nV_list_j2 ∧ nV_list_j2 ≤ 20000) ∧ (iV_listed.toInt ≤ ((nV_list_j2 : Nat) : Int)) ∧ (iV_listed.toInt < ((nV_list_j2 : Nat) : Int)) ∧ (nV_list ≤ nV_list_j2) ∧ (H.size + (nV_list / 4) ≤ s.heap.size + (nV_list_j2 / 4) ∧ nS s.heap.size H + (2 * nV_list) ≤ (2 * nV_list_j2)) ∧  stk = [] ∧ va_P (dC, dI) vwCl (WV hV aV kV iV_holders iV_rules fV_pairs fV_domain fV_kind fV_a fV_b fV_c fV_rulePairs fV_lastHolder fV_now iV_doneFor iV_changed gV_fore gV_back fV_together fV_member gV_list_j2 dV_list_j2 nV_list_j2 iV_listed iV_listDone) H ∧ va_D A (WV hV aV kV iV_holders iV_rules fV_pairs fV_domain fV_kind fV_a fV_b fV_c fV_rulePairs fV_lastHolder fV_now iV_doneFor iV_changed gV_fore gV_back fV_together fV_member gV_list_j2 dV_list_j2 nV_list_j2 iV_listed iV_listDone) ∧ va_S A s.heap H locs ∧ lv_has ls 4 [(0, .ref (hV 0))]) (fun join2 => ?_) ?_
  · refine W.tight (cells2 := (nV_list / 4 - (nV_list / 4))) (slots2 := (2 * nV_list - (2 * nV_list))) hzk hnk ?_
    refine lv_icmp_lt (tgt := 34) hx hb dX7_keepListed_9 (by decide) (fun c_9 => ?_) (fun c_9 => ?_)
    · first | (have t_9 : iV_listed.toInt < ((nV_list : Nat) : Int) := toI_lt c_9 rfl (iI_t (by omega) (by omega))) | skip
      have hl : lv_has _ _ ([(0, .ref (hV 0))]) := lv_sub hl [0] rfl
      refine W.known (fun hza hna => ?_)
      refine W.widen (k := 5000) (n := 40000) (by omega) (by omega) ?_
      exact join2 _ _ _ _ ⟨gV_list, dV_list, nV_list, (by first | exact b_nV_list | with_reducible assumption | exact ⟨by omega, by omega⟩ | assumption), (by first | with_reducible assumption | omega | (rw [iI_t (by omega) (by omega)]; omega) | (have h8 : (-1 : Int32).toInt = -1 := (by decide); have h7 : (0 : Int32).toInt = 0 := (by decide); omega)), (show iV_listed.toInt < ((nV_list : Nat) : Int) from by omega), (show nV_list ≤ nV_list from by omega), ⟨by omega, by omega⟩, rfl, hP, hD, hS, hl⟩
    · first | (have t_9 : ¬ iV_listed.toInt < ((nV_list : Nat) : Int) := toI_nlt c_9 rfl (iI_t (by omega) (by omega))) | skip
      refine lv_aload_n hx hb dX7_keepListed_12 rfl (lv_at hl 0 rfl) ?_
      refine lv_aload_n hx hb dX7_keepListed_13 rfl (lv_at hl 0 rfl) ?_
      refine va_get (D := (dC, dI)) (ci := 7) (v := .ref dV_list) (C := RX7) (T := TX7) (N := 20) hx hb hts iwsMX7_keepListed_in7 hown hK hP 0 rfl rfl 17 (by decide) (hts (.fieldLink RX7 56 "OptimaWorks$ValueDesk" "list" "[J") (by decide +kernel)) (fun _ h9 => h9) rfl dX7_keepListed_14 ?_
      refine lv_bipush (v := 8) hx hb dX7_keepListed_17 (by decide) ?_
      refine lv_iconst (v := 2) hx hb dX7_keepListed_19 (by decide) ?_
      refine lv_aload_n hx hb dX7_keepListed_20 rfl (lv_at hl 0 rfl) ?_
      refine va_get (D := (dC, dI)) (ci := 7) (v := .int iV_listed) (C := RX7) (T := TX7) (N := 20) hx hb hts iwsMX7_keepListed_in7 hown hK hP 0 rfl rfl 18 (by decide) (hts (.fieldLink RX7 166 "OptimaWorks$ValueDesk" "listed" "I") (by decide +kernel)) (fun _ h9 => h9) rfl dX7_keepListed_21 ?_
      refine lv_imul hx hb dX7_keepListed_24 ?_
      refine lv_topi (fun y4 hy4 => ?_)
      obtain rfl : (iI (2 * iV_listed.toInt)) = y4 := (hy4.trans (iI_mul2 (by decide : (2 : Int32) = iI 2) (iI_of _))).symm
      refine va_mmax hx hb (by rw [hml]; exact hl.1.symm) hown (hts (.methodLink RX7 89 Lib.Math.max.name) (by decide +kernel)) (hts (.static Lib.Math.max.name) (by decide +kernel)) (hts (.initialized "java/lang/Math") (by decide +kernel)) (hts (.code Lib.Math.max.name Lib.Math.max.code 2 (some .int)) (by decide +kernel)) (by (dsimp only [headSpec] <;> omega)) (Nat.le_of_ble_eq_true rfl) (by (dsimp only [headSpec] <;> omega)) (by (dsimp only [headSpec] <;> omega)) dX7_keepListed_25 ?_
      refine lv_topi (fun v5 hv5 => ?_)
      have b_v5 : (8 ≤ v5.toInt ∧ (2 * iV_listed.toInt) ≤ v5.toInt) ∧ (v5.toInt = 8 ∨ v5.toInt = (2 * iV_listed.toInt)) := by rw [hv5]; exact max_t (by decide : (8 : Int32).toInt = 8) (iI_t (Int.le_trans (by decide) (Int.mul_le_mul_of_nonneg_left (b_iV_listed.1) (by decide))) (Int.le_trans (Int.mul_le_mul_of_nonneg_left (b_iV_listed.2) (by decide)) (by decide)))
      clear hv5
      obtain ⟨nn6, hnn6⟩ : ∃ k9 : Nat, (k9 : Int) = v5.toInt := ⟨(v5.toInt).toNat, by omega⟩
      have hPc : va_P (dC, dI) vwCl (WZ (fun _ => 0) (fun _ => dV_list) (fun _ => kV 13) nV_list gV_list) _ := hP.sub [14] rfl
      have hDc : va_D _ (WZ (fun _ => 0) (fun _ => dV_list) (fun _ => kV 13) nV_list gV_list) := hD.sub [14] (by decide) rfl
      have hKc : va_K (dC, dI) vwCl (tZ (fun _ => kV 13)) _ := hK.sub [13] rfl
      have hFc := va_free (wc := WZ (fun _ => 0) (fun _ => dV_list) (fun _ => kV 13) nV_list gV_list) hD hS hA [14] rfl
      refine va_callr (va_runS (As := [.ref dV_list, .int v5]) (rest := [.ref (hV 0)]) ⟨hx, hb, hml, hown, hts⟩ (m_J7_copyOf_c38d5 l dC dI (fun _ => 0) (fun _ => dV_list) (fun _ => kV 13) nV_list gV_list v5 nn6 ⟨by omega, by omega⟩  (rfl.trans hnn6.symm) (by omega) (by omega) s.heap.size) (va_cwS 2 hts gwsMX7_keepListed_0 rfl rfl rfl (by decide +kernel) ⟨(by (dsimp only [headSpec] <;> omega)), (by (dsimp only [headSpec] <;> omega))⟩) ⟨fun a U g mk q => by obtain ⟨q0, q1, qP, qK, qD⟩ := q; exact ⟨q0, q1, qP, va_K.moved (u := U) (U := U.calling g mk a) (Vm.Alike.refl U.vm) qK, qD⟩, fun U hU9 hW => ⟨rfl, by rw [hU9], by rw [hU9]; exact hPc, va_K.moved hW.alike hKc, hDc.weaken (fun _ _ _ _ => trivial)⟩⟩ rfl rfl hl.1 rfl (lv_room (Nat.le_of_ble_eq_true rfl)) dX7_keepListed_28 ⟨(by (dsimp only [headSpec] <;> omega)), (by (dsimp only [headSpec] <;> omega))⟩) hS (fun q _ h => hFc q h) hFc (fun uC6 ra6 t9_ H locs ht hvm hw9 hB9 hz1 hk1 hS => ?_)
      obtain ⟨hP, hD⟩ := va_join (wr := [(hV 0, .inr (7, [.int iV_holders, .int iV_rules, .ref (aV 0), .ref (aV 1), .ref (aV 2), .ref (aV 3), .ref (aV 4), .ref (aV 5), .ref (aV 6), .ref (aV 7), .ref (aV 8), .int iV_doneFor, .int iV_changed, .ref (aV 9), .ref (aV 10), .ref (aV 11), .ref (aV 12), .ref dV_list, .int iV_listed, .int iV_listDone])), (aV 0, .inl (kV 0, 16, .inl fV_pairs)), (aV 1, .inl (kV 1, 10, .inl fV_domain)), (aV 2, .inl (kV 2, 12, .inl fV_kind)), (aV 3, .inl (kV 3, 12, .inl fV_a)), (aV 4, .inl (kV 4, 12, .inl fV_b)), (aV 5, .inl (kV 5, 12, .inl fV_c)), (aV 6, .inl (kV 6, 192, .inl fV_rulePairs)), (aV 7, .inl (kV 7, 12, .inl fV_lastHolder)), (aV 8, .inl (kV 8, 10, .inl fV_now)), (aV 9, .inl (kV 9, 33, .inr (.inl gV_fore))), (aV 10, .inl (kV 10, 33, .inr (.inl gV_back))), (aV 11, .inl (kV 11, 1024, .inl fV_together)), (aV 12, .inl (kV 12, 10, .inl fV_member))]) (w1 := [(dV_list, .inl (kV 13, nV_list, .inr (.inl gV_list))), (ra6, .inl (kV 13, nn6, .inr (.inl uC6)))]) hP hD [14] [0, 1, 2, 3, 4, 5, 6, 7, 8, 9, 10, 11, 12, 13] rfl rfl (by decide) (by decide) hk1 hFc (fz_P ht hB9.1) hB9.2
      have hP : va_P (dC, dI) vwCl ((WV hV aV kV iV_holders iV_rules fV_pairs fV_domain fV_kind fV_a fV_b fV_c fV_rulePairs fV_lastHolder fV_now iV_doneFor iV_changed gV_fore gV_back fV_together fV_member gV_list dV_list nV_list iV_listed iV_listDone) ++ [(ra6, .inl (kV 13, nn6, .inr (.inl uC6)))]) H := hP.sub [0, 1, 2, 3, 4, 5, 6, 7, 8, 9, 10, 11, 12, 13, 14, 15] rfl
      have hD : va_D A ((WV hV aV kV iV_holders iV_rules fV_pairs fV_domain fV_kind fV_a fV_b fV_c fV_rulePairs fV_lastHolder fV_now iV_doneFor iV_changed gV_fore gV_back fV_together fV_member gV_list dV_list nV_list iV_listed iV_listDone) ++ [(ra6, .inl (kV 13, nn6, .inr (.inl uC6)))]) := hD.sub [0, 1, 2, 3, 4, 5, 6, 7, 8, 9, 10, 11, 12, 13, 14, 15] (by decide) rfl
      refine va_put (D := (dC, dI)) (ci := 7) (v := .ref ra6) (ty := .array .long) (C := RX7) (T := TX7) (N := 20) hx hb hts iwsMX7_keepListed_in7 tyX7 tyX7_ok nmX7 hown hK hP hD hS 0 rfl rfl 17 (by decide) (hts (.fieldLink RX7 56 "OptimaWorks$ValueDesk" "list" "[J") (by decide +kernel)) (fun _ h9 => h9) rfl (by decide +kernel) rfl rfl (Nat.le_of_ble_eq_true rfl) dX7_keepListed_31 (fun H locs hP hD hS => ?_)
      have hP : va_P (dC, dI) vwCl (WV hV aV kV iV_holders iV_rules fV_pairs fV_domain fV_kind fV_a fV_b fV_c fV_rulePairs fV_lastHolder fV_now iV_doneFor iV_changed gV_fore gV_back fV_together fV_member uC6 ra6 nn6 iV_listed iV_listDone) _ := hP.sub [0, 1, 2, 3, 4, 5, 6, 7, 8, 9, 10, 11, 12, 13, 15] rfl
      have hD : va_D _ (WV hV aV kV iV_holders iV_rules fV_pairs fV_domain fV_kind fV_a fV_b fV_c fV_rulePairs fV_lastHolder fV_now iV_doneFor iV_changed gV_fore gV_back fV_together fV_member uC6 ra6 nn6 iV_listed iV_listDone) := hD.sub [0, 1, 2, 3, 4, 5, 6, 7, 8, 9, 10, 11, 12, 13, 15] (by decide) rfl
      have hP : va_P (dC, dI) vwCl (WV hV aV kV iV_holders iV_rules fV_pairs fV_domain fV_kind fV_a fV_b fV_c fV_rulePairs fV_lastHolder fV_now iV_doneFor iV_changed gV_fore gV_back fV_together fV_member uC6 ra6 nn6 iV_listed iV_listDone) H := hP
      have hD : va_D A (WV hV aV kV iV_holders iV_rules fV_pairs fV_domain fV_kind fV_a fV_b fV_c fV_rulePairs fV_lastHolder fV_now iV_doneFor iV_changed gV_fore gV_back fV_together fV_member uC6 ra6 nn6 iV_listed iV_listDone) := hD
      refine W.widen (k := (nn6 / 4 - (nV_list / 4))) (n := (2 * nn6 - (2 * nV_list))) (by omega) (by omega) ?_
      have hl : lv_has _ _ ([(0, .ref (hV 0))]) := lv_sub hl [0] rfl
      refine W.known (fun hza hna => ?_)
      refine W.widen (k := 5000) (n := 40000) (by omega) (by omega) ?_
      exact join2 _ _ _ _ ⟨uC6, ra6, nn6, (by first | exact b_nn6 | with_reducible assumption | exact ⟨by omega, by omega⟩ | assumption), (by first | with_reducible assumption | omega | (rw [iI_t (by omega) (by omega)]; omega) | (have h8 : (-1 : Int32).toInt = -1 := (by decide); have h7 : (0 : Int32).toInt = 0 := (by decide); omega)), (show iV_listed.toInt < ((nn6 : Nat) : Int) from by omega), (show nV_list ≤ nn6 from by omega), ⟨by omega, by omega⟩, rfl, hP, hD, hS, hl⟩
  · rintro H locs ls stk ⟨gV_list_j2, dV_list_j2, nV_list_j2, b_nV_list_j2, b_lst_j2, hjn, hgm0_j2, ⟨hzj, hnj⟩, rfl, hP, hD, hS, hl⟩
    refine W.tight (cells2 := (nV_list_j2 / 4 - (nV_list / 4))) (slots2 := (2 * nV_list_j2 - (2 * nV_list))) (tg1 hzj hS.1) (tg2 hnj) ?_
    refine lv_lconst (v := 0) hx hb dX7_keepListed_34 (by decide) ?_
    refine lv_lstore_n hx hb dX7_keepListed_35 rfl hl (by decide) rfl (fun ls (hl : lv_has ls _ ([(1, .long 0), (0, .ref (hV 0))])) => ?_)
    refine lv_aload_n hx hb dX7_keepListed_36 rfl (lv_at hl 1 rfl) ?_
    refine va_get (D := (dC, dI)) (ci := 7) (v := .int iV_holders) (C := RX7) (T := TX7) (N := 20) hx hb hts iwsMX7_keepListed_in7 hown hK hP 0 rfl rfl 0 (by decide) (hts (.fieldLink RX7 59 "OptimaWorks$ValueDesk" "holders" "I") (by decide +kernel)) (fun _ h9 => h9) rfl dX7_keepListed_37 ?_
    refine lv_iconst (v := 1) hx hb dX7_keepListed_40 (by decide) ?_
    refine lv_isub hx hb dX7_keepListed_41 ?_
    refine lv_topi (fun y7 hy7 => ?_)
    obtain rfl : (iI (iV_holders.toInt - 1)) = y7 := (hy7.trans (iI_sub2 (iI_of _) (by decide : (1 : Int32) = iI 1))).symm
    refine lv_istore_n hx hb dX7_keepListed_42 rfl hl (by decide) rfl (fun ls (hl : lv_has ls _ ([(3, .int (iI (iV_holders.toInt - 1))), (1, .long 0), (0, .ref (hV 0))])) => ?_)
    have hl : lv_has _ _ ([(3, .int (iI (iV_holders.toInt - 1))), (1, .long 0), (0, .ref (hV 0))]) := lv_sub hl [0, 1, 2] rfl
    refine (fun (loop : ∀ (n9 : Nat) (l3_x43 : Int32) (l1_x43 : Int64) (H : Heap) (locs : List Loc) (ls : Array Slot), ((-1) ≤ l3_x43.toInt ∧ l3_x43.toInt ≤ 9) → (l3_x43.toInt - (-1) < ((n9 : Nat) : Int)) → va_P (dC, dI) vwCl (WV hV aV kV iV_holders iV_rules fV_pairs fV_domain fV_kind fV_a fV_b fV_c fV_rulePairs fV_lastHolder fV_now iV_doneFor iV_changed gV_fore gV_back fV_together fV_member gV_list_j2 dV_list_j2 nV_list_j2 iV_listed iV_listDone) H → va_D A (WV hV aV kV iV_holders iV_rules fV_pairs fV_domain fV_kind fV_a fV_b fV_c fV_rulePairs fV_lastHolder fV_now iV_doneFor iV_changed gV_fore gV_back fV_together fV_member gV_list_j2 dV_list_j2 nV_list_j2 iV_listed iV_listDone) → va_S A s.heap H locs → lv_has ls 4 [(3, .int l3_x43), (1, .long l1_x43), (0, .ref (hV 0))] → W p l e _ s m _ below meth c H locs (nV_list_j2 / 4 - (nV_list / 4)) (2 * nV_list_j2 - (2 * nV_list)) _ (F0 m 43 ls [])) => loop (11) (iI (iV_holders.toInt - 1)) 0 _ _ _ (iI_rng (Int.le_trans (by decide) (Int.sub_le_sub (b_iV_holders.1) (Int.le_refl _))) (Int.le_trans (Int.sub_le_sub (b_iV_holders.2) (Int.le_refl _)) (by decide)) (by decide) (by decide)) ((by have e9 : ((iI (iV_holders.toInt - 1))).toInt = (iV_holders.toInt - 1) := (iI_t (Int.le_trans (by decide) (Int.sub_le_sub (b_iV_holders.1) (Int.le_refl _))) (Int.le_trans (Int.sub_le_sub (b_iV_holders.2) (Int.le_refl _)) (by decide))); omega)) hP hD hS hl) ?_
    intro n9
    induction n9 with
    | zero => intro l3_x43 l1_x43 H locs ls b_l3_x43 hf9; exact False.elim (by omega)
    | succ n9 ihx43 =>
      intro l3_x43 l1_x43 H locs ls b_l3_x43 hfx43 hP hD hS hl
      refine lv_iload_n hx hb dX7_keepListed_43 rfl (lv_at hl 0 rfl) ?_
      refine lv_if_lt (tgt := 65) hx hb dX7_keepListed_44 (by decide) (fun c_44 => ?_) (fun c_44 => ?_)
      · have t_44 : l3_x43.toInt < 0 := toI_lt c_44 rfl (by decide : (0 : Int32).toInt = 0)
        refine lv_aload_n hx hb dX7_keepListed_65 rfl (lv_at hl 2 rfl) ?_
        refine va_get (D := (dC, dI)) (ci := 7) (v := .ref dV_list_j2) (C := RX7) (T := TX7) (N := 20) hx hb hts iwsMX7_keepListed_in7 hown hK hP 0 rfl rfl 17 (by decide) (hts (.fieldLink RX7 56 "OptimaWorks$ValueDesk" "list" "[J") (by decide +kernel)) (fun _ h9 => h9) rfl dX7_keepListed_66 ?_
        refine lv_aload_n hx hb dX7_keepListed_69 rfl (lv_at hl 2 rfl) ?_
        refine va_get (D := (dC, dI)) (ci := 7) (v := .int iV_listed) (C := RX7) (T := TX7) (N := 20) hx hb hts iwsMX7_keepListed_in7 hown hK hP 0 rfl rfl 18 (by decide) (hts (.fieldLink RX7 166 "OptimaWorks$ValueDesk" "listed" "I") (by decide +kernel)) (fun _ h9 => h9) rfl dX7_keepListed_70 ?_
        refine lv_lload_n hx hb dX7_keepListed_73 rfl (lv_at hl 1 rfl) ?_
        refine va_last (cA := kV 13) (n := nV_list_j2) (f := gV_list_j2) hx hb hK hP hD hS 14 13 rfl rfl (vp_in_iff.mpr ⟨(by omega), (by omega)⟩) dX7_keepListed_74 (fun H locs hP hD hS => ?_)
        obtain ⟨u32, hu32⟩ : ∃ f9, f9 = vp_updL gV_list_j2 (iV_listed).toNatClampNeg l1_x43 := ⟨_, rfl⟩
        have hP : va_P (dC, dI) vwCl (WV hV aV kV iV_holders iV_rules fV_pairs fV_domain fV_kind fV_a fV_b fV_c fV_rulePairs fV_lastHolder fV_now iV_doneFor iV_changed gV_fore gV_back fV_together fV_member u32 dV_list_j2 nV_list_j2 iV_listed iV_listDone) H := by rw [hu32]; exact hP
        have hD : va_D A (WV hV aV kV iV_holders iV_rules fV_pairs fV_domain fV_kind fV_a fV_b fV_c fV_rulePairs fV_lastHolder fV_now iV_doneFor iV_changed gV_fore gV_back fV_together fV_member u32 dV_list_j2 nV_list_j2 iV_listed iV_listDone) := by rw [hu32]; exact hD
        clear hu32
        refine lv_aload_n hx hb dX7_keepListed_75 rfl (lv_at hl 2 rfl) ?_
        refine lv_dup hx hb dX7_keepListed_76 rfl ?_
        refine va_get (D := (dC, dI)) (ci := 7) (v := .int iV_listed) (C := RX7) (T := TX7) (N := 20) hx hb hts iwsMX7_keepListed_in7 hown hK hP 0 rfl rfl 18 (by decide) (hts (.fieldLink RX7 166 "OptimaWorks$ValueDesk" "listed" "I") (by decide +kernel)) (fun _ h9 => h9) rfl dX7_keepListed_77 ?_
        refine lv_iconst (v := 1) hx hb dX7_keepListed_80 (by decide) ?_
        refine lv_iadd hx hb dX7_keepListed_81 ?_
        refine lv_topi (fun y33 hy33 => ?_)
        obtain rfl : (iI (iV_listed.toInt + 1)) = y33 := (hy33.trans (iI_add2 (iI_of _) (by decide : (1 : Int32) = iI 1))).symm
        refine va_put (D := (dC, dI)) (ci := 7) (v := .int (iI (iV_listed.toInt + 1))) (ty := .int) (C := RX7) (T := TX7) (N := 20) hx hb hts iwsMX7_keepListed_in7 tyX7 tyX7_ok nmX7 hown hK hP hD hS 0 rfl rfl 18 (by decide) (hts (.fieldLink RX7 166 "OptimaWorks$ValueDesk" "listed" "I") (by decide +kernel)) (fun _ h9 => h9) rfl (by decide +kernel) rfl rfl (Nat.le_of_ble_eq_true rfl) dX7_keepListed_82 (fun H locs hP hD hS => ?_)
        have hP : va_P (dC, dI) vwCl (WV hV aV kV iV_holders iV_rules fV_pairs fV_domain fV_kind fV_a fV_b fV_c fV_rulePairs fV_lastHolder fV_now iV_doneFor iV_changed gV_fore gV_back fV_together fV_member u32 dV_list_j2 nV_list_j2 (iI (iV_listed.toInt + 1)) iV_listDone) H := hP
        have hD : va_D A (WV hV aV kV iV_holders iV_rules fV_pairs fV_domain fV_kind fV_a fV_b fV_c fV_rulePairs fV_lastHolder fV_now iV_doneFor iV_changed gV_fore gV_back fV_together fV_member u32 dV_list_j2 nV_list_j2 (iI (iV_listed.toInt + 1)) iV_listDone) := hD
        refine W.known (fun hz9 hn9 => ?_)
        refine W.widen (k := 5001) (n := 60000) (by omega) (by omega) ?_
        exact W.vret hx hb hr (fun t9_ ht hW => ⟨⟨(u32, dV_list_j2, nV_list_j2, (iI (iV_listed.toInt + 1))), rfl, ⟨(by (try dsimp only); exact (by first | exact b_nV_list_j2 | with_reducible assumption | exact ⟨by omega, by omega⟩ | assumption)), (by (try dsimp only); exact (iI_rng (Int.le_trans (by decide) (Int.add_le_add (b_iV_listed.1) (Int.le_refl _))) (by omega) (by decide) (by decide))), (by (try dsimp only); exact (by first | with_reducible assumption | omega | (rw [iI_t (by omega) (by omega)]; omega) | (have h8 : (-1 : Int32).toInt = -1 := (by decide); have h7 : (0 : Int32).toInt = 0 := (by decide); omega))), (by (try dsimp only); exact (iI_t (by omega) (by omega))), (by (try dsimp only); omega)⟩, by rw [ht]; exact hP, hD, by rw [ht]; (try dsimp only); omega, by rw [ht]; (try dsimp only); omega⟩, hS.F ht⟩) hS.2.2 dX7_keepListed_85
      · have t_44 : ¬ l3_x43.toInt < 0 := toI_nlt c_44 rfl (by decide : (0 : Int32).toInt = 0)
        refine lv_lload_n hx hb dX7_keepListed_47 rfl (lv_at hl 1 rfl) ?_
        refine lv_iconst (v := 4) hx hb dX7_keepListed_48 (by decide) ?_
        refine lv_lshl hx hb dX7_keepListed_49 rfl ?_
        refine lv_topl (fun v34 hv34 => ?_)
        clear hv34
        refine lv_aload_n hx hb dX7_keepListed_50 rfl (lv_at hl 2 rfl) ?_
        refine va_get (D := (dC, dI)) (ci := 7) (v := .ref (aV 12)) (C := RX7) (T := TX7) (N := 20) hx hb hts iwsMX7_keepListed_in7 hown hK hP 0 rfl rfl 16 (by decide) (hts (.fieldLink RX7 53 "OptimaWorks$ValueDesk" "member" "[I") (by decide +kernel)) (fun _ h9 => h9) rfl dX7_keepListed_51 ?_
        refine lv_iload_n hx hb dX7_keepListed_54 rfl (lv_at hl 0 rfl) ?_
        refine va_iald (cA := kV 12) (n := 10) (f := fV_member) hx hb hK hP 13 12 rfl rfl (vp_in_iff.mpr ⟨(by omega), (Int.lt_of_le_of_lt (b_l3_x43.2) (by decide))⟩) dX7_keepListed_55 ?_
        refine lv_topi (fun v35 hv35 => ?_)
        have b_v35 : (-1) ≤ v35.toInt ∧ v35.toInt ≤ 15 := by rw [hv35]; exact b_fV_member _
        clear hv35
        refine lv_i2l hx hb dX7_keepListed_56 rfl ?_
        refine lv_topl (fun v36 hv36 => ?_)
        clear hv36
        refine lv_lor hx hb dX7_keepListed_57 ?_
        refine lv_topl (fun v37 hv37 => ?_)
        clear hv37
        refine lv_lstore_n hx hb dX7_keepListed_58 rfl hl (by decide) rfl (fun ls (hl : lv_has ls _ ([(1, .long v37), (3, .int l3_x43), (0, .ref (hV 0))])) => ?_)
        refine lv_iinc (v := (iI (l3_x43.toInt + (-1)))) hx hb dX7_keepListed_59 hl (k := 1) rfl (iI_add2 (iI_of _) (by decide : ((-1) : Int32) = iI (-1))) (by decide) rfl (fun ls (hl : lv_has ls _ ([(3, .int (iI (l3_x43.toInt + (-1)))), (1, .long v37), (0, .ref (hV 0))])) => ?_)
        refine lv_goto (tgt := 43) hx hb dX7_keepListed_62 (by decide) ?_
        have hl : lv_has _ _ ([(3, .int (iI (l3_x43.toInt + (-1)))), (1, .long v37), (0, .ref (hV 0))]) := lv_sub hl [0, 1, 2] rfl
        exact ihx43 (iI (l3_x43.toInt + (-1))) v37 _ _ _ (iI_rng (by omega) (Int.le_trans (Int.add_le_add (b_l3_x43.2) (Int.le_refl _)) (by decide)) (by decide) (by decide)) (by have e9 : ((iI (l3_x43.toInt + (-1)))).toInt = (l3_x43.toInt + (-1)) := (iI_t (Int.le_trans (by decide) (Int.add_le_add (b_l3_x43.1) (Int.le_refl _))) (Int.le_trans (Int.add_le_add (b_l3_x43.2) (Int.le_refl _)) (by decide))); omega) hP hD hS hl
theorem dX7_makeListing_0 : decode cX7_makeListing 0 = .ok (.aload_n 0, 1) := dk_42 (by decide +kernel)
theorem dX7_makeListing_1 : decode cX7_makeListing 1 = .ok (.aload_n 0, 1) := dk_42 (by decide +kernel)
theorem dX7_makeListing_2 : decode cX7_makeListing 2 = .ok (.invokevirtual 175, 3) := dk_182 (by decide +kernel)
theorem dX7_makeListing_5 : decode cX7_makeListing 5 = .ok (.ifCond .eq 7, 3) := dk_153 (by decide +kernel)
theorem dX7_makeListing_8 : decode cX7_makeListing 8 = .ok (.iconst 0, 1) := dk_3 (by decide +kernel)
theorem dX7_makeListing_9 : decode cX7_makeListing 9 = .ok (.goto 4, 3) := dk_167 (by decide +kernel)
theorem dX7_makeListing_12 : decode cX7_makeListing 12 = .ok (.iconst (-1), 1) := dk_2 (by decide +kernel)
theorem dX7_makeListing_13 : decode cX7_makeListing 13 = .ok (.putfield 166, 3) := dk_181 (by decide +kernel)
theorem dX7_makeListing_16 : decode cX7_makeListing 16 = .ok (.aload_n 0, 1) := dk_42 (by decide +kernel)
theorem dX7_makeListing_17 : decode cX7_makeListing 17 = .ok (.getfield 166, 3) := dk_180 (by decide +kernel)
theorem dX7_makeListing_20 : decode cX7_makeListing 20 = .ok (.iconst (-1), 1) := dk_2 (by decide +kernel)
theorem dX7_makeListing_21 : decode cX7_makeListing 21 = .ok (.if_icmp .ne 4, 3) := dk_160 (by decide +kernel)
theorem dX7_makeListing_24 : decode cX7_makeListing 24 = .ok (.return_, 1) := dk_177 (by decide +kernel)
theorem dX7_makeListing_25 : decode cX7_makeListing 25 = .ok (.aload_n 0, 1) := dk_42 (by decide +kernel)
theorem dX7_makeListing_26 : decode cX7_makeListing 26 = .ok (.getfield 59, 3) := dk_180 (by decide +kernel)
theorem dX7_makeListing_29 : decode cX7_makeListing 29 = .ok (.ifCond .ne 8, 3) := dk_154 (by decide +kernel)
theorem dX7_makeListing_32 : decode cX7_makeListing 32 = .ok (.aload_n 0, 1) := dk_42 (by decide +kernel)
theorem dX7_makeListing_33 : decode cX7_makeListing 33 = .ok (.invokevirtual 178, 3) := dk_182 (by decide +kernel)
theorem dX7_makeListing_36 : decode cX7_makeListing 36 = .ok (.return_, 1) := dk_177 (by decide +kernel)
theorem dX7_makeListing_37 : decode cX7_makeListing 37 = .ok (.aload_n 0, 1) := dk_42 (by decide +kernel)
theorem dX7_makeListing_38 : decode cX7_makeListing 38 = .ok (.iconst 1, 1) := dk_4 (by decide +kernel)
theorem dX7_makeListing_39 : decode cX7_makeListing 39 = .ok (.aload_n 0, 1) := dk_42 (by decide +kernel)
theorem dX7_makeListing_40 : decode cX7_makeListing 40 = .ok (.getfield 62, 3) := dk_180 (by decide +kernel)
theorem dX7_makeListing_43 : decode cX7_makeListing 43 = .ok (.ishl, 1) := dk_120 (by decide +kernel)
theorem dX7_makeListing_44 : decode cX7_makeListing 44 = .ok (.iconst 1, 1) := dk_4 (by decide +kernel)
theorem dX7_makeListing_45 : decode cX7_makeListing 45 = .ok (.isub, 1) := dk_100 (by decide +kernel)
theorem dX7_makeListing_46 : decode cX7_makeListing 46 = .ok (.invokevirtual 99, 3) := dk_182 (by decide +kernel)
theorem dX7_makeListing_49 : decode cX7_makeListing 49 = .ok (.iconst 0, 1) := dk_3 (by decide +kernel)
theorem dX7_makeListing_50 : decode cX7_makeListing 50 = .ok (.istore_n 1, 1) := dk_60 (by decide +kernel)
theorem dX7_makeListing_51 : decode cX7_makeListing 51 = .ok (.aload_n 0, 1) := dk_42 (by decide +kernel)
theorem dX7_makeListing_52 : decode cX7_makeListing 52 = .ok (.getfield 53, 3) := dk_180 (by decide +kernel)
theorem dX7_makeListing_55 : decode cX7_makeListing 55 = .ok (.iconst 0, 1) := dk_3 (by decide +kernel)
theorem dX7_makeListing_56 : decode cX7_makeListing 56 = .ok (.iconst (-1), 1) := dk_2 (by decide +kernel)
theorem dX7_makeListing_57 : decode cX7_makeListing 57 = .ok (.iastore, 1) := dk_79 (by decide +kernel)
theorem dX7_makeListing_58 : decode cX7_makeListing 58 = .ok (.iconst 0, 1) := dk_3 (by decide +kernel)
theorem dX7_makeListing_59 : decode cX7_makeListing 59 = .ok (.istore_n 2, 1) := dk_61 (by decide +kernel)
theorem dX7_makeListing_60 : decode cX7_makeListing 60 = .ok (.iload_n 2, 1) := dk_28 (by decide +kernel)
theorem dX7_makeListing_61 : decode cX7_makeListing 61 = .ok (.ldc 181, 2) := dk_18 (by decide +kernel)
theorem dX7_makeListing_63 : decode cX7_makeListing 63 = .ok (.if_icmp .ge 85, 3) := dk_162 (by decide +kernel)
theorem dX7_makeListing_66 : decode cX7_makeListing 66 = .ok (.iload_n 1, 1) := dk_27 (by decide +kernel)
theorem dX7_makeListing_67 : decode cX7_makeListing 67 = .ok (.ifCond .lt 81, 3) := dk_155 (by decide +kernel)
theorem dX7_makeListing_70 : decode cX7_makeListing 70 = .ok (.aload_n 0, 1) := dk_42 (by decide +kernel)
theorem dX7_makeListing_71 : decode cX7_makeListing 71 = .ok (.getfield 166, 3) := dk_180 (by decide +kernel)
theorem dX7_makeListing_74 : decode cX7_makeListing 74 = .ok (.sipush 5000, 3) := dk_17 (by decide +kernel)
theorem dX7_makeListing_77 : decode cX7_makeListing 77 = .ok (.if_icmp .ge 71, 3) := dk_162 (by decide +kernel)
theorem dX7_makeListing_80 : decode cX7_makeListing 80 = .ok (.aload_n 0, 1) := dk_42 (by decide +kernel)
theorem dX7_makeListing_81 : decode cX7_makeListing 81 = .ok (.getfield 53, 3) := dk_180 (by decide +kernel)
theorem dX7_makeListing_84 : decode cX7_makeListing 84 = .ok (.iload_n 1, 1) := dk_27 (by decide +kernel)
theorem dX7_makeListing_85 : decode cX7_makeListing 85 = .ok (.aload_n 0, 1) := dk_42 (by decide +kernel)
theorem dX7_makeListing_86 : decode cX7_makeListing 86 = .ok (.iload_n 1, 1) := dk_27 (by decide +kernel)
theorem dX7_makeListing_87 : decode cX7_makeListing 87 = .ok (.invokevirtual 182, 3) := dk_182 (by decide +kernel)
theorem dX7_makeListing_90 : decode cX7_makeListing 90 = .ok (.iastore, 1) := dk_79 (by decide +kernel)
theorem dX7_makeListing_91 : decode cX7_makeListing 91 = .ok (.aload_n 0, 1) := dk_42 (by decide +kernel)
theorem dX7_makeListing_92 : decode cX7_makeListing 92 = .ok (.getfield 53, 3) := dk_180 (by decide +kernel)
theorem dX7_makeListing_95 : decode cX7_makeListing 95 = .ok (.iload_n 1, 1) := dk_27 (by decide +kernel)
theorem dX7_makeListing_96 : decode cX7_makeListing 96 = .ok (.iaload, 1) := dk_46 (by decide +kernel)
theorem dX7_makeListing_97 : decode cX7_makeListing 97 = .ok (.iconst (-1), 1) := dk_2 (by decide +kernel)
theorem dX7_makeListing_98 : decode cX7_makeListing 98 = .ok (.if_icmp .ne 9, 3) := dk_160 (by decide +kernel)
theorem dX7_makeListing_101 : decode cX7_makeListing 101 = .ok (.iinc 1 (-1), 3) := dk_132 (by decide +kernel)
theorem dX7_makeListing_104 : decode cX7_makeListing 104 = .ok (.goto 38, 3) := dk_167 (by decide +kernel)
theorem dX7_makeListing_107 : decode cX7_makeListing 107 = .ok (.aload_n 0, 1) := dk_42 (by decide +kernel)
theorem dX7_makeListing_108 : decode cX7_makeListing 108 = .ok (.iload_n 1, 1) := dk_27 (by decide +kernel)
theorem dX7_makeListing_109 : decode cX7_makeListing 109 = .ok (.invokevirtual 185, 3) := dk_182 (by decide +kernel)
theorem dX7_makeListing_112 : decode cX7_makeListing 112 = .ok (.ifCond .eq 30, 3) := dk_153 (by decide +kernel)
theorem dX7_makeListing_115 : decode cX7_makeListing 115 = .ok (.iload_n 1, 1) := dk_27 (by decide +kernel)
theorem dX7_makeListing_116 : decode cX7_makeListing 116 = .ok (.iconst 1, 1) := dk_4 (by decide +kernel)
theorem dX7_makeListing_117 : decode cX7_makeListing 117 = .ok (.iadd, 1) := dk_96 (by decide +kernel)
theorem dX7_makeListing_118 : decode cX7_makeListing 118 = .ok (.aload_n 0, 1) := dk_42 (by decide +kernel)
theorem dX7_makeListing_119 : decode cX7_makeListing 119 = .ok (.getfield 59, 3) := dk_180 (by decide +kernel)
theorem dX7_makeListing_122 : decode cX7_makeListing 122 = .ok (.if_icmp .ge 16, 3) := dk_162 (by decide +kernel)
theorem dX7_makeListing_125 : decode cX7_makeListing 125 = .ok (.iinc 1 1, 3) := dk_132 (by decide +kernel)
theorem dX7_makeListing_128 : decode cX7_makeListing 128 = .ok (.aload_n 0, 1) := dk_42 (by decide +kernel)
theorem dX7_makeListing_129 : decode cX7_makeListing 129 = .ok (.getfield 53, 3) := dk_180 (by decide +kernel)
theorem dX7_makeListing_132 : decode cX7_makeListing 132 = .ok (.iload_n 1, 1) := dk_27 (by decide +kernel)
theorem dX7_makeListing_133 : decode cX7_makeListing 133 = .ok (.iconst (-1), 1) := dk_2 (by decide +kernel)
theorem dX7_makeListing_134 : decode cX7_makeListing 134 = .ok (.iastore, 1) := dk_79 (by decide +kernel)
theorem dX7_makeListing_135 : decode cX7_makeListing 135 = .ok (.goto 7, 3) := dk_167 (by decide +kernel)
theorem dX7_makeListing_138 : decode cX7_makeListing 138 = .ok (.aload_n 0, 1) := dk_42 (by decide +kernel)
theorem dX7_makeListing_139 : decode cX7_makeListing 139 = .ok (.invokevirtual 178, 3) := dk_182 (by decide +kernel)
theorem dX7_makeListing_142 : decode cX7_makeListing 142 = .ok (.iinc 2 1, 3) := dk_132 (by decide +kernel)
theorem dX7_makeListing_145 : decode cX7_makeListing 145 = .ok (.goto (-85), 3) := dk_167 (by decide +kernel)
theorem dX7_makeListing_148 : decode cX7_makeListing 148 = .ok (.return_, 1) := dk_177 (by decide +kernel)
def wsMX7_makeListing : List Cond := .code yX7_makeListing cX7_makeListing 3 none :: ([.fieldLink RX7 166 "OptimaWorks$ValueDesk" "listed" "I", .fieldLink RX7 59 "OptimaWorks$ValueDesk" "holders" "I", .fieldLink RX7 62 "OptimaWorks$ValueDesk" "rules" "I", .fieldLink RX7 53 "OptimaWorks$ValueDesk" "member" "[I", .constant RX7 181 1000000] ++ wsX70 ++ (wsV RX7 175 RX7 yX7_isListable wsMX7_isListable) ++ (wsV RX7 99 RX7 yX7_narrow wsMX7_narrow) ++ (wsV RX7 182 RX7 yX7_nextValue wsMX7_nextValue) ++ (wsV RX7 185 RX7 yX7_keepsAt wsMX7_keepsAt) ++ (wsV RX7 178 RX7 yX7_keepListed wsMX7_keepListed))
theorem iwsMX7_makeListing_in7 : ∀ w ∈ wsX70, w ∈ wsMX7_makeListing := fun _ h => List.mem_cons_of_mem _ (List.mem_append_left _ (List.mem_append_left _ (List.mem_append_left _ (List.mem_append_left _ (List.mem_append_left _ (List.mem_append_right _ h))))))
theorem gwsMX7_makeListing_0 : GoodIn wsMX7_makeListing (wsV RX7 175 RX7 yX7_isListable wsMX7_isListable) := goodIn_sub (fun _ h => List.mem_cons_of_mem _ (List.mem_append_left _ (List.mem_append_left _ (List.mem_append_left _ (List.mem_append_left _ (List.mem_append_right _ h)))))) (gdV (by decide +kernel) gdwsMX7_isListable)
theorem gwsMX7_makeListing_1 : GoodIn wsMX7_makeListing (wsV RX7 99 RX7 yX7_narrow wsMX7_narrow) := goodIn_sub (fun _ h => List.mem_cons_of_mem _ (List.mem_append_left _ (List.mem_append_left _ (List.mem_append_left _ (List.mem_append_right _ h))))) (gdV (by decide +kernel) gdwsMX7_narrow)
theorem gwsMX7_makeListing_2 : GoodIn wsMX7_makeListing (wsV RX7 182 RX7 yX7_nextValue wsMX7_nextValue) := goodIn_sub (fun _ h => List.mem_cons_of_mem _ (List.mem_append_left _ (List.mem_append_left _ (List.mem_append_right _ h)))) (gdV (by decide +kernel) gdwsMX7_nextValue)
theorem gwsMX7_makeListing_3 : GoodIn wsMX7_makeListing (wsV RX7 185 RX7 yX7_keepsAt wsMX7_keepsAt) := goodIn_sub (fun _ h => List.mem_cons_of_mem _ (List.mem_append_left _ (List.mem_append_right _ h))) (gdV (by decide +kernel) gdwsMX7_keepsAt)
theorem gwsMX7_makeListing_4 : GoodIn wsMX7_makeListing (wsV RX7 178 RX7 yX7_keepListed wsMX7_keepListed) := goodIn_sub (fun _ h => List.mem_cons_of_mem _ (List.mem_append_right _ h)) (gdV (by decide +kernel) gdwsMX7_keepListed)
theorem gdwsMX7_makeListing : wsMX7_makeListing.all goodWord = true := gdC rfl (gdA (gdA (gdA (gdA (gdA (gdA (by decide +kernel : ([.fieldLink RX7 166 "OptimaWorks$ValueDesk" "listed" "I", .fieldLink RX7 59 "OptimaWorks$ValueDesk" "holders" "I", .fieldLink RX7 62 "OptimaWorks$ValueDesk" "rules" "I", .fieldLink RX7 53 "OptimaWorks$ValueDesk" "member" "[I", .constant RX7 181 1000000] : List Cond).all goodWord = true) gdwsX70) (gdV (by decide +kernel) gdwsMX7_isListable)) (gdV (by decide +kernel) gdwsMX7_narrow)) (gdV (by decide +kernel) gdwsMX7_nextValue)) (gdV (by decide +kernel) gdwsMX7_keepsAt)) (gdV (by decide +kernel) gdwsMX7_keepListed))
set_option maxHeartbeats 4000000 in
set_option maxRecDepth 100000 in
/-- the listing is made -/
theorem m_X7_makeListing (l : Launch) (dC : Nat → ClassId) (dI : Nat → Nat → Nat) (hV : Nat → Nat) (aV : Nat → Nat) (kV : Nat → ClassId) (iV_holders : Int32) (iV_rules : Int32) (fV_pairs : Nat → Int32) (fV_domain : Nat → Int32) (fV_kind : Nat → Int32) (fV_a : Nat → Int32) (fV_b : Nat → Int32) (fV_c : Nat → Int32) (fV_rulePairs : Nat → Int32) (fV_lastHolder : Nat → Int32) (fV_now : Nat → Int32) (iV_doneFor : Int32) (iV_changed : Int32) (gV_fore : Nat → Int64) (gV_back : Nat → Int64) (fV_together : Nat → Int32) (fV_member : Nat → Int32) (gV_list : Nat → Int64) (dV_list : Nat) (nV_list : Nat) (iV_listed : Int32) (iV_listDone : Int32) (b_iV_holders : 0 ≤ iV_holders.toInt ∧ iV_holders.toInt ≤ 10) (b_iV_rules : 0 ≤ iV_rules.toInt ∧ iV_rules.toInt ≤ 12) (b_fV_kind : ∀ q : Nat, 0 ≤ (fV_kind q).toInt ∧ (fV_kind q).toInt ≤ 4) (b_iV_changed : 0 ≤ iV_changed.toInt ∧ iV_changed.toInt ≤ 1) (b_fV_member : ∀ q : Nat, (-1) ≤ (fV_member q).toInt ∧ (fV_member q).toInt ≤ 15) (b_nV_list : 0 ≤ nV_list ∧ nV_list ≤ 20000) (b_iV_listed : (-1) ≤ iV_listed.toInt ∧ iV_listed.toInt ≤ 5000) (b_iV_listDone : 0 ≤ iV_listDone.toInt ∧ iV_listDone.toInt ≤ 1) (b_RuV : RuV fV_kind fV_a fV_b fV_c fV_lastHolder) (b_lst : iV_listed.toInt ≤ ((nV_list : Nat) : Int)) (sz : Nat) : Met l yX7_makeListing wsMX7_makeListing ({ frames := 4, cells := 10001, slots := 100000, locals := 99 }) (va_Pc [.ref (hV 0)] (fun U => U.heap.size = sz ∧ va_P (dC, dI) vwCl (WV hV aV kV iV_holders iV_rules fV_pairs fV_domain fV_kind fV_a fV_b fV_c fV_rulePairs fV_lastHolder fV_now iV_doneFor iV_changed gV_fore gV_back fV_together fV_member gV_list dV_list nV_list iV_listed iV_listDone) U.heap ∧ va_K (dC, dI) vwCl (tV kV) U ∧ va_D (fun _ => True) (WV hV aV kV iV_holders iV_rules fV_pairs fV_domain fV_kind fV_a fV_b fV_c fV_rulePairs fV_lastHolder fV_now iV_doneFor iV_changed gV_fore gV_back fV_together fV_member gV_list dV_list nV_list iV_listed iV_listDone))) (va_Qv (fun (u : (Nat → Int32) × (Int32) × (Int32) × (Nat → Int64) × (Nat → Int64) × (Nat → Int32) × (Nat → Int32) × (Nat → Int64) × (Nat) × (Nat) × (Int32)) => (0 ≤ (u.2.2.1).toInt ∧ (u.2.2.1).toInt ≤ 1) ∧ (∀ q : Nat, (-1) ≤ ((u.2.2.2.2.2.2.1) q).toInt ∧ ((u.2.2.2.2.2.2.1) q).toInt ≤ 15) ∧ (0 ≤ (u.2.2.2.2.2.2.2.2.2.1) ∧ (u.2.2.2.2.2.2.2.2.2.1) ≤ 20000) ∧ ((-1) ≤ (u.2.2.2.2.2.2.2.2.2.2).toInt ∧ (u.2.2.2.2.2.2.2.2.2.2).toInt ≤ 5000) ∧ ((u.2.2.2.2.2.2.2.2.2.2).toInt ≤ (((u.2.2.2.2.2.2.2.2.2.1) : Nat) : Int)) ∧ (nV_list ≤ (u.2.2.2.2.2.2.2.2.2.1))) (fun (u : (Nat → Int32) × (Int32) × (Int32) × (Nat → Int64) × (Nat → Int64) × (Nat → Int32) × (Nat → Int32) × (Nat → Int64) × (Nat) × (Nat) × (Int32)) t => va_P (dC, dI) vwCl (WV hV aV kV iV_holders iV_rules fV_pairs fV_domain fV_kind fV_a fV_b fV_c fV_rulePairs fV_lastHolder (u.1) (u.2.1) (u.2.2.1) (u.2.2.2.1) (u.2.2.2.2.1) (u.2.2.2.2.2.1) (u.2.2.2.2.2.2.1) (u.2.2.2.2.2.2.2.1) (u.2.2.2.2.2.2.2.2.1) (u.2.2.2.2.2.2.2.2.2.1) (u.2.2.2.2.2.2.2.2.2.2) iV_listDone) t.heap ∧ va_D (va_A (WV hV aV kV iV_holders iV_rules fV_pairs fV_domain fV_kind fV_a fV_b fV_c fV_rulePairs fV_lastHolder fV_now iV_doneFor iV_changed gV_fore gV_back fV_together fV_member gV_list dV_list nV_list iV_listed iV_listDone) sz) (WV hV aV kV iV_holders iV_rules fV_pairs fV_domain fV_kind fV_a fV_b fV_c fV_rulePairs fV_lastHolder (u.1) (u.2.1) (u.2.2.1) (u.2.2.2.1) (u.2.2.2.2.1) (u.2.2.2.2.2.1) (u.2.2.2.2.2.2.1) (u.2.2.2.2.2.2.2.1) (u.2.2.2.2.2.2.2.2.1) (u.2.2.2.2.2.2.2.2.2.1) (u.2.2.2.2.2.2.2.2.2.2) iV_listDone) ∧ t.heap.size + (nV_list / 4) ≤ sz + ((u.2.2.2.2.2.2.2.2.2.1) / 4) ∧ nS sz t.heap + (2 * nV_list) ≤ (2 * (u.2.2.2.2.2.2.2.2.2.1))) (va_A (WV hV aV kV iV_holders iV_rules fV_pairs fV_domain fV_kind fV_a fV_b fV_c fV_rulePairs fV_lastHolder fV_now iV_doneFor iV_changed gV_fore gV_back fV_together fV_member gV_list dV_list nV_list iV_listed iV_listDone) sz)) 10001 100000 (va_A (WV hV aV kV iV_holders iV_rules fV_pairs fV_domain fV_kind fV_a fV_b fV_c fV_rulePairs fV_lastHolder fV_now iV_doneFor iV_changed gV_fore gV_back fV_together fV_member gV_list dV_list nV_list iV_listed iV_listDone) sz) := by
  refine Met.ofW (cc := cX7_makeListing) (maxL := 3) (ret := none) (by decide) rfl ?_
  intro p e s m args below meth c s₁ B hml hv
  obtain ⟨rfl, hsz, hP, hK, hD0⟩ := hv
  have hx := B.exec
  have hb := B.bytes
  have hr := B.returns
  have hts := atoms_spec (ws := wsMX7_makeListing) B.pre
  have hown : s.vm.findClass RX7 = some m.cls := findClass_of_methodNamed B.named
  have hlocks := B.notSynchronized
  subst hsz
  have hD := hD0.self (sz := s.heap.size)
  generalize hAe : va_A (WV hV aV kV iV_holders iV_rules fV_pairs fV_domain fV_kind fV_a fV_b fV_c fV_rulePairs fV_lastHolder fV_now iV_doneFor iV_changed gV_fore gV_back fV_together fV_member gV_list dV_list nV_list iV_listed iV_listDone) s.heap.size = A at hD ⊢
  have hA : ∀ q : Nat, s.heap.size ≤ q → A q := fun q h => by rw [← hAe]; exact Or.inr h
  have hS : va_S A s.heap s.heap [] := va_S.rf
  have hl := lv_entry ([.ref (hV 0)]) (n := 3) (Nat.le_of_ble_eq_true rfl)
  rw [lg_entry_eq]
  generalize (lg_sl ([.ref (hV 0)]) ++ List.replicate (3 - (lg_sl ([.ref (hV 0)])).length) Slot.unset).toArray = ls at hl ⊢
  have hl : lv_has ls 3 [(0, .ref (hV 0))] := hl
  refine W.widen (k := (nV_list / 4 - (nV_list / 4))) (n := (2 * nV_list - (2 * nV_list))) (Nat.zero_le _) (Nat.zero_le _) ?_
  refine lv_aload_n hx hb dX7_makeListing_0 rfl (lv_at hl 0 rfl) ?_
  refine lv_aload_n hx hb dX7_makeListing_1 rfl (lv_at hl 0 rfl) ?_
  have hFc := allFree hD hS hA
  refine va_calli (va_runV (As := []) (rest := [.ref (hV 0)]) ⟨hx, hb, hml, hown, hts⟩ (m_X7_isListable l dC dI hV aV kV iV_holders iV_rules fV_pairs fV_domain fV_kind fV_a fV_b fV_c fV_rulePairs fV_lastHolder fV_now iV_doneFor iV_changed gV_fore gV_back fV_together fV_member gV_list dV_list nV_list iV_listed iV_listDone (b_iV_holders) (b_iV_rules) b_fV_kind (b_iV_changed) b_fV_member (by first | exact b_nV_list | with_reducible assumption | exact ⟨by omega, by omega⟩ | assumption) (b_iV_listed) (b_iV_listDone) (by first | with_reducible assumption | omega | assumption) (by first | with_reducible assumption | omega | (rw [iI_t (by omega) (by omega)]; omega) | (have h8 : (-1 : Int32).toInt = -1 := (by decide); have h7 : (0 : Int32).toInt = 0 := (by decide); omega)) s.heap.size) (cwV 0 hts gwsMX7_makeListing_0 rfl rfl rfl (by decide +kernel) ⟨by (dsimp only [headSpec] <;> omega), by (dsimp only [headSpec] <;> omega)⟩) (fz_pre (va_recv hK hP (ci := 7) (q0 := 0) rfl rfl) hP hK hD) rfl rfl hl.1 rfl (lv_room (Nat.le_of_ble_eq_true rfl)) dX7_makeListing_2 ⟨by (dsimp only [headSpec] <;> omega), by (dsimp only [headSpec] <;> omega)⟩) hS (fun q _ h => hFc q h) hFc (fun r1 u t9_ H locs ht hvm hw9 hB9 hz1 hk1 hS => ?_)
  have b_r1 := hw9
  try dsimp only at b_r1
  have hP : va_P (dC, dI) vwCl (WV hV aV kV iV_holders iV_rules fV_pairs fV_domain fV_kind fV_a fV_b fV_c fV_rulePairs fV_lastHolder fV_now iV_doneFor iV_changed gV_fore gV_back fV_together fV_member gV_list dV_list nV_list iV_listed iV_listDone) H := fz_P ht hB9.1
  have hD : va_D A (WV hV aV kV iV_holders iV_rules fV_pairs fV_domain fV_kind fV_a fV_b fV_c fV_rulePairs fV_lastHolder fV_now iV_doneFor iV_changed gV_fore gV_back fV_together fV_member gV_list dV_list nV_list iV_listed iV_listDone) := hB9.2.weaken (fun _ q _ h => hFc q.1 h)
  refine W.known (fun hzk hnk => ?_)
  refine W.widen (k := 5000) (n := 40000) (by omega) (by omega) ?_
  refine W.cut (pc := 13) (fun H locs ls stk => ∃ (k0_j10 : Int32), ((-1) ≤ k0_j10.toInt ∧ k0_j10.toInt ≤ 0) ∧ (H.size + (nV_list / 4) ≤ s.heap.size + (nV_list / 4) ∧ nS s.heap.size H + (2 * nV_list) ≤ (2 * nV_list)) ∧  stk = [.int k0_j10, .ref (hV 0)] ∧ va_P (dC, dI) vwCl (WV hV aV kV iV_holders iV_rules fV_pairs fV_domain fV_kind fV_a fV_b fV_c fV_rulePairs fV_lastHolder fV_now iV_doneFor iV_changed gV_fore gV_back fV_together fV_member gV_list dV_list nV_list iV_listed iV_listDone) H ∧ va_D A (WV hV aV kV iV_holders iV_rules fV_pairs fV_domain fV_kind fV_a fV_b fV_c fV_rulePairs fV_lastHolder fV_now iV_doneFor iV_changed gV_fore gV_back fV_together fV_member gV_list dV_list nV_list iV_listed iV_listDone) ∧ va_S A s.heap H locs ∧ lv_has ls 3 [(0, .ref (hV 0))]) (fun join10 => ?_) ?_
  · refine W.tight (cells2 := (nV_list / 4 - (nV_list / 4))) (slots2 := (2 * nV_list - (2 * nV_list))) hzk hnk ?_
    refine lv_if_eq (tgt := 12) hx hb dX7_makeListing_5 (by decide) (fun c_5 => ?_) (fun c_5 => ?_)
    · have t_5 : r1.toInt = 0 := toI_eq c_5 rfl (by decide : (0 : Int32).toInt = 0)
      refine lv_iconst (v := (-1)) hx hb dX7_makeListing_12 (by decide) ?_
      have hl : lv_has _ _ ([(0, .ref (hV 0))]) := lv_sub hl [0] rfl
      refine W.known (fun hza hna => ?_)
      refine W.widen (k := 5000) (n := 40000) (by omega) (by omega) ?_
      exact join10 _ _ _ _ ⟨(-1), (show (-1) ≤ ((-1) : Int32).toInt ∧ ((-1) : Int32).toInt ≤ 0 from by decide), ⟨by omega, by omega⟩, rfl, hP, hD, hS, hl⟩
    · have t_5 : ¬ r1.toInt = 0 := toI_neq c_5 rfl (by decide : (0 : Int32).toInt = 0)
      refine lv_iconst (v := 0) hx hb dX7_makeListing_8 (by decide) ?_
      refine lv_goto (tgt := 13) hx hb dX7_makeListing_9 (by decide) ?_
      have hl : lv_has _ _ ([(0, .ref (hV 0))]) := lv_sub hl [0] rfl
      refine W.known (fun hza hna => ?_)
      refine W.widen (k := 5000) (n := 40000) (by omega) (by omega) ?_
      exact join10 _ _ _ _ ⟨0, (show (-1) ≤ (0 : Int32).toInt ∧ (0 : Int32).toInt ≤ 0 from by decide), ⟨by omega, by omega⟩, rfl, hP, hD, hS, hl⟩
  · rintro H locs ls stk ⟨k0_j10, b_k0_j10, ⟨hzj, hnj⟩, rfl, hP, hD, hS, hl⟩
    refine W.tight (cells2 := (nV_list / 4 - (nV_list / 4))) (slots2 := (2 * nV_list - (2 * nV_list))) (tg1 hzj hS.1) (tg2 hnj) ?_
    refine va_put (D := (dC, dI)) (ci := 7) (v := .int k0_j10) (ty := .int) (C := RX7) (T := TX7) (N := 20) hx hb hts iwsMX7_makeListing_in7 tyX7 tyX7_ok nmX7 hown hK hP hD hS 0 rfl rfl 18 (by decide) (hts (.fieldLink RX7 166 "OptimaWorks$ValueDesk" "listed" "I") (by decide +kernel)) (fun _ h9 => h9) rfl (by decide +kernel) rfl rfl (Nat.le_of_ble_eq_true rfl) dX7_makeListing_13 (fun H locs hP hD hS => ?_)
    have hP : va_P (dC, dI) vwCl (WV hV aV kV iV_holders iV_rules fV_pairs fV_domain fV_kind fV_a fV_b fV_c fV_rulePairs fV_lastHolder fV_now iV_doneFor iV_changed gV_fore gV_back fV_together fV_member gV_list dV_list nV_list k0_j10 iV_listDone) H := hP
    have hD : va_D A (WV hV aV kV iV_holders iV_rules fV_pairs fV_domain fV_kind fV_a fV_b fV_c fV_rulePairs fV_lastHolder fV_now iV_doneFor iV_changed gV_fore gV_back fV_together fV_member gV_list dV_list nV_list k0_j10 iV_listDone) := hD
    refine lv_aload_n hx hb dX7_makeListing_16 rfl (lv_at hl 0 rfl) ?_
    refine va_get (D := (dC, dI)) (ci := 7) (v := .int k0_j10) (C := RX7) (T := TX7) (N := 20) hx hb hts iwsMX7_makeListing_in7 hown hK hP 0 rfl rfl 18 (by decide) (hts (.fieldLink RX7 166 "OptimaWorks$ValueDesk" "listed" "I") (by decide +kernel)) (fun _ h9 => h9) rfl dX7_makeListing_17 ?_
    refine lv_iconst (v := (-1)) hx hb dX7_makeListing_20 (by decide) ?_
    refine lv_icmp_ne (tgt := 25) hx hb dX7_makeListing_21 (by decide) (fun c_21 => ?_) (fun c_21 => ?_)
    · have t_21 : k0_j10.toInt ≠ (-1) := toI_ne c_21 rfl (by decide : ((-1) : Int32).toInt = (-1))
      refine lv_aload_n hx hb dX7_makeListing_25 rfl (lv_at hl 0 rfl) ?_
      refine va_get (D := (dC, dI)) (ci := 7) (v := .int iV_holders) (C := RX7) (T := TX7) (N := 20) hx hb hts iwsMX7_makeListing_in7 hown hK hP 0 rfl rfl 0 (by decide) (hts (.fieldLink RX7 59 "OptimaWorks$ValueDesk" "holders" "I") (by decide +kernel)) (fun _ h9 => h9) rfl dX7_makeListing_26 ?_
      refine lv_if_ne (tgt := 37) hx hb dX7_makeListing_29 (by decide) (fun c_29 => ?_) (fun c_29 => ?_)
      · have t_29 : iV_holders.toInt ≠ 0 := toI_ne c_29 rfl (by decide : (0 : Int32).toInt = 0)
        refine lv_aload_n hx hb dX7_makeListing_37 rfl (lv_at hl 0 rfl) ?_
        refine lv_iconst (v := 1) hx hb dX7_makeListing_38 (by decide) ?_
        refine lv_aload_n hx hb dX7_makeListing_39 rfl (lv_at hl 0 rfl) ?_
        refine va_get (D := (dC, dI)) (ci := 7) (v := .int iV_rules) (C := RX7) (T := TX7) (N := 20) hx hb hts iwsMX7_makeListing_in7 hown hK hP 0 rfl rfl 1 (by decide) (hts (.fieldLink RX7 62 "OptimaWorks$ValueDesk" "rules" "I") (by decide +kernel)) (fun _ h9 => h9) rfl dX7_makeListing_40 ?_
        refine lv_ishl hx hb dX7_makeListing_43 ?_
        refine lv_topi (fun v2 hv2 => ?_)
        clear hv2
        refine lv_iconst (v := 1) hx hb dX7_makeListing_44 (by decide) ?_
        refine lv_isub hx hb dX7_makeListing_45 ?_
        refine lv_topi (fun y3 hy3 => ?_)
        obtain rfl : (iI (v2.toInt - 1)) = y3 := (hy3.trans (iI_sub2 (iI_of _) (by decide : (1 : Int32) = iI 1))).symm
        have hFc := allFree hD hS hA
        refine va_callv (va_runV (As := [.int (iI (v2.toInt - 1))]) (rest := []) ⟨hx, hb, hml, hown, hts⟩ (m_X7_narrow l dC dI hV aV kV iV_holders iV_rules fV_pairs fV_domain fV_kind fV_a fV_b fV_c fV_rulePairs fV_lastHolder fV_now iV_doneFor iV_changed gV_fore gV_back fV_together fV_member gV_list dV_list nV_list k0_j10 iV_listDone (iI (v2.toInt - 1)) (b_iV_holders) (b_iV_rules) b_fV_kind (b_iV_changed) b_fV_member (by first | exact b_nV_list | with_reducible assumption | exact ⟨by omega, by omega⟩ | assumption) (⟨b_k0_j10.1, Int.le_trans b_k0_j10.2 (by decide)⟩) (b_iV_listDone) (by first | with_reducible assumption | omega | assumption) (by first | with_reducible assumption | omega | (rw [iI_t (by omega) (by omega)]; omega) | (have h8 : (-1 : Int32).toInt = -1 := (by decide); have h7 : (0 : Int32).toInt = 0 := (by decide); omega)) H.size) (cwV 1 hts gwsMX7_makeListing_1 rfl rfl rfl (by decide +kernel) ⟨by (dsimp only [headSpec] <;> omega), by (dsimp only [headSpec] <;> omega)⟩) (fz_pre (va_recv hK hP (ci := 7) (q0 := 0) rfl rfl) hP hK hD) rfl rfl hl.1 rfl (lv_room (Nat.le_of_ble_eq_true rfl)) dX7_makeListing_46 ⟨by (dsimp only [headSpec] <;> omega), by (dsimp only [headSpec] <;> omega)⟩) hS (fun q _ h => hFc q h) hFc (fun u t9_ H locs ht hvm hw9 hB9 hz1 hk1 hS => ?_)
        revert u hw9 hB9
        refine fz_p7 ?_
        intro fV_now_4 iV_doneFor_4 iV_changed_4 gV_fore_4 gV_back_4 fV_together_4 fV_member_4 hw9 hB9
        try dsimp only at hw9 hB9
        revert hw9
        refine fz_a2 ?_
        intro b_iV_changed_4 b_fV_member_4
        have hP : va_P (dC, dI) vwCl (WV hV aV kV iV_holders iV_rules fV_pairs fV_domain fV_kind fV_a fV_b fV_c fV_rulePairs fV_lastHolder fV_now_4 iV_doneFor_4 iV_changed_4 gV_fore_4 gV_back_4 fV_together_4 fV_member_4 gV_list dV_list nV_list k0_j10 iV_listDone) H := fz_P ht hB9.1
        have hD : va_D A (WV hV aV kV iV_holders iV_rules fV_pairs fV_domain fV_kind fV_a fV_b fV_c fV_rulePairs fV_lastHolder fV_now_4 iV_doneFor_4 iV_changed_4 gV_fore_4 gV_back_4 fV_together_4 fV_member_4 gV_list dV_list nV_list k0_j10 iV_listDone) := hB9.2.weaken (fun _ q _ h => hFc q.1 h)
        refine lv_iconst (v := 0) hx hb dX7_makeListing_49 (by decide) ?_
        refine lv_istore_n hx hb dX7_makeListing_50 rfl hl (by decide) rfl (fun ls (hl : lv_has ls _ ([(1, .int 0), (0, .ref (hV 0))])) => ?_)
        refine lv_aload_n hx hb dX7_makeListing_51 rfl (lv_at hl 1 rfl) ?_
        refine va_get (D := (dC, dI)) (ci := 7) (v := .ref (aV 12)) (C := RX7) (T := TX7) (N := 20) hx hb hts iwsMX7_makeListing_in7 hown hK hP 0 rfl rfl 16 (by decide) (hts (.fieldLink RX7 53 "OptimaWorks$ValueDesk" "member" "[I") (by decide +kernel)) (fun _ h9 => h9) rfl dX7_makeListing_52 ?_
        refine lv_iconst (v := 0) hx hb dX7_makeListing_55 (by decide) ?_
        refine lv_iconst (v := (-1)) hx hb dX7_makeListing_56 (by decide) ?_
        refine va_iast (cA := kV 12) (n := 10) (f := fV_member_4) hx hb hK hP hD hS 13 12 rfl rfl (show ¬ ((0 : Int32) < 0 ∨ 10 ≤ (0 : Int32).toNatClampNeg) by decide) dX7_makeListing_57 (fun H locs hP hD hS => ?_)
        obtain ⟨u5, hu5⟩ : ∃ f9, f9 = upd fV_member_4 (0 : Int32).toNatClampNeg ((-1) : Int32) := ⟨_, rfl⟩
        have hP : va_P (dC, dI) vwCl (WV hV aV kV iV_holders iV_rules fV_pairs fV_domain fV_kind fV_a fV_b fV_c fV_rulePairs fV_lastHolder fV_now_4 iV_doneFor_4 iV_changed_4 gV_fore_4 gV_back_4 fV_together_4 u5 gV_list dV_list nV_list k0_j10 iV_listDone) H := by rw [hu5]; exact hP
        have hD : va_D A (WV hV aV kV iV_holders iV_rules fV_pairs fV_domain fV_kind fV_a fV_b fV_c fV_rulePairs fV_lastHolder fV_now_4 iV_doneFor_4 iV_changed_4 gV_fore_4 gV_back_4 fV_together_4 u5 gV_list dV_list nV_list k0_j10 iV_listDone) := by rw [hu5]; exact hD
        have b_u5 : ∀ q : Nat, -1 ≤ (u5 q).toInt ∧ (u5 q).toInt ≤ 15 := by rw [hu5]; exact upd_r b_fV_member_4 (by first | assumption | decide)
        have b1_u5 : u5 = upd fV_member_4 (0 : Int32).toNatClampNeg (-1) := hu5
        clear hu5
        refine lv_iconst (v := 0) hx hb dX7_makeListing_58 (by decide) ?_
        refine lv_istore_n hx hb dX7_makeListing_59 rfl hl (by decide) rfl (fun ls (hl : lv_has ls _ ([(2, .int 0), (1, .int 0), (0, .ref (hV 0))])) => ?_)
        have hl : lv_has _ _ ([(2, .int 0), (1, .int 0), (0, .ref (hV 0))]) := lv_sub hl [0, 1, 2] rfl
        refine (fun (loop : ∀ (n9 : Nat) (fV_member_x60 : Nat → Int32) (gV_list_x60 : Nat → Int64) (dV_list_x60 : Nat) (nV_list_x60 : Nat) (iV_listed_x60 : Int32) (l2_x60 : Int32) (l1_x60 : Int32) (H : Heap) (locs : List Loc) (ls : Array Slot), (∀ q : Nat, (-1) ≤ (fV_member_x60 q).toInt ∧ (fV_member_x60 q).toInt ≤ 15) → (0 ≤ nV_list_x60 ∧ nV_list_x60 ≤ 20000) → ((-1) ≤ iV_listed_x60.toInt ∧ iV_listed_x60.toInt ≤ 5000) → (0 ≤ l2_x60.toInt ∧ l2_x60.toInt ≤ 1000000) → ((-1) ≤ l1_x60.toInt ∧ l1_x60.toInt ≤ 9) → (iV_listed_x60.toInt ≤ ((nV_list_x60 : Nat) : Int)) → (MemC fV_member_x60 l1_x60.toInt) → (l1_x60.toInt < iV_holders.toInt) → (0 ≤ iV_listed_x60.toInt) → (nV_list ≤ nV_list_x60) → (1000000 - l2_x60.toInt < ((n9 : Nat) : Int)) → va_P (dC, dI) vwCl (WV hV aV kV iV_holders iV_rules fV_pairs fV_domain fV_kind fV_a fV_b fV_c fV_rulePairs fV_lastHolder fV_now_4 iV_doneFor_4 iV_changed_4 gV_fore_4 gV_back_4 fV_together_4 fV_member_x60 gV_list_x60 dV_list_x60 nV_list_x60 iV_listed_x60 iV_listDone) H → va_D A (WV hV aV kV iV_holders iV_rules fV_pairs fV_domain fV_kind fV_a fV_b fV_c fV_rulePairs fV_lastHolder fV_now_4 iV_doneFor_4 iV_changed_4 gV_fore_4 gV_back_4 fV_together_4 fV_member_x60 gV_list_x60 dV_list_x60 nV_list_x60 iV_listed_x60 iV_listDone) → va_S A s.heap H locs → lv_has ls 3 [(2, .int l2_x60), (1, .int l1_x60), (0, .ref (hV 0))] → W p l e _ s m _ below meth c H locs (nV_list_x60 / 4 - (nV_list / 4)) (2 * nV_list_x60 - (2 * nV_list)) _ (F0 m 60 ls [])) => loop (1000001) u5 gV_list dV_list nV_list k0_j10 0 0 _ _ _ b_u5 (by first | exact b_nV_list | with_reducible assumption | exact ⟨by omega, by omega⟩ | assumption) (⟨b_k0_j10.1, Int.le_trans b_k0_j10.2 (by decide)⟩) (show 0 ≤ (0 : Int32).toInt ∧ (0 : Int32).toInt ≤ 1000000 from by decide) (show (-1) ≤ (0 : Int32).toInt ∧ (0 : Int32).toInt ≤ 9 from by decide) (by first | with_reducible assumption | omega | (rw [iI_t (by omega) (by omega)]; omega) | (have h8 : (-1 : Int32).toInt = -1 := (by decide); have h7 : (0 : Int32).toInt = 0 := (by decide); omega)) (show MemC u5 (0 : Int32).toInt from fun q hq => absurd hq (by have h7 : (0 : Int32).toInt = 0 := (by decide); omega)) (show (0 : Int32).toInt < iV_holders.toInt from by have h7 : (0 : Int32).toInt = 0 := (by decide); omega) (show 0 ≤ k0_j10.toInt from by omega) (show nV_list ≤ nV_list from by omega) ((by have e9 : (0 : Int32).toInt = 0 := (by decide : (0 : Int32).toInt = 0); omega)) hP hD hS hl) ?_
        intro n9
        induction n9 with
        | zero => intro fV_member_x60 gV_list_x60 dV_list_x60 nV_list_x60 iV_listed_x60 l2_x60 l1_x60 H locs ls b_fV_member_x60 b_nV_list_x60 b_iV_listed_x60 b_l2_x60 b_l1_x60 b_lst_x60 hMc hah hli hgm0_x60 hf9; exact False.elim (by omega)
        | succ n9 ihx60 =>
          intro fV_member_x60 gV_list_x60 dV_list_x60 nV_list_x60 iV_listed_x60 l2_x60 l1_x60 H locs ls b_fV_member_x60 b_nV_list_x60 b_iV_listed_x60 b_l2_x60 b_l1_x60 b_lst_x60 hMc hah hli hgm0_x60 hfx60 hP hD hS hl
          refine lv_iload_n hx hb dX7_makeListing_60 rfl (lv_at hl 0 rfl) ?_
          refine lv_ldc (v := 1000000) hx hb hown (hts (.constant RX7 181 1000000) (by decide +kernel)) dX7_makeListing_61 ?_
          refine W.known (fun hzk hnk => ?_)
          refine W.widen (k := 5000) (n := 40000) (by omega) (by omega) ?_
          refine W.cut (pc := 148) (fun H locs ls stk => (H.size + (nV_list / 4) ≤ s.heap.size + (nV_list_x60 / 4) ∧ nS s.heap.size H + (2 * nV_list) ≤ (2 * nV_list_x60)) ∧  stk = [] ∧ va_P (dC, dI) vwCl (WV hV aV kV iV_holders iV_rules fV_pairs fV_domain fV_kind fV_a fV_b fV_c fV_rulePairs fV_lastHolder fV_now_4 iV_doneFor_4 iV_changed_4 gV_fore_4 gV_back_4 fV_together_4 fV_member_x60 gV_list_x60 dV_list_x60 nV_list_x60 iV_listed_x60 iV_listDone) H ∧ va_D A (WV hV aV kV iV_holders iV_rules fV_pairs fV_domain fV_kind fV_a fV_b fV_c fV_rulePairs fV_lastHolder fV_now_4 iV_doneFor_4 iV_changed_4 gV_fore_4 gV_back_4 fV_together_4 fV_member_x60 gV_list_x60 dV_list_x60 nV_list_x60 iV_listed_x60 iV_listDone) ∧ va_S A s.heap H locs ∧ lv_has ls 3 [(2, .int l2_x60), (1, .int l1_x60), (0, .ref (hV 0))]) (fun join17 => ?_) ?_
          · refine W.tight (cells2 := (nV_list_x60 / 4 - (nV_list / 4))) (slots2 := (2 * nV_list_x60 - (2 * nV_list))) hzk hnk ?_
            refine lv_icmp_ge (tgt := 148) hx hb dX7_makeListing_63 (by decide) (fun c_63 => ?_) (fun c_63 => ?_)
            · have t_63 : l2_x60.toInt ≥ 1000000 := toI_ge c_63 rfl (by decide : (1000000 : Int32).toInt = 1000000)
              have hl : lv_has _ _ ([(2, .int l2_x60), (1, .int l1_x60), (0, .ref (hV 0))]) := lv_sub hl [0, 1, 2] rfl
              refine W.known (fun hza hna => ?_)
              refine W.widen (k := 5000) (n := 40000) (by omega) (by omega) ?_
              exact join17 _ _ _ _ ⟨⟨by omega, by omega⟩, rfl, hP, hD, hS, hl⟩
            · have t_63 : ¬ l2_x60.toInt ≥ 1000000 := toI_nge c_63 rfl (by decide : (1000000 : Int32).toInt = 1000000)
              refine lv_iload_n hx hb dX7_makeListing_66 rfl (lv_at hl 1 rfl) ?_
              refine lv_if_lt (tgt := 148) hx hb dX7_makeListing_67 (by decide) (fun c_67 => ?_) (fun c_67 => ?_)
              · have t_67 : l1_x60.toInt < 0 := toI_lt c_67 rfl (by decide : (0 : Int32).toInt = 0)
                have hl : lv_has _ _ ([(2, .int l2_x60), (1, .int l1_x60), (0, .ref (hV 0))]) := lv_sub hl [0, 1, 2] rfl
                refine W.known (fun hza hna => ?_)
                refine W.widen (k := 5000) (n := 40000) (by omega) (by omega) ?_
                exact join17 _ _ _ _ ⟨⟨by omega, by omega⟩, rfl, hP, hD, hS, hl⟩
              · have t_67 : ¬ l1_x60.toInt < 0 := toI_nlt c_67 rfl (by decide : (0 : Int32).toInt = 0)
                refine lv_aload_n hx hb dX7_makeListing_70 rfl (lv_at hl 2 rfl) ?_
                refine va_get (D := (dC, dI)) (ci := 7) (v := .int iV_listed_x60) (C := RX7) (T := TX7) (N := 20) hx hb hts iwsMX7_makeListing_in7 hown hK hP 0 rfl rfl 18 (by decide) (hts (.fieldLink RX7 166 "OptimaWorks$ValueDesk" "listed" "I") (by decide +kernel)) (fun _ h9 => h9) rfl dX7_makeListing_71 ?_
                refine lv_sipush (v := 5000) hx hb dX7_makeListing_74 (by decide) ?_
                refine lv_icmp_ge (tgt := 148) hx hb dX7_makeListing_77 (by decide) (fun c_77 => ?_) (fun c_77 => ?_)
                · have t_77 : iV_listed_x60.toInt ≥ 5000 := toI_ge c_77 rfl (by decide : (5000 : Int32).toInt = 5000)
                  have hl : lv_has _ _ ([(2, .int l2_x60), (1, .int l1_x60), (0, .ref (hV 0))]) := lv_sub hl [0, 1, 2] rfl
                  refine W.known (fun hza hna => ?_)
                  refine W.widen (k := 5000) (n := 40000) (by omega) (by omega) ?_
                  exact join17 _ _ _ _ ⟨⟨by omega, by omega⟩, rfl, hP, hD, hS, hl⟩
                · have t_77 : ¬ iV_listed_x60.toInt ≥ 5000 := toI_nge c_77 rfl (by decide : (5000 : Int32).toInt = 5000)
                  refine lv_aload_n hx hb dX7_makeListing_80 rfl (lv_at hl 2 rfl) ?_
                  refine va_get (D := (dC, dI)) (ci := 7) (v := .ref (aV 12)) (C := RX7) (T := TX7) (N := 20) hx hb hts iwsMX7_makeListing_in7 hown hK hP 0 rfl rfl 16 (by decide) (hts (.fieldLink RX7 53 "OptimaWorks$ValueDesk" "member" "[I") (by decide +kernel)) (fun _ h9 => h9) rfl dX7_makeListing_81 ?_
                  refine lv_iload_n hx hb dX7_makeListing_84 rfl (lv_at hl 1 rfl) ?_
                  refine lv_aload_n hx hb dX7_makeListing_85 rfl (lv_at hl 2 rfl) ?_
                  refine lv_iload_n hx hb dX7_makeListing_86 rfl (lv_at hl 1 rfl) ?_
                  have hFc := allFree hD hS hA
                  refine va_calli (va_runV (As := [.int l1_x60]) (rest := [.int l1_x60, .ref (aV 12)]) ⟨hx, hb, hml, hown, hts⟩ (m_X7_nextValue l dC dI hV aV kV iV_holders iV_rules fV_pairs fV_domain fV_kind fV_a fV_b fV_c fV_rulePairs fV_lastHolder fV_now_4 iV_doneFor_4 iV_changed_4 gV_fore_4 gV_back_4 fV_together_4 fV_member_x60 gV_list_x60 dV_list_x60 nV_list_x60 iV_listed_x60 iV_listDone l1_x60 (b_iV_holders) (b_iV_rules) b_fV_kind (b_iV_changed_4) b_fV_member_x60 (by first | exact b_nV_list_x60 | with_reducible assumption | exact ⟨by omega, by omega⟩ | assumption) (b_iV_listed_x60) (b_iV_listDone) (by first | with_reducible assumption | omega | assumption) (by first | with_reducible assumption | omega | (rw [iI_t (by omega) (by omega)]; omega) | (have h8 : (-1 : Int32).toInt = -1 := (by decide); have h7 : (0 : Int32).toInt = 0 := (by decide); omega)) (by first | exact b_l1_x60 | with_reducible assumption | exact ⟨by omega, by omega⟩ | assumption) H.size) (cwV 1 hts gwsMX7_makeListing_2 rfl rfl rfl (by decide +kernel) ⟨by (dsimp only [headSpec] <;> omega), by (dsimp only [headSpec] <;> omega)⟩) (fz_pre (va_recv hK hP (ci := 7) (q0 := 0) rfl rfl) hP hK hD) rfl rfl hl.1 rfl (lv_room (Nat.le_of_ble_eq_true rfl)) dX7_makeListing_87 ⟨by (dsimp only [headSpec] <;> omega), by (dsimp only [headSpec] <;> omega)⟩) hS (fun q _ h => hFc q h) hFc (fun r61 u t9_ H locs ht hvm hw9 hB9 hz1 hk1 hS => ?_)
                  have b_r61 := hw9
                  try dsimp only at b_r61
                  have hP : va_P (dC, dI) vwCl (WV hV aV kV iV_holders iV_rules fV_pairs fV_domain fV_kind fV_a fV_b fV_c fV_rulePairs fV_lastHolder fV_now_4 iV_doneFor_4 iV_changed_4 gV_fore_4 gV_back_4 fV_together_4 fV_member_x60 gV_list_x60 dV_list_x60 nV_list_x60 iV_listed_x60 iV_listDone) H := fz_P ht hB9.1
                  have hD : va_D A (WV hV aV kV iV_holders iV_rules fV_pairs fV_domain fV_kind fV_a fV_b fV_c fV_rulePairs fV_lastHolder fV_now_4 iV_doneFor_4 iV_changed_4 gV_fore_4 gV_back_4 fV_together_4 fV_member_x60 gV_list_x60 dV_list_x60 nV_list_x60 iV_listed_x60 iV_listDone) := hB9.2.weaken (fun _ q _ h => hFc q.1 h)
                  refine va_iast (cA := kV 12) (n := 10) (f := fV_member_x60) hx hb hK hP hD hS 13 12 rfl rfl (vp_in_iff.mpr ⟨(by omega), (Int.lt_of_le_of_lt (b_l1_x60.2) (by decide))⟩) dX7_makeListing_90 (fun H locs hP hD hS => ?_)
                  obtain ⟨u62, hu62⟩ : ∃ f9, f9 = upd fV_member_x60 (l1_x60).toNatClampNeg r61 := ⟨_, rfl⟩
                  have hP : va_P (dC, dI) vwCl (WV hV aV kV iV_holders iV_rules fV_pairs fV_domain fV_kind fV_a fV_b fV_c fV_rulePairs fV_lastHolder fV_now_4 iV_doneFor_4 iV_changed_4 gV_fore_4 gV_back_4 fV_together_4 u62 gV_list_x60 dV_list_x60 nV_list_x60 iV_listed_x60 iV_listDone) H := by rw [hu62]; exact hP
                  have hD : va_D A (WV hV aV kV iV_holders iV_rules fV_pairs fV_domain fV_kind fV_a fV_b fV_c fV_rulePairs fV_lastHolder fV_now_4 iV_doneFor_4 iV_changed_4 gV_fore_4 gV_back_4 fV_together_4 u62 gV_list_x60 dV_list_x60 nV_list_x60 iV_listed_x60 iV_listDone) := by rw [hu62]; exact hD
                  have b_u62 : ∀ q : Nat, -1 ≤ (u62 q).toInt ∧ (u62 q).toInt ≤ 15 := by rw [hu62]; exact upd_r b_fV_member_x60 (by first | assumption | decide)
                  have b1_u62 : u62 = upd fV_member_x60 (l1_x60).toNatClampNeg r61 := hu62
                  clear hu62
                  refine lv_aload_n hx hb dX7_makeListing_91 rfl (lv_at hl 2 rfl) ?_
                  refine va_get (D := (dC, dI)) (ci := 7) (v := .ref (aV 12)) (C := RX7) (T := TX7) (N := 20) hx hb hts iwsMX7_makeListing_in7 hown hK hP 0 rfl rfl 16 (by decide) (hts (.fieldLink RX7 53 "OptimaWorks$ValueDesk" "member" "[I") (by decide +kernel)) (fun _ h9 => h9) rfl dX7_makeListing_92 ?_
                  refine lv_iload_n hx hb dX7_makeListing_95 rfl (lv_at hl 1 rfl) ?_
                  refine va_iald (cA := kV 12) (n := 10) (f := u62) hx hb hK hP 13 12 rfl rfl (vp_in_iff.mpr ⟨(by omega), (Int.lt_of_le_of_lt (b_l1_x60.2) (by decide))⟩) dX7_makeListing_96 ?_
                  refine lv_topi (fun v63 hv63 => ?_)
                  have b_v63 : -1 ≤ v63.toInt ∧ v63.toInt ≤ 15 := by rw [hv63]; exact b_u62 _
                  have b1_v63 : v63.toInt = r61.toInt := by rw [hv63]; exact (by rw [b1_u62, pk_us])
                  clear hv63
                  refine lv_iconst (v := (-1)) hx hb dX7_makeListing_97 (by decide) ?_
                  refine W.known (fun hzk hnk => ?_)
                  refine W.widen (k := 5000) (n := 40000) (by omega) (by omega) ?_
                  refine W.cut (pc := 142) (fun H locs ls stk => ∃ (fV_member_j18 : Nat → Int32) (gV_list_j18 : Nat → Int64) (dV_list_j18 : Nat) (nV_list_j18 : Nat) (iV_listed_j18 : Int32) (l1_j18 : Int32), (∀ q : Nat, (-1) ≤ (fV_member_j18 q).toInt ∧ (fV_member_j18 q).toInt ≤ 15) ∧ (0 ≤ nV_list_j18 ∧ nV_list_j18 ≤ 20000) ∧ ((-1) ≤ iV_listed_j18.toInt ∧ iV_listed_j18.toInt ≤ 5000) ∧ ((-1) ≤ l1_j18.toInt ∧ l1_j18.toInt ≤ 9) ∧ (iV_listed_j18.toInt ≤ ((nV_list_j18 : Nat) : Int)) ∧ (MemC fV_member_j18 l1_j18.toInt) ∧ (l1_j18.toInt < iV_holders.toInt) ∧ (0 ≤ iV_listed_j18.toInt) ∧ (nV_list ≤ nV_list_j18) ∧ (H.size + (nV_list / 4) ≤ s.heap.size + (nV_list_j18 / 4) ∧ nS s.heap.size H + (2 * nV_list) ≤ (2 * nV_list_j18)) ∧  stk = [] ∧ va_P (dC, dI) vwCl (WV hV aV kV iV_holders iV_rules fV_pairs fV_domain fV_kind fV_a fV_b fV_c fV_rulePairs fV_lastHolder fV_now_4 iV_doneFor_4 iV_changed_4 gV_fore_4 gV_back_4 fV_together_4 fV_member_j18 gV_list_j18 dV_list_j18 nV_list_j18 iV_listed_j18 iV_listDone) H ∧ va_D A (WV hV aV kV iV_holders iV_rules fV_pairs fV_domain fV_kind fV_a fV_b fV_c fV_rulePairs fV_lastHolder fV_now_4 iV_doneFor_4 iV_changed_4 gV_fore_4 gV_back_4 fV_together_4 fV_member_j18 gV_list_j18 dV_list_j18 nV_list_j18 iV_listed_j18 iV_listDone) ∧ va_S A s.heap H locs ∧ lv_has ls 3 [(2, .int l2_x60), (1, .int l1_j18), (0, .ref (hV 0))]) (fun join18 => ?_) ?_
                  · refine W.tight (cells2 := (nV_list_x60 / 4 - (nV_list / 4))) (slots2 := (2 * nV_list_x60 - (2 * nV_list))) hzk hnk ?_
                    refine lv_icmp_ne (tgt := 107) hx hb dX7_makeListing_98 (by decide) (fun c_98 => ?_) (fun c_98 => ?_)
                    · have t_98 : v63.toInt ≠ (-1) := toI_ne c_98 rfl (by decide : ((-1) : Int32).toInt = (-1))
                      have hMs := MemC.set hMc b1_u62 (by omega) (by omega) rfl
                      refine lv_aload_n hx hb dX7_makeListing_107 rfl (lv_at hl 2 rfl) ?_
                      refine lv_iload_n hx hb dX7_makeListing_108 rfl (lv_at hl 1 rfl) ?_
                      have hFc := allFree hD hS hA
                      refine va_calli (va_runV (As := [.int l1_x60]) (rest := []) ⟨hx, hb, hml, hown, hts⟩ (m_X7_keepsAt l dC dI hV aV kV iV_holders iV_rules fV_pairs fV_domain fV_kind fV_a fV_b fV_c fV_rulePairs fV_lastHolder fV_now_4 iV_doneFor_4 iV_changed_4 gV_fore_4 gV_back_4 fV_together_4 u62 gV_list_x60 dV_list_x60 nV_list_x60 iV_listed_x60 iV_listDone l1_x60 (b_iV_holders) (b_iV_rules) b_fV_kind (b_iV_changed_4) b_u62 (by first | exact b_nV_list_x60 | with_reducible assumption | exact ⟨by omega, by omega⟩ | assumption) (b_iV_listed_x60) (b_iV_listDone) (by first | with_reducible assumption | omega | assumption) (by first | with_reducible assumption | omega | (rw [iI_t (by omega) (by omega)]; omega) | (have h8 : (-1 : Int32).toInt = -1 := (by decide); have h7 : (0 : Int32).toInt = 0 := (by decide); omega)) (by first | exact b_l1_x60 | with_reducible assumption | exact ⟨by omega, by omega⟩ | assumption) (by first | with_reducible assumption | omega | (rw [iI_t (by omega) (by omega)]; omega) | decide | assumption) H.size) (cwV 1 hts gwsMX7_makeListing_3 rfl rfl rfl (by decide +kernel) ⟨by (dsimp only [headSpec] <;> omega), by (dsimp only [headSpec] <;> omega)⟩) (fz_pre (va_recv hK hP (ci := 7) (q0 := 0) rfl rfl) hP hK hD) rfl rfl hl.1 rfl (lv_room (Nat.le_of_ble_eq_true rfl)) dX7_makeListing_109 ⟨by (dsimp only [headSpec] <;> omega), by (dsimp only [headSpec] <;> omega)⟩) hS (fun q _ h => hFc q h) hFc (fun r68 u t9_ H locs ht hvm hw9 hB9 hz1 hk1 hS => ?_)
                      have b_r68 := hw9
                      try dsimp only at b_r68
                      have hP : va_P (dC, dI) vwCl (WV hV aV kV iV_holders iV_rules fV_pairs fV_domain fV_kind fV_a fV_b fV_c fV_rulePairs fV_lastHolder fV_now_4 iV_doneFor_4 iV_changed_4 gV_fore_4 gV_back_4 fV_together_4 u62 gV_list_x60 dV_list_x60 nV_list_x60 iV_listed_x60 iV_listDone) H := fz_P ht hB9.1
                      have hD : va_D A (WV hV aV kV iV_holders iV_rules fV_pairs fV_domain fV_kind fV_a fV_b fV_c fV_rulePairs fV_lastHolder fV_now_4 iV_doneFor_4 iV_changed_4 gV_fore_4 gV_back_4 fV_together_4 u62 gV_list_x60 dV_list_x60 nV_list_x60 iV_listed_x60 iV_listDone) := hB9.2.weaken (fun _ q _ h => hFc q.1 h)
                      refine lv_if_eq (tgt := 142) hx hb dX7_makeListing_112 (by decide) (fun c_112 => ?_) (fun c_112 => ?_)
                      · have t_112 : r68.toInt = 0 := toI_eq c_112 rfl (by decide : (0 : Int32).toInt = 0)
                        have hl : lv_has _ _ ([(2, .int l2_x60), (1, .int l1_x60), (0, .ref (hV 0))]) := lv_sub hl [0, 1, 2] rfl
                        refine W.known (fun hza hna => ?_)
                        refine W.widen (k := 5000) (n := 40000) (by omega) (by omega) ?_
                        exact join18 _ _ _ _ ⟨u62, gV_list_x60, dV_list_x60, nV_list_x60, iV_listed_x60, l1_x60, b_u62, (by first | exact b_nV_list_x60 | with_reducible assumption | exact ⟨by omega, by omega⟩ | assumption), (b_iV_listed_x60), (b_l1_x60), (by first | with_reducible assumption | omega | (rw [iI_t (by omega) (by omega)]; omega) | (have h8 : (-1 : Int32).toInt = -1 := (by decide); have h7 : (0 : Int32).toInt = 0 := (by decide); omega)), (show MemC u62 l1_x60.toInt from by first | exact MemC.any hMc (by assumption) (by omega) (by rw [iI_t (by omega) (by omega)]; omega) (by rw [iI_t (by omega) (by omega)]; omega) | exact MemC.any hMs (by assumption) (by rw [iI_t (by omega) (by omega)]; omega) (by omega) (by rw [iI_t (by omega) (by omega)]; omega) | exact MemC.less hMs (by omega)), (show l1_x60.toInt < iV_holders.toInt from by first | assumption | omega | (rw [iI_t (by omega) (by omega)]; omega)), (show 0 ≤ iV_listed_x60.toInt from by omega), (show nV_list ≤ nV_list_x60 from by omega), ⟨by omega, by omega⟩, rfl, hP, hD, hS, hl⟩
                      · have t_112 : ¬ r68.toInt = 0 := toI_neq c_112 rfl (by decide : (0 : Int32).toInt = 0)
                        refine lv_iload_n hx hb dX7_makeListing_115 rfl (lv_at hl 1 rfl) ?_
                        refine lv_iconst (v := 1) hx hb dX7_makeListing_116 (by decide) ?_
                        refine lv_iadd hx hb dX7_makeListing_117 ?_
                        refine lv_topi (fun y69 hy69 => ?_)
                        obtain rfl : (iI (l1_x60.toInt + 1)) = y69 := (hy69.trans (iI_add2 (iI_of _) (by decide : (1 : Int32) = iI 1))).symm
                        refine lv_aload_n hx hb dX7_makeListing_118 rfl (lv_at hl 2 rfl) ?_
                        refine va_get (D := (dC, dI)) (ci := 7) (v := .int iV_holders) (C := RX7) (T := TX7) (N := 20) hx hb hts iwsMX7_makeListing_in7 hown hK hP 0 rfl rfl 0 (by decide) (hts (.fieldLink RX7 59 "OptimaWorks$ValueDesk" "holders" "I") (by decide +kernel)) (fun _ h9 => h9) rfl dX7_makeListing_119 ?_
                        refine lv_icmp_ge (tgt := 138) hx hb dX7_makeListing_122 (by decide) (fun c_122 => ?_) (fun c_122 => ?_)
                        · have t_122 : (l1_x60.toInt + 1) ≥ iV_holders.toInt := toI_ge c_122 (iI_t (Int.le_trans (by decide) (Int.add_le_add (b_l1_x60.1) (Int.le_refl _))) (Int.le_trans (Int.add_le_add (b_l1_x60.2) (Int.le_refl _)) (by decide))) rfl
                          refine lv_aload_n hx hb dX7_makeListing_138 rfl (lv_at hl 2 rfl) ?_
                          refine W.known (fun hz0 hn0 => ?_)
                          have hS0 := hS.1
                          have hFc := allFree hD hS hA
                          refine va_callv (va_runV (As := []) (rest := []) ⟨hx, hb, hml, hown, hts⟩ (Met.sV (m_X7_keepListed l dC dI hV aV kV iV_holders iV_rules fV_pairs fV_domain fV_kind fV_a fV_b fV_c fV_rulePairs fV_lastHolder fV_now_4 iV_doneFor_4 iV_changed_4 gV_fore_4 gV_back_4 fV_together_4 u62 gV_list_x60 dV_list_x60 nV_list_x60 iV_listed_x60 iV_listDone (b_iV_holders) (b_iV_rules) b_fV_kind (b_iV_changed_4) b_u62 (by first | exact b_nV_list_x60 | with_reducible assumption | exact ⟨by omega, by omega⟩ | assumption) (b_iV_listed_x60) (b_iV_listDone) (by first | with_reducible assumption | omega | assumption) (by first | with_reducible assumption | omega | (rw [iI_t (by omega) (by omega)]; omega) | (have h8 : (-1 : Int32).toInt = -1 := (by decide); have h7 : (0 : Int32).toInt = 0 := (by decide); omega)) (by first | with_reducible assumption | omega | (rw [iI_t (by omega) (by omega)]; omega) | decide | assumption) (by first | with_reducible assumption | omega | (rw [iI_t (by omega) (by omega)]; omega) | decide | assumption) H.size) H) (cwV 0 hts gwsMX7_makeListing_4 rfl rfl rfl (by decide +kernel) ⟨by (dsimp only [headSpec] <;> omega), by (dsimp only [headSpec] <;> omega)⟩) ⟨fun a U g mk q => by obtain ⟨q0, qh, q1, qP, qK, qD⟩ := q; exact ⟨q0, qh, q1, qP, va_K.moved (u := U) (U := U.calling g mk a) (Vm.Alike.refl U.vm) qK, qD⟩, va_recv hK hP (ci := 7) (q0 := 0) rfl rfl, fun U hU9 hW => ⟨rfl, hU9, by rw [hU9], by rw [hU9]; exact hP, va_K.moved hW.alike hK, hD.weaken (fun _ _ _ _ => trivial)⟩⟩ rfl rfl hl.1 rfl (lv_room (Nat.le_of_ble_eq_true rfl)) dX7_makeListing_139 ⟨by (dsimp only [headSpec] <;> omega), by (dsimp only [headSpec] <;> omega)⟩) hS (fun q _ h => hFc q h) hFc (fun u t9_ H1 locs ht hvm hw9 hB9 hz1 hk1 hS => ?_)
                          revert u hw9 hB9
                          refine fz_p4 ?_
                          intro gV_list_70 dV_list_70 nV_list_70 iV_listed_70 hw9 hB9
                          try dsimp only at hw9 hB9
                          revert hw9
                          refine fz_a5 ?_
                          intro b_nV_list_70 b_iV_listed_70 b_lst_70 f70_0 f70_1
                          obtain ⟨⟨hP1, hD1, hg1, hg2⟩, hSz⟩ := hB9
                          rw [ht] at hP1 hSz hg1 hg2
                          have hP := hP1
                          have hD := hD1.weaken (fun _ q _ h => hFc q.1 h)
                          have hz9 : H1.size ≤ s.heap.size + (nV_list_70 / 4 - (nV_list / 4)) := by (try dsimp only at hg1); omega
                          have hn9 : nS s.heap.size H1 ≤ (2 * nV_list_70 - (2 * nV_list)) := by rw [hSz.n hS0]; (try dsimp only at hg2); omega
                          refine W.tight (cells2 := (nV_list_70 / 4 - (nV_list / 4))) (slots2 := (2 * nV_list_70 - (2 * nV_list))) hz9 hn9 ?_
                          clear hz9 hn9 hz0 hn0 hS0 hSz hg1 hg2
                          generalize H1 = H at hP hS ⊢
                          have hP : va_P (dC, dI) vwCl (WV hV aV kV iV_holders iV_rules fV_pairs fV_domain fV_kind fV_a fV_b fV_c fV_rulePairs fV_lastHolder fV_now_4 iV_doneFor_4 iV_changed_4 gV_fore_4 gV_back_4 fV_together_4 u62 gV_list_70 dV_list_70 nV_list_70 iV_listed_70 iV_listDone) H := hP
                          have hD : va_D A (WV hV aV kV iV_holders iV_rules fV_pairs fV_domain fV_kind fV_a fV_b fV_c fV_rulePairs fV_lastHolder fV_now_4 iV_doneFor_4 iV_changed_4 gV_fore_4 gV_back_4 fV_together_4 u62 gV_list_70 dV_list_70 nV_list_70 iV_listed_70 iV_listDone) := hD
                          have hl : lv_has _ _ ([(2, .int l2_x60), (1, .int l1_x60), (0, .ref (hV 0))]) := lv_sub hl [0, 1, 2] rfl
                          refine W.known (fun hza hna => ?_)
                          refine W.widen (k := 5000) (n := 40000) (by omega) (by omega) ?_
                          exact join18 _ _ _ _ ⟨u62, gV_list_70, dV_list_70, nV_list_70, iV_listed_70, l1_x60, b_u62, (by first | exact b_nV_list_70 | with_reducible assumption | exact ⟨by omega, by omega⟩ | assumption), (b_iV_listed_70), (b_l1_x60), (by first | with_reducible assumption | omega | (rw [iI_t (by omega) (by omega)]; omega) | (have h8 : (-1 : Int32).toInt = -1 := (by decide); have h7 : (0 : Int32).toInt = 0 := (by decide); omega)), (show MemC u62 l1_x60.toInt from by first | exact MemC.any hMc (by assumption) (by omega) (by rw [iI_t (by omega) (by omega)]; omega) (by rw [iI_t (by omega) (by omega)]; omega) | exact MemC.any hMs (by assumption) (by rw [iI_t (by omega) (by omega)]; omega) (by omega) (by rw [iI_t (by omega) (by omega)]; omega) | exact MemC.less hMs (by omega)), (show l1_x60.toInt < iV_holders.toInt from by first | assumption | omega | (rw [iI_t (by omega) (by omega)]; omega)), (show 0 ≤ iV_listed_70.toInt from by omega), (show nV_list ≤ nV_list_70 from by omega), ⟨by omega, by omega⟩, rfl, hP, hD, hS, hl⟩
                        · have t_122 : ¬ (l1_x60.toInt + 1) ≥ iV_holders.toInt := toI_nge c_122 (iI_t (Int.le_trans (by decide) (Int.add_le_add (b_l1_x60.1) (Int.le_refl _))) (Int.le_trans (Int.add_le_add (b_l1_x60.2) (Int.le_refl _)) (by decide))) rfl
                          refine lv_iinc (v := (iI (l1_x60.toInt + 1))) hx hb dX7_makeListing_125 hl (k := 1) rfl (iI_add2 (iI_of _) (by decide : (1 : Int32) = iI 1)) (by decide) rfl (fun ls (hl : lv_has ls _ ([(1, .int (iI (l1_x60.toInt + 1))), (2, .int l2_x60), (0, .ref (hV 0))])) => ?_)
                          refine lv_aload_n hx hb dX7_makeListing_128 rfl (lv_at hl 2 rfl) ?_
                          refine va_get (D := (dC, dI)) (ci := 7) (v := .ref (aV 12)) (C := RX7) (T := TX7) (N := 20) hx hb hts iwsMX7_makeListing_in7 hown hK hP 0 rfl rfl 16 (by decide) (hts (.fieldLink RX7 53 "OptimaWorks$ValueDesk" "member" "[I") (by decide +kernel)) (fun _ h9 => h9) rfl dX7_makeListing_129 ?_
                          refine lv_iload_n hx hb dX7_makeListing_132 rfl (lv_at hl 0 rfl) ?_
                          refine lv_iconst (v := (-1)) hx hb dX7_makeListing_133 (by decide) ?_
                          refine va_iast (cA := kV 12) (n := 10) (f := u62) hx hb hK hP hD hS 13 12 rfl rfl (vp_iI (Int.le_trans (by decide) (Int.add_le_add (b_l1_x60.1) (Int.le_refl _))) (by omega) (by decide)) dX7_makeListing_134 (fun H locs hP hD hS => ?_)
                          obtain ⟨u71, hu71⟩ : ∃ f9, f9 = upd u62 ((iI (l1_x60.toInt + 1))).toNatClampNeg ((-1) : Int32) := ⟨_, rfl⟩
                          have hP : va_P (dC, dI) vwCl (WV hV aV kV iV_holders iV_rules fV_pairs fV_domain fV_kind fV_a fV_b fV_c fV_rulePairs fV_lastHolder fV_now_4 iV_doneFor_4 iV_changed_4 gV_fore_4 gV_back_4 fV_together_4 u71 gV_list_x60 dV_list_x60 nV_list_x60 iV_listed_x60 iV_listDone) H := by rw [hu71]; exact hP
                          have hD : va_D A (WV hV aV kV iV_holders iV_rules fV_pairs fV_domain fV_kind fV_a fV_b fV_c fV_rulePairs fV_lastHolder fV_now_4 iV_doneFor_4 iV_changed_4 gV_fore_4 gV_back_4 fV_together_4 u71 gV_list_x60 dV_list_x60 nV_list_x60 iV_listed_x60 iV_listDone) := by rw [hu71]; exact hD
                          have b_u71 : ∀ q : Nat, -1 ≤ (u71 q).toInt ∧ (u71 q).toInt ≤ 15 := by rw [hu71]; exact upd_r b_u62 (by first | assumption | decide)
                          have b1_u71 : u71 = upd u62 ((iI (l1_x60.toInt + 1))).toNatClampNeg (-1) := hu71
                          clear hu71
                          refine lv_goto (tgt := 142) hx hb dX7_makeListing_135 (by decide) ?_
                          have hl : lv_has _ _ ([(2, .int l2_x60), (1, .int (iI (l1_x60.toInt + 1))), (0, .ref (hV 0))]) := lv_sub hl [1, 0, 2] rfl
                          refine W.known (fun hza hna => ?_)
                          refine W.widen (k := 5000) (n := 40000) (by omega) (by omega) ?_
                          exact join18 _ _ _ _ ⟨u71, gV_list_x60, dV_list_x60, nV_list_x60, iV_listed_x60, (iI (l1_x60.toInt + 1)), b_u71, (by first | exact b_nV_list_x60 | with_reducible assumption | exact ⟨by omega, by omega⟩ | assumption), (b_iV_listed_x60), (iI_rng (Int.le_trans (by decide) (Int.add_le_add (b_l1_x60.1) (Int.le_refl _))) (by omega) (by decide) (by decide)), (by first | with_reducible assumption | omega | (rw [iI_t (by omega) (by omega)]; omega) | (have h8 : (-1 : Int32).toInt = -1 := (by decide); have h7 : (0 : Int32).toInt = 0 := (by decide); omega)), (show MemC u71 (iI (l1_x60.toInt + 1)).toInt from by first | exact MemC.any hMc (by assumption) (by omega) (by rw [iI_t (by omega) (by omega)]; omega) (by rw [iI_t (by omega) (by omega)]; omega) | exact MemC.any hMs (by assumption) (by rw [iI_t (by omega) (by omega)]; omega) (by omega) (by rw [iI_t (by omega) (by omega)]; omega) | exact MemC.less hMs (by omega)), (show (iI (l1_x60.toInt + 1)).toInt < iV_holders.toInt from by first | assumption | omega | (rw [iI_t (by omega) (by omega)]; omega)), (show 0 ≤ iV_listed_x60.toInt from by omega), (show nV_list ≤ nV_list_x60 from by omega), ⟨by omega, by omega⟩, rfl, hP, hD, hS, hl⟩
                    · have t_98 : v63.toInt = (-1) := toI_nne c_98 rfl (by decide : ((-1) : Int32).toInt = (-1))
                      refine lv_iinc (v := (iI (l1_x60.toInt + (-1)))) hx hb dX7_makeListing_101 hl (k := 1) rfl (iI_add2 (iI_of _) (by decide : ((-1) : Int32) = iI (-1))) (by decide) rfl (fun ls (hl : lv_has ls _ ([(1, .int (iI (l1_x60.toInt + (-1)))), (2, .int l2_x60), (0, .ref (hV 0))])) => ?_)
                      refine lv_goto (tgt := 142) hx hb dX7_makeListing_104 (by decide) ?_
                      have hl : lv_has _ _ ([(2, .int l2_x60), (1, .int (iI (l1_x60.toInt + (-1)))), (0, .ref (hV 0))]) := lv_sub hl [1, 0, 2] rfl
                      refine W.known (fun hza hna => ?_)
                      refine W.widen (k := 5000) (n := 40000) (by omega) (by omega) ?_
                      exact join18 _ _ _ _ ⟨u62, gV_list_x60, dV_list_x60, nV_list_x60, iV_listed_x60, (iI (l1_x60.toInt + (-1))), b_u62, (by first | exact b_nV_list_x60 | with_reducible assumption | exact ⟨by omega, by omega⟩ | assumption), (b_iV_listed_x60), (iI_rng (by omega) (Int.le_trans (Int.add_le_add (b_l1_x60.2) (Int.le_refl _)) (by decide)) (by decide) (by decide)), (by first | with_reducible assumption | omega | (rw [iI_t (by omega) (by omega)]; omega) | (have h8 : (-1 : Int32).toInt = -1 := (by decide); have h7 : (0 : Int32).toInt = 0 := (by decide); omega)), (show MemC u62 (iI (l1_x60.toInt + (-1))).toInt from by first | exact MemC.any hMc (by assumption) (by omega) (by rw [iI_t (by omega) (by omega)]; omega) (by rw [iI_t (by omega) (by omega)]; omega) | exact MemC.any hMs (by assumption) (by rw [iI_t (by omega) (by omega)]; omega) (by omega) (by rw [iI_t (by omega) (by omega)]; omega) | exact MemC.less hMs (by omega)), (show (iI (l1_x60.toInt + (-1))).toInt < iV_holders.toInt from by first | assumption | omega | (rw [iI_t (by omega) (by omega)]; omega)), (show 0 ≤ iV_listed_x60.toInt from by omega), (show nV_list ≤ nV_list_x60 from by omega), ⟨by omega, by omega⟩, rfl, hP, hD, hS, hl⟩
                  · rintro H locs ls stk ⟨fV_member_j18, gV_list_j18, dV_list_j18, nV_list_j18, iV_listed_j18, l1_j18, b_fV_member_j18, b_nV_list_j18, b_iV_listed_j18, b_l1_j18, b_lst_j18, hMc, hah, hli, hgm0_j18, ⟨hzj, hnj⟩, rfl, hP, hD, hS, hl⟩
                    refine W.tight (cells2 := (nV_list_j18 / 4 - (nV_list / 4))) (slots2 := (2 * nV_list_j18 - (2 * nV_list))) (tg1 hzj hS.1) (tg2 hnj) ?_
                    refine lv_iinc (v := (iI (l2_x60.toInt + 1))) hx hb dX7_makeListing_142 hl (k := 0) rfl (iI_add2 (iI_of _) (by decide : (1 : Int32) = iI 1)) (by decide) rfl (fun ls (hl : lv_has ls _ ([(2, .int (iI (l2_x60.toInt + 1))), (1, .int l1_j18), (0, .ref (hV 0))])) => ?_)
                    refine lv_goto (tgt := 60) hx hb dX7_makeListing_145 (by decide) ?_
                    have hl : lv_has _ _ ([(2, .int (iI (l2_x60.toInt + 1))), (1, .int l1_j18), (0, .ref (hV 0))]) := lv_sub hl [0, 1, 2] rfl
                    exact ihx60 fV_member_j18 gV_list_j18 dV_list_j18 nV_list_j18 iV_listed_j18 (iI (l2_x60.toInt + 1)) l1_j18 _ _ _ b_fV_member_j18 (by first | exact b_nV_list_j18 | with_reducible assumption | exact ⟨by omega, by omega⟩ | assumption) (b_iV_listed_j18) (iI_rng (Int.le_trans (by decide) (Int.add_le_add (b_l2_x60.1) (Int.le_refl _))) (by omega) (by decide) (by decide)) (b_l1_j18) (by first | with_reducible assumption | omega | (rw [iI_t (by omega) (by omega)]; omega) | (have h8 : (-1 : Int32).toInt = -1 := (by decide); have h7 : (0 : Int32).toInt = 0 := (by decide); omega)) (show MemC fV_member_j18 l1_j18.toInt from by assumption) (show l1_j18.toInt < iV_holders.toInt from by first | assumption | omega | (rw [iI_t (by omega) (by omega)]; omega)) (show 0 ≤ iV_listed_j18.toInt from by omega) (show nV_list ≤ nV_list_j18 from by omega) (by have e9 : ((iI (l2_x60.toInt + 1))).toInt = (l2_x60.toInt + 1) := (iI_t (Int.le_trans (by decide) (Int.add_le_add (b_l2_x60.1) (Int.le_refl _))) (Int.le_trans (Int.add_le_add (b_l2_x60.2) (Int.le_refl _)) (by decide))); omega) hP hD hS hl
          · rintro H locs ls stk ⟨⟨hzj, hnj⟩, rfl, hP, hD, hS, hl⟩
            refine W.tight (cells2 := (nV_list_x60 / 4 - (nV_list / 4))) (slots2 := (2 * nV_list_x60 - (2 * nV_list))) (tg1 hzj hS.1) (tg2 hnj) ?_
            refine W.known (fun hz9 hn9 => ?_)
            refine W.widen (k := 10001) (n := 100000) (by omega) (by omega) ?_
            exact W.vret hx hb hr (fun t9_ ht hW => ⟨⟨(fV_now_4, iV_doneFor_4, iV_changed_4, gV_fore_4, gV_back_4, fV_together_4, fV_member_x60, gV_list_x60, dV_list_x60, nV_list_x60, iV_listed_x60), rfl, ⟨(by (try dsimp only); exact (b_iV_changed_4)), b_fV_member_x60, (by (try dsimp only); exact (by first | exact b_nV_list_x60 | with_reducible assumption | exact ⟨by omega, by omega⟩ | assumption)), (by (try dsimp only); exact (b_iV_listed_x60)), (by (try dsimp only); exact (by first | with_reducible assumption | omega | (rw [iI_t (by omega) (by omega)]; omega) | (have h8 : (-1 : Int32).toInt = -1 := (by decide); have h7 : (0 : Int32).toInt = 0 := (by decide); omega))), (by (try dsimp only); omega)⟩, by rw [ht]; exact hP, hD, by rw [ht]; (try dsimp only); omega, by rw [ht]; (try dsimp only); omega⟩, hS.F ht⟩) hS.2.2 dX7_makeListing_148
      · have t_29 : iV_holders.toInt = 0 := toI_nne c_29 rfl (by decide : (0 : Int32).toInt = 0)
        refine lv_aload_n hx hb dX7_makeListing_32 rfl (lv_at hl 0 rfl) ?_
        refine W.known (fun hz0 hn0 => ?_)
        have hS0 := hS.1
        have hFc := allFree hD hS hA
        refine va_callv (va_runV (As := []) (rest := []) ⟨hx, hb, hml, hown, hts⟩ (Met.sV (m_X7_keepListed l dC dI hV aV kV iV_holders iV_rules fV_pairs fV_domain fV_kind fV_a fV_b fV_c fV_rulePairs fV_lastHolder fV_now iV_doneFor iV_changed gV_fore gV_back fV_together fV_member gV_list dV_list nV_list k0_j10 iV_listDone (b_iV_holders) (b_iV_rules) b_fV_kind (b_iV_changed) b_fV_member (by first | exact b_nV_list | with_reducible assumption | exact ⟨by omega, by omega⟩ | assumption) (⟨b_k0_j10.1, Int.le_trans b_k0_j10.2 (by decide)⟩) (b_iV_listDone) (by first | with_reducible assumption | omega | assumption) (by first | with_reducible assumption | omega | (rw [iI_t (by omega) (by omega)]; omega) | (have h8 : (-1 : Int32).toInt = -1 := (by decide); have h7 : (0 : Int32).toInt = 0 := (by decide); omega)) (by first | with_reducible assumption | omega | (rw [iI_t (by omega) (by omega)]; omega) | decide | assumption) (by first | with_reducible assumption | omega | (rw [iI_t (by omega) (by omega)]; omega) | decide | assumption) H.size) H) (cwV 0 hts gwsMX7_makeListing_4 rfl rfl rfl (by decide +kernel) ⟨by (dsimp only [headSpec] <;> omega), by (dsimp only [headSpec] <;> omega)⟩) ⟨fun a U g mk q => by obtain ⟨q0, qh, q1, qP, qK, qD⟩ := q; exact ⟨q0, qh, q1, qP, va_K.moved (u := U) (U := U.calling g mk a) (Vm.Alike.refl U.vm) qK, qD⟩, va_recv hK hP (ci := 7) (q0 := 0) rfl rfl, fun U hU9 hW => ⟨rfl, hU9, by rw [hU9], by rw [hU9]; exact hP, va_K.moved hW.alike hK, hD.weaken (fun _ _ _ _ => trivial)⟩⟩ rfl rfl hl.1 rfl (lv_room (Nat.le_of_ble_eq_true rfl)) dX7_makeListing_33 ⟨by (dsimp only [headSpec] <;> omega), by (dsimp only [headSpec] <;> omega)⟩) hS (fun q _ h => hFc q h) hFc (fun u t9_ H1 locs ht hvm hw9 hB9 hz1 hk1 hS => ?_)
        revert u hw9 hB9
        refine fz_p4 ?_
        intro gV_list_72 dV_list_72 nV_list_72 iV_listed_72 hw9 hB9
        try dsimp only at hw9 hB9
        revert hw9
        refine fz_a5 ?_
        intro b_nV_list_72 b_iV_listed_72 b_lst_72 f72_0 f72_1
        obtain ⟨⟨hP1, hD1, hg1, hg2⟩, hSz⟩ := hB9
        rw [ht] at hP1 hSz hg1 hg2
        have hP := hP1
        have hD := hD1.weaken (fun _ q _ h => hFc q.1 h)
        have hz9 : H1.size ≤ s.heap.size + (nV_list_72 / 4 - (nV_list / 4)) := by (try dsimp only at hg1); omega
        have hn9 : nS s.heap.size H1 ≤ (2 * nV_list_72 - (2 * nV_list)) := by rw [hSz.n hS0]; (try dsimp only at hg2); omega
        refine W.tight (cells2 := (nV_list_72 / 4 - (nV_list / 4))) (slots2 := (2 * nV_list_72 - (2 * nV_list))) hz9 hn9 ?_
        clear hz9 hn9 hz0 hn0 hS0 hSz hg1 hg2
        generalize H1 = H at hP hS ⊢
        have hP : va_P (dC, dI) vwCl (WV hV aV kV iV_holders iV_rules fV_pairs fV_domain fV_kind fV_a fV_b fV_c fV_rulePairs fV_lastHolder fV_now iV_doneFor iV_changed gV_fore gV_back fV_together fV_member gV_list_72 dV_list_72 nV_list_72 iV_listed_72 iV_listDone) H := hP
        have hD : va_D A (WV hV aV kV iV_holders iV_rules fV_pairs fV_domain fV_kind fV_a fV_b fV_c fV_rulePairs fV_lastHolder fV_now iV_doneFor iV_changed gV_fore gV_back fV_together fV_member gV_list_72 dV_list_72 nV_list_72 iV_listed_72 iV_listDone) := hD
        refine W.known (fun hz9 hn9 => ?_)
        refine W.widen (k := 10001) (n := 100000) (by omega) (by omega) ?_
        exact W.vret hx hb hr (fun t9_ ht hW => ⟨⟨(fV_now, iV_doneFor, iV_changed, gV_fore, gV_back, fV_together, fV_member, gV_list_72, dV_list_72, nV_list_72, iV_listed_72), rfl, ⟨(by (try dsimp only); exact (b_iV_changed)), b_fV_member, (by (try dsimp only); exact (by first | exact b_nV_list_72 | with_reducible assumption | exact ⟨by omega, by omega⟩ | assumption)), (by (try dsimp only); exact (b_iV_listed_72)), (by (try dsimp only); exact (by first | with_reducible assumption | omega | (rw [iI_t (by omega) (by omega)]; omega) | (have h8 : (-1 : Int32).toInt = -1 := (by decide); have h7 : (0 : Int32).toInt = 0 := (by decide); omega))), (by (try dsimp only); omega)⟩, by rw [ht]; exact hP, hD, by rw [ht]; (try dsimp only); omega, by rw [ht]; (try dsimp only); omega⟩, hS.F ht⟩) hS.2.2 dX7_makeListing_36
    · have t_21 : k0_j10.toInt = (-1) := toI_nne c_21 rfl (by decide : ((-1) : Int32).toInt = (-1))
      refine W.known (fun hz9 hn9 => ?_)
      refine W.widen (k := 10001) (n := 100000) (by omega) (by omega) ?_
      exact W.vret hx hb hr (fun t9_ ht hW => ⟨⟨(fV_now, iV_doneFor, iV_changed, gV_fore, gV_back, fV_together, fV_member, gV_list, dV_list, nV_list, k0_j10), rfl, ⟨(by (try dsimp only); exact (b_iV_changed)), b_fV_member, (by (try dsimp only); exact (by first | exact b_nV_list | with_reducible assumption | exact ⟨by omega, by omega⟩ | assumption)), (by (try dsimp only); exact (⟨b_k0_j10.1, Int.le_trans b_k0_j10.2 (by decide)⟩)), (by (try dsimp only); exact (by first | with_reducible assumption | omega | (rw [iI_t (by omega) (by omega)]; omega) | (have h8 : (-1 : Int32).toInt = -1 := (by decide); have h7 : (0 : Int32).toInt = 0 := (by decide); omega))), (by (try dsimp only); omega)⟩, by rw [ht]; exact hP, hD, by rw [ht]; (try dsimp only); omega, by rw [ht]; (try dsimp only); omega⟩, hS.F ht⟩) hS.2.2 dX7_makeListing_24
theorem dX7_listingSize_0 : decode cX7_listingSize 0 = .ok (.aload_n 0, 1) := dk_42 (by decide +kernel)
theorem dX7_listingSize_1 : decode cX7_listingSize 1 = .ok (.getfield 68, 3) := dk_180 (by decide +kernel)
theorem dX7_listingSize_4 : decode cX7_listingSize 4 = .ok (.ifCond .ne 12, 3) := dk_154 (by decide +kernel)
theorem dX7_listingSize_7 : decode cX7_listingSize 7 = .ok (.aload_n 0, 1) := dk_42 (by decide +kernel)
theorem dX7_listingSize_8 : decode cX7_listingSize 8 = .ok (.iconst 1, 1) := dk_4 (by decide +kernel)
theorem dX7_listingSize_9 : decode cX7_listingSize 9 = .ok (.putfield 68, 3) := dk_181 (by decide +kernel)
theorem dX7_listingSize_12 : decode cX7_listingSize 12 = .ok (.aload_n 0, 1) := dk_42 (by decide +kernel)
theorem dX7_listingSize_13 : decode cX7_listingSize 13 = .ok (.invokevirtual 163, 3) := dk_182 (by decide +kernel)
theorem dX7_listingSize_16 : decode cX7_listingSize 16 = .ok (.aload_n 0, 1) := dk_42 (by decide +kernel)
theorem dX7_listingSize_17 : decode cX7_listingSize 17 = .ok (.getfield 166, 3) := dk_180 (by decide +kernel)
theorem dX7_listingSize_20 : decode cX7_listingSize 20 = .ok (.ireturn, 1) := dk_172 (by decide +kernel)
def wsMX7_listingSize : List Cond := .code yX7_listingSize cX7_listingSize 1 (some .int) :: ([.fieldLink RX7 68 "OptimaWorks$ValueDesk" "listDone" "Z", .fieldLink RX7 166 "OptimaWorks$ValueDesk" "listed" "I"] ++ wsX70 ++ (wsV RX7 163 RX7 yX7_makeListing wsMX7_makeListing))
theorem iwsMX7_listingSize_in7 : ∀ w ∈ wsX70, w ∈ wsMX7_listingSize := fun _ h => List.mem_cons_of_mem _ (List.mem_append_left _ (List.mem_append_right _ h))
theorem gwsMX7_listingSize_0 : GoodIn wsMX7_listingSize (wsV RX7 163 RX7 yX7_makeListing wsMX7_makeListing) := goodIn_sub (fun _ h => List.mem_cons_of_mem _ (List.mem_append_right _ h)) (gdV (by decide +kernel) gdwsMX7_makeListing)
theorem gdwsMX7_listingSize : wsMX7_listingSize.all goodWord = true := gdC rfl (gdA (gdA (by decide +kernel : ([.fieldLink RX7 68 "OptimaWorks$ValueDesk" "listDone" "Z", .fieldLink RX7 166 "OptimaWorks$ValueDesk" "listed" "I"] : List Cond).all goodWord = true) gdwsX70) (gdV (by decide +kernel) gdwsMX7_makeListing))
set_option maxHeartbeats 4000000 in
set_option maxRecDepth 100000 in
/-- how many are listed -/
theorem m_X7_listingSize (l : Launch) (dC : Nat → ClassId) (dI : Nat → Nat → Nat) (hV : Nat → Nat) (aV : Nat → Nat) (kV : Nat → ClassId) (iV_holders : Int32) (iV_rules : Int32) (fV_pairs : Nat → Int32) (fV_domain : Nat → Int32) (fV_kind : Nat → Int32) (fV_a : Nat → Int32) (fV_b : Nat → Int32) (fV_c : Nat → Int32) (fV_rulePairs : Nat → Int32) (fV_lastHolder : Nat → Int32) (fV_now : Nat → Int32) (iV_doneFor : Int32) (iV_changed : Int32) (gV_fore : Nat → Int64) (gV_back : Nat → Int64) (fV_together : Nat → Int32) (fV_member : Nat → Int32) (gV_list : Nat → Int64) (dV_list : Nat) (nV_list : Nat) (iV_listed : Int32) (iV_listDone : Int32) (b_iV_holders : 0 ≤ iV_holders.toInt ∧ iV_holders.toInt ≤ 10) (b_iV_rules : 0 ≤ iV_rules.toInt ∧ iV_rules.toInt ≤ 12) (b_fV_kind : ∀ q : Nat, 0 ≤ (fV_kind q).toInt ∧ (fV_kind q).toInt ≤ 4) (b_iV_changed : 0 ≤ iV_changed.toInt ∧ iV_changed.toInt ≤ 1) (b_fV_member : ∀ q : Nat, (-1) ≤ (fV_member q).toInt ∧ (fV_member q).toInt ≤ 15) (b_nV_list : 0 ≤ nV_list ∧ nV_list ≤ 20000) (b_iV_listed : (-1) ≤ iV_listed.toInt ∧ iV_listed.toInt ≤ 5000) (b_iV_listDone : 0 ≤ iV_listDone.toInt ∧ iV_listDone.toInt ≤ 1) (b_RuV : RuV fV_kind fV_a fV_b fV_c fV_lastHolder) (b_lst : iV_listed.toInt ≤ ((nV_list : Nat) : Int)) (sz : Nat) : Met l yX7_listingSize wsMX7_listingSize ({ frames := 5, cells := 15001, slots := 140000, locals := 121 }) (va_Pc [.ref (hV 0)] (fun U => U.heap.size = sz ∧ va_P (dC, dI) vwCl (WV hV aV kV iV_holders iV_rules fV_pairs fV_domain fV_kind fV_a fV_b fV_c fV_rulePairs fV_lastHolder fV_now iV_doneFor iV_changed gV_fore gV_back fV_together fV_member gV_list dV_list nV_list iV_listed iV_listDone) U.heap ∧ va_K (dC, dI) vwCl (tV kV) U ∧ va_D (fun _ => True) (WV hV aV kV iV_holders iV_rules fV_pairs fV_domain fV_kind fV_a fV_b fV_c fV_rulePairs fV_lastHolder fV_now iV_doneFor iV_changed gV_fore gV_back fV_together fV_member gV_list dV_list nV_list iV_listed iV_listDone))) (va_Qi (fun (r : Int32) (u : (Nat → Int32) × (Int32) × (Int32) × (Nat → Int64) × (Nat → Int64) × (Nat → Int32) × (Nat → Int32) × (Nat → Int64) × (Nat) × (Nat) × (Int32) × (Int32)) => (0 ≤ (u.2.2.1).toInt ∧ (u.2.2.1).toInt ≤ 1) ∧ (∀ q : Nat, (-1) ≤ ((u.2.2.2.2.2.2.1) q).toInt ∧ ((u.2.2.2.2.2.2.1) q).toInt ≤ 15) ∧ (0 ≤ (u.2.2.2.2.2.2.2.2.2.1) ∧ (u.2.2.2.2.2.2.2.2.2.1) ≤ 20000) ∧ ((-1) ≤ (u.2.2.2.2.2.2.2.2.2.2.1).toInt ∧ (u.2.2.2.2.2.2.2.2.2.2.1).toInt ≤ 5000) ∧ (0 ≤ (u.2.2.2.2.2.2.2.2.2.2.2).toInt ∧ (u.2.2.2.2.2.2.2.2.2.2.2).toInt ≤ 1) ∧ ((u.2.2.2.2.2.2.2.2.2.2.1).toInt ≤ (((u.2.2.2.2.2.2.2.2.2.1) : Nat) : Int)) ∧ ((-1) ≤ r.toInt ∧ r.toInt ≤ 5000) ∧ (nV_list ≤ (u.2.2.2.2.2.2.2.2.2.1)) ∧ (r.toInt ≤ (((u.2.2.2.2.2.2.2.2.2.1) : Nat) : Int))) (fun (u : (Nat → Int32) × (Int32) × (Int32) × (Nat → Int64) × (Nat → Int64) × (Nat → Int32) × (Nat → Int32) × (Nat → Int64) × (Nat) × (Nat) × (Int32) × (Int32)) t => va_P (dC, dI) vwCl (WV hV aV kV iV_holders iV_rules fV_pairs fV_domain fV_kind fV_a fV_b fV_c fV_rulePairs fV_lastHolder (u.1) (u.2.1) (u.2.2.1) (u.2.2.2.1) (u.2.2.2.2.1) (u.2.2.2.2.2.1) (u.2.2.2.2.2.2.1) (u.2.2.2.2.2.2.2.1) (u.2.2.2.2.2.2.2.2.1) (u.2.2.2.2.2.2.2.2.2.1) (u.2.2.2.2.2.2.2.2.2.2.1) (u.2.2.2.2.2.2.2.2.2.2.2)) t.heap ∧ va_D (va_A (WV hV aV kV iV_holders iV_rules fV_pairs fV_domain fV_kind fV_a fV_b fV_c fV_rulePairs fV_lastHolder fV_now iV_doneFor iV_changed gV_fore gV_back fV_together fV_member gV_list dV_list nV_list iV_listed iV_listDone) sz) (WV hV aV kV iV_holders iV_rules fV_pairs fV_domain fV_kind fV_a fV_b fV_c fV_rulePairs fV_lastHolder (u.1) (u.2.1) (u.2.2.1) (u.2.2.2.1) (u.2.2.2.2.1) (u.2.2.2.2.2.1) (u.2.2.2.2.2.2.1) (u.2.2.2.2.2.2.2.1) (u.2.2.2.2.2.2.2.2.1) (u.2.2.2.2.2.2.2.2.2.1) (u.2.2.2.2.2.2.2.2.2.2.1) (u.2.2.2.2.2.2.2.2.2.2.2)) ∧ t.heap.size + (nV_list / 4) ≤ sz + ((u.2.2.2.2.2.2.2.2.2.1) / 4) ∧ nS sz t.heap + (2 * nV_list) ≤ (2 * (u.2.2.2.2.2.2.2.2.2.1))) (va_A (WV hV aV kV iV_holders iV_rules fV_pairs fV_domain fV_kind fV_a fV_b fV_c fV_rulePairs fV_lastHolder fV_now iV_doneFor iV_changed gV_fore gV_back fV_together fV_member gV_list dV_list nV_list iV_listed iV_listDone) sz)) 15001 140000 (va_A (WV hV aV kV iV_holders iV_rules fV_pairs fV_domain fV_kind fV_a fV_b fV_c fV_rulePairs fV_lastHolder fV_now iV_doneFor iV_changed gV_fore gV_back fV_together fV_member gV_list dV_list nV_list iV_listed iV_listDone) sz) := by
  refine Met.ofW (cc := cX7_listingSize) (maxL := 1) (ret := (some .int)) (by decide) rfl ?_
  intro p e s m args below meth c s₁ B hml hv
  obtain ⟨rfl, hsz, hP, hK, hD0⟩ := hv
  have hx := B.exec
  have hb := B.bytes
  have hr := B.returns
  have hts := atoms_spec (ws := wsMX7_listingSize) B.pre
  have hown : s.vm.findClass RX7 = some m.cls := findClass_of_methodNamed B.named
  have hlocks := B.notSynchronized
  subst hsz
  have hD := hD0.self (sz := s.heap.size)
  generalize hAe : va_A (WV hV aV kV iV_holders iV_rules fV_pairs fV_domain fV_kind fV_a fV_b fV_c fV_rulePairs fV_lastHolder fV_now iV_doneFor iV_changed gV_fore gV_back fV_together fV_member gV_list dV_list nV_list iV_listed iV_listDone) s.heap.size = A at hD ⊢
  have hA : ∀ q : Nat, s.heap.size ≤ q → A q := fun q h => by rw [← hAe]; exact Or.inr h
  have hS : va_S A s.heap s.heap [] := va_S.rf
  have hl := lv_entry ([.ref (hV 0)]) (n := 1) (Nat.le_of_ble_eq_true rfl)
  rw [lg_entry_eq]
  generalize (lg_sl ([.ref (hV 0)]) ++ List.replicate (1 - (lg_sl ([.ref (hV 0)])).length) Slot.unset).toArray = ls at hl ⊢
  have hl : lv_has ls 1 [(0, .ref (hV 0))] := hl
  refine W.widen (k := (nV_list / 4 - (nV_list / 4))) (n := (2 * nV_list - (2 * nV_list))) (Nat.zero_le _) (Nat.zero_le _) ?_
  refine lv_aload_n hx hb dX7_listingSize_0 rfl (lv_at hl 0 rfl) ?_
  refine va_get (D := (dC, dI)) (ci := 7) (v := .int iV_listDone) (C := RX7) (T := TX7) (N := 20) hx hb hts iwsMX7_listingSize_in7 hown hK hP 0 rfl rfl 19 (by decide) (hts (.fieldLink RX7 68 "OptimaWorks$ValueDesk" "listDone" "Z") (by decide +kernel)) (fun _ h9 => h9) rfl dX7_listingSize_1 ?_
  refine W.known (fun hzk hnk => ?_)
  refine W.widen (k := 5000) (n := 40000) (by omega) (by omega) ?_
  refine W.cut (pc := 16) (fun H locs ls stk => ∃ (fV_now_j2 : Nat → Int32) (iV_doneFor_j2 : Int32) (iV_changed_j2 : Int32) (gV_fore_j2 : Nat → Int64) (gV_back_j2 : Nat → Int64) (fV_together_j2 : Nat → Int32) (fV_member_j2 : Nat → Int32) (gV_list_j2 : Nat → Int64) (dV_list_j2 : Nat) (nV_list_j2 : Nat) (iV_listed_j2 : Int32) (iV_listDone_j2 : Int32), (0 ≤ iV_changed_j2.toInt ∧ iV_changed_j2.toInt ≤ 1) ∧ (∀ q : Nat, (-1) ≤ (fV_member_j2 q).toInt ∧ (fV_member_j2 q).toInt ≤ 15) ∧ (0 ≤ nV_list_j2 ∧ nV_list_j2 ≤ 20000) ∧ ((-1) ≤ iV_listed_j2.toInt ∧ iV_listed_j2.toInt ≤ 5000) ∧ (0 ≤ iV_listDone_j2.toInt ∧ iV_listDone_j2.toInt ≤ 1) ∧ (iV_listed_j2.toInt ≤ ((nV_list_j2 : Nat) : Int)) ∧ (nV_list ≤ nV_list_j2) ∧ (H.size + (nV_list / 4) ≤ s.heap.size + (nV_list_j2 / 4) ∧ nS s.heap.size H + (2 * nV_list) ≤ (2 * nV_list_j2)) ∧  stk = [] ∧ va_P (dC, dI) vwCl (WV hV aV kV iV_holders iV_rules fV_pairs fV_domain fV_kind fV_a fV_b fV_c fV_rulePairs fV_lastHolder fV_now_j2 iV_doneFor_j2 iV_changed_j2 gV_fore_j2 gV_back_j2 fV_together_j2 fV_member_j2 gV_list_j2 dV_list_j2 nV_list_j2 iV_listed_j2 iV_listDone_j2) H ∧ va_D A (WV hV aV kV iV_holders iV_rules fV_pairs fV_domain fV_kind fV_a fV_b fV_c fV_rulePairs fV_lastHolder fV_now_j2 iV_doneFor_j2 iV_changed_j2 gV_fore_j2 gV_back_j2 fV_together_j2 fV_member_j2 gV_list_j2 dV_list_j2 nV_list_j2 iV_listed_j2 iV_listDone_j2) ∧ va_S A s.heap H locs ∧ lv_has ls 1 [(0, .ref (hV 0))]) (fun join2 => ?_) ?_
  · refine W.tight (cells2 := (nV_list / 4 - (nV_list / 4))) (slots2 := (2 * nV_list - (2 * nV_list))) hzk hnk ?_
    refine lv_if_ne (tgt := 16) hx hb dX7_listingSize_4 (by decide) (fun c_4 => ?_) (fun c_4 => ?_)
    · have t_4 : iV_listDone.toInt ≠ 0 := toI_ne c_4 rfl (by decide : (0 : Int32).toInt = 0)
      have hl : lv_has _ _ ([(0, .ref (hV 0))]) := lv_sub hl [0] rfl
      refine W.known (fun hza hna => ?_)
      refine W.widen (k := 5000) (n := 40000) (by omega) (by omega) ?_
      exact join2 _ _ _ _ ⟨fV_now, iV_doneFor, iV_changed, gV_fore, gV_back, fV_together, fV_member, gV_list, dV_list, nV_list, iV_listed, iV_listDone, (b_iV_changed), b_fV_member, (by first | exact b_nV_list | with_reducible assumption | exact ⟨by omega, by omega⟩ | assumption), (b_iV_listed), (b_iV_listDone), (by first | with_reducible assumption | omega | (rw [iI_t (by omega) (by omega)]; omega) | (have h8 : (-1 : Int32).toInt = -1 := (by decide); have h7 : (0 : Int32).toInt = 0 := (by decide); omega)), (show nV_list ≤ nV_list from by omega), ⟨by omega, by omega⟩, rfl, hP, hD, hS, hl⟩
    · have t_4 : iV_listDone.toInt = 0 := toI_nne c_4 rfl (by decide : (0 : Int32).toInt = 0)
      refine lv_aload_n hx hb dX7_listingSize_7 rfl (lv_at hl 0 rfl) ?_
      refine lv_iconst (v := 1) hx hb dX7_listingSize_8 (by decide) ?_
      refine va_put (D := (dC, dI)) (ci := 7) (v := .int 1) (ty := .boolean) (C := RX7) (T := TX7) (N := 20) hx hb hts iwsMX7_listingSize_in7 tyX7 tyX7_ok nmX7 hown hK hP hD hS 0 rfl rfl 19 (by decide) (hts (.fieldLink RX7 68 "OptimaWorks$ValueDesk" "listDone" "Z") (by decide +kernel)) (fun _ h9 => h9) rfl (by decide +kernel) rfl rfl (Nat.le_of_ble_eq_true rfl) dX7_listingSize_9 (fun H locs hP hD hS => ?_)
      have hP : va_P (dC, dI) vwCl (WV hV aV kV iV_holders iV_rules fV_pairs fV_domain fV_kind fV_a fV_b fV_c fV_rulePairs fV_lastHolder fV_now iV_doneFor iV_changed gV_fore gV_back fV_together fV_member gV_list dV_list nV_list iV_listed 1) H := hP
      have hD : va_D A (WV hV aV kV iV_holders iV_rules fV_pairs fV_domain fV_kind fV_a fV_b fV_c fV_rulePairs fV_lastHolder fV_now iV_doneFor iV_changed gV_fore gV_back fV_together fV_member gV_list dV_list nV_list iV_listed 1) := hD
      refine lv_aload_n hx hb dX7_listingSize_12 rfl (lv_at hl 0 rfl) ?_
      refine W.known (fun hz0 hn0 => ?_)
      have hS0 := hS.1
      have hFc := allFree hD hS hA
      refine va_callv (va_runV (As := []) (rest := []) ⟨hx, hb, hml, hown, hts⟩ (Met.sV (m_X7_makeListing l dC dI hV aV kV iV_holders iV_rules fV_pairs fV_domain fV_kind fV_a fV_b fV_c fV_rulePairs fV_lastHolder fV_now iV_doneFor iV_changed gV_fore gV_back fV_together fV_member gV_list dV_list nV_list iV_listed 1 (b_iV_holders) (b_iV_rules) b_fV_kind (b_iV_changed) b_fV_member (by first | exact b_nV_list | with_reducible assumption | exact ⟨by omega, by omega⟩ | assumption) (b_iV_listed) (show 0 ≤ (1 : Int32).toInt ∧ (1 : Int32).toInt ≤ 1 from by decide) (by first | with_reducible assumption | omega | assumption) (by first | with_reducible assumption | omega | (rw [iI_t (by omega) (by omega)]; omega) | (have h8 : (-1 : Int32).toInt = -1 := (by decide); have h7 : (0 : Int32).toInt = 0 := (by decide); omega)) H.size) H) (cwV 0 hts gwsMX7_listingSize_0 rfl rfl rfl (by decide +kernel) ⟨by (dsimp only [headSpec] <;> omega), by (dsimp only [headSpec] <;> omega)⟩) ⟨fun a U g mk q => by obtain ⟨q0, qh, q1, qP, qK, qD⟩ := q; exact ⟨q0, qh, q1, qP, va_K.moved (u := U) (U := U.calling g mk a) (Vm.Alike.refl U.vm) qK, qD⟩, va_recv hK hP (ci := 7) (q0 := 0) rfl rfl, fun U hU9 hW => ⟨rfl, hU9, by rw [hU9], by rw [hU9]; exact hP, va_K.moved hW.alike hK, hD.weaken (fun _ _ _ _ => trivial)⟩⟩ rfl rfl hl.1 rfl (lv_room (Nat.le_of_ble_eq_true rfl)) dX7_listingSize_13 ⟨by (dsimp only [headSpec] <;> omega), by (dsimp only [headSpec] <;> omega)⟩) hS (fun q _ h => hFc q h) hFc (fun u t9_ H1 locs ht hvm hw9 hB9 hz1 hk1 hS => ?_)
      revert u hw9 hB9
      refine fz_p11 ?_
      intro fV_now_2 iV_doneFor_2 iV_changed_2 gV_fore_2 gV_back_2 fV_together_2 fV_member_2 gV_list_2 dV_list_2 nV_list_2 iV_listed_2 hw9 hB9
      try dsimp only at hw9 hB9
      revert hw9
      refine fz_a6 ?_
      intro b_iV_changed_2 b_fV_member_2 b_nV_list_2 b_iV_listed_2 b_lst_2 f2_0
      obtain ⟨⟨hP1, hD1, hg1, hg2⟩, hSz⟩ := hB9
      rw [ht] at hP1 hSz hg1 hg2
      have hP := hP1
      have hD := hD1.weaken (fun _ q _ h => hFc q.1 h)
      have hz9 : H1.size ≤ s.heap.size + (nV_list_2 / 4 - (nV_list / 4)) := by (try dsimp only at hg1); omega
      have hn9 : nS s.heap.size H1 ≤ (2 * nV_list_2 - (2 * nV_list)) := by rw [hSz.n hS0]; (try dsimp only at hg2); omega
      refine W.tight (cells2 := (nV_list_2 / 4 - (nV_list / 4))) (slots2 := (2 * nV_list_2 - (2 * nV_list))) hz9 hn9 ?_
      clear hz9 hn9 hz0 hn0 hS0 hSz hg1 hg2
      generalize H1 = H at hP hS ⊢
      have hP : va_P (dC, dI) vwCl (WV hV aV kV iV_holders iV_rules fV_pairs fV_domain fV_kind fV_a fV_b fV_c fV_rulePairs fV_lastHolder fV_now_2 iV_doneFor_2 iV_changed_2 gV_fore_2 gV_back_2 fV_together_2 fV_member_2 gV_list_2 dV_list_2 nV_list_2 iV_listed_2 1) H := hP
      have hD : va_D A (WV hV aV kV iV_holders iV_rules fV_pairs fV_domain fV_kind fV_a fV_b fV_c fV_rulePairs fV_lastHolder fV_now_2 iV_doneFor_2 iV_changed_2 gV_fore_2 gV_back_2 fV_together_2 fV_member_2 gV_list_2 dV_list_2 nV_list_2 iV_listed_2 1) := hD
      have hl : lv_has _ _ ([(0, .ref (hV 0))]) := lv_sub hl [0] rfl
      refine W.known (fun hza hna => ?_)
      refine W.widen (k := 5000) (n := 40000) (by omega) (by omega) ?_
      exact join2 _ _ _ _ ⟨fV_now_2, iV_doneFor_2, iV_changed_2, gV_fore_2, gV_back_2, fV_together_2, fV_member_2, gV_list_2, dV_list_2, nV_list_2, iV_listed_2, 1, (b_iV_changed_2), b_fV_member_2, (by first | exact b_nV_list_2 | with_reducible assumption | exact ⟨by omega, by omega⟩ | assumption), (b_iV_listed_2), (show 0 ≤ (1 : Int32).toInt ∧ (1 : Int32).toInt ≤ 1 from by decide), (by first | with_reducible assumption | omega | (rw [iI_t (by omega) (by omega)]; omega) | (have h8 : (-1 : Int32).toInt = -1 := (by decide); have h7 : (0 : Int32).toInt = 0 := (by decide); omega)), (show nV_list ≤ nV_list_2 from by omega), ⟨by omega, by omega⟩, rfl, hP, hD, hS, hl⟩
  · rintro H locs ls stk ⟨fV_now_j2, iV_doneFor_j2, iV_changed_j2, gV_fore_j2, gV_back_j2, fV_together_j2, fV_member_j2, gV_list_j2, dV_list_j2, nV_list_j2, iV_listed_j2, iV_listDone_j2, b_iV_changed_j2, b_fV_member_j2, b_nV_list_j2, b_iV_listed_j2, b_iV_listDone_j2, b_lst_j2, hgm0_j2, ⟨hzj, hnj⟩, rfl, hP, hD, hS, hl⟩
    refine W.tight (cells2 := (nV_list_j2 / 4 - (nV_list / 4))) (slots2 := (2 * nV_list_j2 - (2 * nV_list))) (tg1 hzj hS.1) (tg2 hnj) ?_
    refine lv_aload_n hx hb dX7_listingSize_16 rfl (lv_at hl 0 rfl) ?_
    refine va_get (D := (dC, dI)) (ci := 7) (v := .int iV_listed_j2) (C := RX7) (T := TX7) (N := 20) hx hb hts iwsMX7_listingSize_in7 hown hK hP 0 rfl rfl 18 (by decide) (hts (.fieldLink RX7 166 "OptimaWorks$ValueDesk" "listed" "I") (by decide +kernel)) (fun _ h9 => h9) rfl dX7_listingSize_17 ?_
    refine W.known (fun hz9 hn9 => ?_)
    refine W.widen (k := 15001) (n := 140000) (by omega) (by omega) ?_
    exact W.iret (v := iV_listed_j2) hx hb hr (fun t9_ ht hW => ⟨⟨iV_listed_j2, (fV_now_j2, iV_doneFor_j2, iV_changed_j2, gV_fore_j2, gV_back_j2, fV_together_j2, fV_member_j2, gV_list_j2, dV_list_j2, nV_list_j2, iV_listed_j2, iV_listDone_j2), rfl, ⟨(by (try dsimp only); exact (b_iV_changed_j2)), b_fV_member_j2, (by (try dsimp only); exact (by first | exact b_nV_list_j2 | with_reducible assumption | exact ⟨by omega, by omega⟩ | assumption)), (by (try dsimp only); exact (b_iV_listed_j2)), (by (try dsimp only); exact (b_iV_listDone_j2)), (by (try dsimp only); exact (by first | with_reducible assumption | omega | (rw [iI_t (by omega) (by omega)]; omega) | (have h8 : (-1 : Int32).toInt = -1 := (by decide); have h7 : (0 : Int32).toInt = 0 := (by decide); omega))), (b_iV_listed_j2), (by (try dsimp only); omega), (by (try dsimp only); omega)⟩, by rw [ht]; exact hP, hD, by rw [ht]; (try dsimp only); omega, by rw [ht]; (try dsimp only); omega⟩, hS.F ht⟩) hS.2.2 dX7_listingSize_20
theorem dX7_listedValue_0 : decode cX7_listedValue 0 = .ok (.aload_n 0, 1) := dk_42 (by decide +kernel)
theorem dX7_listedValue_1 : decode cX7_listedValue 1 = .ok (.iload_n 2, 1) := dk_28 (by decide +kernel)
theorem dX7_listedValue_2 : decode cX7_listedValue 2 = .ok (.invokevirtual 76, 3) := dk_182 (by decide +kernel)
theorem dX7_listedValue_5 : decode cX7_listedValue 5 = .ok (.ifCond .eq 15, 3) := dk_153 (by decide +kernel)
theorem dX7_listedValue_8 : decode cX7_listedValue 8 = .ok (.iload_n 1, 1) := dk_27 (by decide +kernel)
theorem dX7_listedValue_9 : decode cX7_listedValue 9 = .ok (.ifCond .lt 11, 3) := dk_155 (by decide +kernel)
theorem dX7_listedValue_12 : decode cX7_listedValue 12 = .ok (.iload_n 1, 1) := dk_27 (by decide +kernel)
theorem dX7_listedValue_13 : decode cX7_listedValue 13 = .ok (.aload_n 0, 1) := dk_42 (by decide +kernel)
theorem dX7_listedValue_14 : decode cX7_listedValue 14 = .ok (.invokevirtual 169, 3) := dk_182 (by decide +kernel)
theorem dX7_listedValue_17 : decode cX7_listedValue 17 = .ok (.if_icmp .lt 5, 3) := dk_161 (by decide +kernel)
theorem dX7_listedValue_20 : decode cX7_listedValue 20 = .ok (.iconst (-1), 1) := dk_2 (by decide +kernel)
theorem dX7_listedValue_21 : decode cX7_listedValue 21 = .ok (.ireturn, 1) := dk_172 (by decide +kernel)
theorem dX7_listedValue_22 : decode cX7_listedValue 22 = .ok (.aload_n 0, 1) := dk_42 (by decide +kernel)
theorem dX7_listedValue_23 : decode cX7_listedValue 23 = .ok (.getfield 56, 3) := dk_180 (by decide +kernel)
theorem dX7_listedValue_26 : decode cX7_listedValue 26 = .ok (.iload_n 1, 1) := dk_27 (by decide +kernel)
theorem dX7_listedValue_27 : decode cX7_listedValue 27 = .ok (.laload, 1) := dk_47 (by decide +kernel)
theorem dX7_listedValue_28 : decode cX7_listedValue 28 = .ok (.iconst 4, 1) := dk_7 (by decide +kernel)
theorem dX7_listedValue_29 : decode cX7_listedValue 29 = .ok (.iload_n 2, 1) := dk_28 (by decide +kernel)
theorem dX7_listedValue_30 : decode cX7_listedValue 30 = .ok (.imul, 1) := dk_104 (by decide +kernel)
theorem dX7_listedValue_31 : decode cX7_listedValue 31 = .ok (.lshr, 1) := dk_123 (by decide +kernel)
theorem dX7_listedValue_32 : decode cX7_listedValue 32 = .ok (.ldc2_w 173, 3) := dk_20 (by decide +kernel)
theorem dX7_listedValue_35 : decode cX7_listedValue 35 = .ok (.land, 1) := dk_127 (by decide +kernel)
theorem dX7_listedValue_36 : decode cX7_listedValue 36 = .ok (.l2i, 1) := dk_136 (by decide +kernel)
theorem dX7_listedValue_37 : decode cX7_listedValue 37 = .ok (.ireturn, 1) := dk_172 (by decide +kernel)
def wsMX7_listedValue : List Cond := .code yX7_listedValue cX7_listedValue 3 (some .int) :: ([.fieldLink RX7 56 "OptimaWorks$ValueDesk" "list" "[J", .constantLong RX7 173 15] ++ wsX70 ++ (wsV RX7 76 RX7 yX7_isHolder wsMX7_isHolder) ++ (wsV RX7 169 RX7 yX7_listingSize wsMX7_listingSize))
theorem iwsMX7_listedValue_in7 : ∀ w ∈ wsX70, w ∈ wsMX7_listedValue := fun _ h => List.mem_cons_of_mem _ (List.mem_append_left _ (List.mem_append_left _ (List.mem_append_right _ h)))
theorem gwsMX7_listedValue_0 : GoodIn wsMX7_listedValue (wsV RX7 76 RX7 yX7_isHolder wsMX7_isHolder) := goodIn_sub (fun _ h => List.mem_cons_of_mem _ (List.mem_append_left _ (List.mem_append_right _ h))) (gdV (by decide +kernel) gdwsMX7_isHolder)
theorem gwsMX7_listedValue_1 : GoodIn wsMX7_listedValue (wsV RX7 169 RX7 yX7_listingSize wsMX7_listingSize) := goodIn_sub (fun _ h => List.mem_cons_of_mem _ (List.mem_append_right _ h)) (gdV (by decide +kernel) gdwsMX7_listingSize)
theorem gdwsMX7_listedValue : wsMX7_listedValue.all goodWord = true := gdC rfl (gdA (gdA (gdA (by decide +kernel : ([.fieldLink RX7 56 "OptimaWorks$ValueDesk" "list" "[J", .constantLong RX7 173 15] : List Cond).all goodWord = true) gdwsX70) (gdV (by decide +kernel) gdwsMX7_isHolder)) (gdV (by decide +kernel) gdwsMX7_listingSize))
set_option maxHeartbeats 4000000 in
set_option maxRecDepth 100000 in
/-- a value that is listed -/
theorem m_X7_listedValue (l : Launch) (dC : Nat → ClassId) (dI : Nat → Nat → Nat) (hV : Nat → Nat) (aV : Nat → Nat) (kV : Nat → ClassId) (iV_holders : Int32) (iV_rules : Int32) (fV_pairs : Nat → Int32) (fV_domain : Nat → Int32) (fV_kind : Nat → Int32) (fV_a : Nat → Int32) (fV_b : Nat → Int32) (fV_c : Nat → Int32) (fV_rulePairs : Nat → Int32) (fV_lastHolder : Nat → Int32) (fV_now : Nat → Int32) (iV_doneFor : Int32) (iV_changed : Int32) (gV_fore : Nat → Int64) (gV_back : Nat → Int64) (fV_together : Nat → Int32) (fV_member : Nat → Int32) (gV_list : Nat → Int64) (dV_list : Nat) (nV_list : Nat) (iV_listed : Int32) (iV_listDone : Int32) (p1 : Int32) (p2 : Int32) (b_iV_holders : 0 ≤ iV_holders.toInt ∧ iV_holders.toInt ≤ 10) (b_iV_rules : 0 ≤ iV_rules.toInt ∧ iV_rules.toInt ≤ 12) (b_fV_kind : ∀ q : Nat, 0 ≤ (fV_kind q).toInt ∧ (fV_kind q).toInt ≤ 4) (b_iV_changed : 0 ≤ iV_changed.toInt ∧ iV_changed.toInt ≤ 1) (b_fV_member : ∀ q : Nat, (-1) ≤ (fV_member q).toInt ∧ (fV_member q).toInt ≤ 15) (b_nV_list : 0 ≤ nV_list ∧ nV_list ≤ 20000) (b_iV_listed : (-1) ≤ iV_listed.toInt ∧ iV_listed.toInt ≤ 5000) (b_iV_listDone : 0 ≤ iV_listDone.toInt ∧ iV_listDone.toInt ≤ 1) (b_RuV : RuV fV_kind fV_a fV_b fV_c fV_lastHolder) (b_lst : iV_listed.toInt ≤ ((nV_list : Nat) : Int)) (sz : Nat) : Met l yX7_listedValue wsMX7_listedValue ({ frames := 6, cells := 20001, slots := 180000, locals := 141 }) (va_Pc [.ref (hV 0), .int p1, .int p2] (fun U => U.heap.size = sz ∧ va_P (dC, dI) vwCl (WV hV aV kV iV_holders iV_rules fV_pairs fV_domain fV_kind fV_a fV_b fV_c fV_rulePairs fV_lastHolder fV_now iV_doneFor iV_changed gV_fore gV_back fV_together fV_member gV_list dV_list nV_list iV_listed iV_listDone) U.heap ∧ va_K (dC, dI) vwCl (tV kV) U ∧ va_D (fun _ => True) (WV hV aV kV iV_holders iV_rules fV_pairs fV_domain fV_kind fV_a fV_b fV_c fV_rulePairs fV_lastHolder fV_now iV_doneFor iV_changed gV_fore gV_back fV_together fV_member gV_list dV_list nV_list iV_listed iV_listDone))) (va_Qi (fun (r : Int32) (u : (Nat → Int32) × (Int32) × (Int32) × (Nat → Int64) × (Nat → Int64) × (Nat → Int32) × (Nat → Int32) × (Nat → Int64) × (Nat) × (Nat) × (Int32) × (Int32)) => (0 ≤ (u.2.2.1).toInt ∧ (u.2.2.1).toInt ≤ 1) ∧ (∀ q : Nat, (-1) ≤ ((u.2.2.2.2.2.2.1) q).toInt ∧ ((u.2.2.2.2.2.2.1) q).toInt ≤ 15) ∧ (0 ≤ (u.2.2.2.2.2.2.2.2.2.1) ∧ (u.2.2.2.2.2.2.2.2.2.1) ≤ 20000) ∧ ((-1) ≤ (u.2.2.2.2.2.2.2.2.2.2.1).toInt ∧ (u.2.2.2.2.2.2.2.2.2.2.1).toInt ≤ 5000) ∧ (0 ≤ (u.2.2.2.2.2.2.2.2.2.2.2).toInt ∧ (u.2.2.2.2.2.2.2.2.2.2.2).toInt ≤ 1) ∧ ((u.2.2.2.2.2.2.2.2.2.2.1).toInt ≤ (((u.2.2.2.2.2.2.2.2.2.1) : Nat) : Int)) ∧ (nV_list ≤ (u.2.2.2.2.2.2.2.2.2.1))) (fun (u : (Nat → Int32) × (Int32) × (Int32) × (Nat → Int64) × (Nat → Int64) × (Nat → Int32) × (Nat → Int32) × (Nat → Int64) × (Nat) × (Nat) × (Int32) × (Int32)) t => va_P (dC, dI) vwCl (WV hV aV kV iV_holders iV_rules fV_pairs fV_domain fV_kind fV_a fV_b fV_c fV_rulePairs fV_lastHolder (u.1) (u.2.1) (u.2.2.1) (u.2.2.2.1) (u.2.2.2.2.1) (u.2.2.2.2.2.1) (u.2.2.2.2.2.2.1) (u.2.2.2.2.2.2.2.1) (u.2.2.2.2.2.2.2.2.1) (u.2.2.2.2.2.2.2.2.2.1) (u.2.2.2.2.2.2.2.2.2.2.1) (u.2.2.2.2.2.2.2.2.2.2.2)) t.heap ∧ va_D (va_A (WV hV aV kV iV_holders iV_rules fV_pairs fV_domain fV_kind fV_a fV_b fV_c fV_rulePairs fV_lastHolder fV_now iV_doneFor iV_changed gV_fore gV_back fV_together fV_member gV_list dV_list nV_list iV_listed iV_listDone) sz) (WV hV aV kV iV_holders iV_rules fV_pairs fV_domain fV_kind fV_a fV_b fV_c fV_rulePairs fV_lastHolder (u.1) (u.2.1) (u.2.2.1) (u.2.2.2.1) (u.2.2.2.2.1) (u.2.2.2.2.2.1) (u.2.2.2.2.2.2.1) (u.2.2.2.2.2.2.2.1) (u.2.2.2.2.2.2.2.2.1) (u.2.2.2.2.2.2.2.2.2.1) (u.2.2.2.2.2.2.2.2.2.2.1) (u.2.2.2.2.2.2.2.2.2.2.2)) ∧ t.heap.size + (nV_list / 4) ≤ sz + ((u.2.2.2.2.2.2.2.2.2.1) / 4) ∧ nS sz t.heap + (2 * nV_list) ≤ (2 * (u.2.2.2.2.2.2.2.2.2.1))) (va_A (WV hV aV kV iV_holders iV_rules fV_pairs fV_domain fV_kind fV_a fV_b fV_c fV_rulePairs fV_lastHolder fV_now iV_doneFor iV_changed gV_fore gV_back fV_together fV_member gV_list dV_list nV_list iV_listed iV_listDone) sz)) 20001 180000 (va_A (WV hV aV kV iV_holders iV_rules fV_pairs fV_domain fV_kind fV_a fV_b fV_c fV_rulePairs fV_lastHolder fV_now iV_doneFor iV_changed gV_fore gV_back fV_together fV_member gV_list dV_list nV_list iV_listed iV_listDone) sz) := by
  refine Met.ofW (cc := cX7_listedValue) (maxL := 3) (ret := (some .int)) (by decide) rfl ?_
  intro p e s m args below meth c s₁ B hml hv
  obtain ⟨rfl, hsz, hP, hK, hD0⟩ := hv
  have hx := B.exec
  have hb := B.bytes
  have hr := B.returns
  have hts := atoms_spec (ws := wsMX7_listedValue) B.pre
  have hown : s.vm.findClass RX7 = some m.cls := findClass_of_methodNamed B.named
  have hlocks := B.notSynchronized
  subst hsz
  have hD := hD0.self (sz := s.heap.size)
  generalize hAe : va_A (WV hV aV kV iV_holders iV_rules fV_pairs fV_domain fV_kind fV_a fV_b fV_c fV_rulePairs fV_lastHolder fV_now iV_doneFor iV_changed gV_fore gV_back fV_together fV_member gV_list dV_list nV_list iV_listed iV_listDone) s.heap.size = A at hD ⊢
  have hA : ∀ q : Nat, s.heap.size ≤ q → A q := fun q h => by rw [← hAe]; exact Or.inr h
  have hS : va_S A s.heap s.heap [] := va_S.rf
  have hl := lv_entry ([.ref (hV 0), .int p1, .int p2]) (n := 3) (Nat.le_of_ble_eq_true rfl)
  rw [lg_entry_eq]
  generalize (lg_sl ([.ref (hV 0), .int p1, .int p2]) ++ List.replicate (3 - (lg_sl ([.ref (hV 0), .int p1, .int p2])).length) Slot.unset).toArray = ls at hl ⊢
  have hl : lv_has ls 3 [(0, .ref (hV 0)), (1, .int p1), (2, .int p2)] := hl
  refine W.widen (k := (nV_list / 4 - (nV_list / 4))) (n := (2 * nV_list - (2 * nV_list))) (Nat.zero_le _) (Nat.zero_le _) ?_
  refine lv_aload_n hx hb dX7_listedValue_0 rfl (lv_at hl 0 rfl) ?_
  refine lv_iload_n hx hb dX7_listedValue_1 rfl (lv_at hl 2 rfl) ?_
  have hFc := allFree hD hS hA
  refine va_calli (va_runV (As := [.int p2]) (rest := []) ⟨hx, hb, hml, hown, hts⟩ (m_X7_isHolder l dC dI hV aV kV iV_holders iV_rules fV_pairs fV_domain fV_kind fV_a fV_b fV_c fV_rulePairs fV_lastHolder fV_now iV_doneFor iV_changed gV_fore gV_back fV_together fV_member gV_list dV_list nV_list iV_listed iV_listDone p2 (b_iV_holders) (b_iV_rules) b_fV_kind (b_iV_changed) b_fV_member (by first | exact b_nV_list | with_reducible assumption | exact ⟨by omega, by omega⟩ | assumption) (b_iV_listed) (b_iV_listDone) (by first | with_reducible assumption | omega | assumption) (by first | with_reducible assumption | omega | (rw [iI_t (by omega) (by omega)]; omega) | (have h8 : (-1 : Int32).toInt = -1 := (by decide); have h7 : (0 : Int32).toInt = 0 := (by decide); omega)) s.heap.size) (cwV 1 hts gwsMX7_listedValue_0 rfl rfl rfl (by decide +kernel) ⟨by (dsimp only [headSpec] <;> omega), by (dsimp only [headSpec] <;> omega)⟩) (fz_pre (va_recv hK hP (ci := 7) (q0 := 0) rfl rfl) hP hK hD) rfl rfl hl.1 rfl (lv_room (Nat.le_of_ble_eq_true rfl)) dX7_listedValue_2 ⟨by (dsimp only [headSpec] <;> omega), by (dsimp only [headSpec] <;> omega)⟩) hS (fun q _ h => hFc q h) hFc (fun r1 u t9_ H locs ht hvm hw9 hB9 hz1 hk1 hS => ?_)
  revert hw9
  refine fz_a3 ?_
  intro b_r1 f1_0 f1_1
  have hP : va_P (dC, dI) vwCl (WV hV aV kV iV_holders iV_rules fV_pairs fV_domain fV_kind fV_a fV_b fV_c fV_rulePairs fV_lastHolder fV_now iV_doneFor iV_changed gV_fore gV_back fV_together fV_member gV_list dV_list nV_list iV_listed iV_listDone) H := fz_P ht hB9.1
  have hD : va_D A (WV hV aV kV iV_holders iV_rules fV_pairs fV_domain fV_kind fV_a fV_b fV_c fV_rulePairs fV_lastHolder fV_now iV_doneFor iV_changed gV_fore gV_back fV_together fV_member gV_list dV_list nV_list iV_listed iV_listDone) := hB9.2.weaken (fun _ q _ h => hFc q.1 h)
  refine lv_if_eq (tgt := 20) hx hb dX7_listedValue_5 (by decide) (fun c_5 => ?_) (fun c_5 => ?_)
  · have t_5 : r1.toInt = 0 := toI_eq c_5 rfl (by decide : (0 : Int32).toInt = 0)
    refine lv_iconst (v := (-1)) hx hb dX7_listedValue_20 (by decide) ?_
    refine W.known (fun hz9 hn9 => ?_)
    refine W.widen (k := 20001) (n := 180000) (by omega) (by omega) ?_
    exact W.iret (v := (-1)) hx hb hr (fun t9_ ht hW => ⟨⟨((-1) : Int32), (fV_now, iV_doneFor, iV_changed, gV_fore, gV_back, fV_together, fV_member, gV_list, dV_list, nV_list, iV_listed, iV_listDone), rfl, ⟨(by (try dsimp only); exact (b_iV_changed)), b_fV_member, (by (try dsimp only); exact (by first | exact b_nV_list | with_reducible assumption | exact ⟨by omega, by omega⟩ | assumption)), (by (try dsimp only); exact (b_iV_listed)), (by (try dsimp only); exact (b_iV_listDone)), (by (try dsimp only); exact (by first | with_reducible assumption | omega | (rw [iI_t (by omega) (by omega)]; omega) | (have h8 : (-1 : Int32).toInt = -1 := (by decide); have h7 : (0 : Int32).toInt = 0 := (by decide); omega))), (by (try dsimp only); omega)⟩, by rw [ht]; exact hP, hD, by rw [ht]; (try dsimp only); omega, by rw [ht]; (try dsimp only); omega⟩, hS.F ht⟩) hS.2.2 dX7_listedValue_21
  · have t_5 : ¬ r1.toInt = 0 := toI_neq c_5 rfl (by decide : (0 : Int32).toInt = 0)
    refine lv_iload_n hx hb dX7_listedValue_8 rfl (lv_at hl 1 rfl) ?_
    refine lv_if_lt (tgt := 20) hx hb dX7_listedValue_9 (by decide) (fun c_9 => ?_) (fun c_9 => ?_)
    · have t_9 : p1.toInt < 0 := toI_lt c_9 rfl (by decide : (0 : Int32).toInt = 0)
      refine lv_iconst (v := (-1)) hx hb dX7_listedValue_20 (by decide) ?_
      refine W.known (fun hz9 hn9 => ?_)
      refine W.widen (k := 20001) (n := 180000) (by omega) (by omega) ?_
      exact W.iret (v := (-1)) hx hb hr (fun t9_ ht hW => ⟨⟨((-1) : Int32), (fV_now, iV_doneFor, iV_changed, gV_fore, gV_back, fV_together, fV_member, gV_list, dV_list, nV_list, iV_listed, iV_listDone), rfl, ⟨(by (try dsimp only); exact (b_iV_changed)), b_fV_member, (by (try dsimp only); exact (by first | exact b_nV_list | with_reducible assumption | exact ⟨by omega, by omega⟩ | assumption)), (by (try dsimp only); exact (b_iV_listed)), (by (try dsimp only); exact (b_iV_listDone)), (by (try dsimp only); exact (by first | with_reducible assumption | omega | (rw [iI_t (by omega) (by omega)]; omega) | (have h8 : (-1 : Int32).toInt = -1 := (by decide); have h7 : (0 : Int32).toInt = 0 := (by decide); omega))), (by (try dsimp only); omega)⟩, by rw [ht]; exact hP, hD, by rw [ht]; (try dsimp only); omega, by rw [ht]; (try dsimp only); omega⟩, hS.F ht⟩) hS.2.2 dX7_listedValue_21
    · have t_9 : ¬ p1.toInt < 0 := toI_nlt c_9 rfl (by decide : (0 : Int32).toInt = 0)
      refine lv_iload_n hx hb dX7_listedValue_12 rfl (lv_at hl 1 rfl) ?_
      refine lv_aload_n hx hb dX7_listedValue_13 rfl (lv_at hl 0 rfl) ?_
      refine W.known (fun hz0 hn0 => ?_)
      have hS0 := hS.1
      have hFc := allFree hD hS hA
      refine va_calli (va_runV (As := []) (rest := [.int p1]) ⟨hx, hb, hml, hown, hts⟩ (Met.sI (m_X7_listingSize l dC dI hV aV kV iV_holders iV_rules fV_pairs fV_domain fV_kind fV_a fV_b fV_c fV_rulePairs fV_lastHolder fV_now iV_doneFor iV_changed gV_fore gV_back fV_together fV_member gV_list dV_list nV_list iV_listed iV_listDone (b_iV_holders) (b_iV_rules) b_fV_kind (b_iV_changed) b_fV_member (by first | exact b_nV_list | with_reducible assumption | exact ⟨by omega, by omega⟩ | assumption) (b_iV_listed) (b_iV_listDone) (by first | with_reducible assumption | omega | assumption) (by first | with_reducible assumption | omega | (rw [iI_t (by omega) (by omega)]; omega) | (have h8 : (-1 : Int32).toInt = -1 := (by decide); have h7 : (0 : Int32).toInt = 0 := (by decide); omega)) H.size) H) (cwV 0 hts gwsMX7_listedValue_1 rfl rfl rfl (by decide +kernel) ⟨by (dsimp only [headSpec] <;> omega), by (dsimp only [headSpec] <;> omega)⟩) ⟨fun a U g mk q => by obtain ⟨q0, qh, q1, qP, qK, qD⟩ := q; exact ⟨q0, qh, q1, qP, va_K.moved (u := U) (U := U.calling g mk a) (Vm.Alike.refl U.vm) qK, qD⟩, va_recv hK hP (ci := 7) (q0 := 0) rfl rfl, fun U hU9 hW => ⟨rfl, hU9, by rw [hU9], by rw [hU9]; exact hP, va_K.moved hW.alike hK, hD.weaken (fun _ _ _ _ => trivial)⟩⟩ rfl rfl hl.1 rfl (lv_room (Nat.le_of_ble_eq_true rfl)) dX7_listedValue_14 ⟨by (dsimp only [headSpec] <;> omega), by (dsimp only [headSpec] <;> omega)⟩) hS (fun q _ h => hFc q h) hFc (fun r2 u t9_ H1 locs ht hvm hw9 hB9 hz1 hk1 hS => ?_)
      revert u hw9 hB9
      refine fz_p12 ?_
      intro fV_now_2 iV_doneFor_2 iV_changed_2 gV_fore_2 gV_back_2 fV_together_2 fV_member_2 gV_list_2 dV_list_2 nV_list_2 iV_listed_2 iV_listDone_2 hw9 hB9
      try dsimp only at hw9 hB9
      revert hw9
      refine fz_a9 ?_
      intro b_iV_changed_2 b_fV_member_2 b_nV_list_2 b_iV_listed_2 b_iV_listDone_2 b_lst_2 b_r2 f2_0 f2_1
      obtain ⟨⟨hP1, hD1, hg1, hg2⟩, hSz⟩ := hB9
      rw [ht] at hP1 hSz hg1 hg2
      have hP := hP1
      have hD := hD1.weaken (fun _ q _ h => hFc q.1 h)
      have hz9 : H1.size ≤ s.heap.size + (nV_list_2 / 4 - (nV_list / 4)) := by (try dsimp only at hg1); omega
      have hn9 : nS s.heap.size H1 ≤ (2 * nV_list_2 - (2 * nV_list)) := by rw [hSz.n hS0]; (try dsimp only at hg2); omega
      refine W.tight (cells2 := (nV_list_2 / 4 - (nV_list / 4))) (slots2 := (2 * nV_list_2 - (2 * nV_list))) hz9 hn9 ?_
      clear hz9 hn9 hz0 hn0 hS0 hSz hg1 hg2
      generalize H1 = H at hP hS ⊢
      have hP : va_P (dC, dI) vwCl (WV hV aV kV iV_holders iV_rules fV_pairs fV_domain fV_kind fV_a fV_b fV_c fV_rulePairs fV_lastHolder fV_now_2 iV_doneFor_2 iV_changed_2 gV_fore_2 gV_back_2 fV_together_2 fV_member_2 gV_list_2 dV_list_2 nV_list_2 iV_listed_2 iV_listDone_2) H := hP
      have hD : va_D A (WV hV aV kV iV_holders iV_rules fV_pairs fV_domain fV_kind fV_a fV_b fV_c fV_rulePairs fV_lastHolder fV_now_2 iV_doneFor_2 iV_changed_2 gV_fore_2 gV_back_2 fV_together_2 fV_member_2 gV_list_2 dV_list_2 nV_list_2 iV_listed_2 iV_listDone_2) := hD
      refine lv_icmp_lt (tgt := 22) hx hb dX7_listedValue_17 (by decide) (fun c_17 => ?_) (fun c_17 => ?_)
      · have t_17 : p1.toInt < r2.toInt := toI_lt c_17 rfl rfl
        refine lv_aload_n hx hb dX7_listedValue_22 rfl (lv_at hl 0 rfl) ?_
        refine va_get (D := (dC, dI)) (ci := 7) (v := .ref dV_list_2) (C := RX7) (T := TX7) (N := 20) hx hb hts iwsMX7_listedValue_in7 hown hK hP 0 rfl rfl 17 (by decide) (hts (.fieldLink RX7 56 "OptimaWorks$ValueDesk" "list" "[J") (by decide +kernel)) (fun _ h9 => h9) rfl dX7_listedValue_23 ?_
        refine lv_iload_n hx hb dX7_listedValue_26 rfl (lv_at hl 1 rfl) ?_
        refine va_lald (cA := kV 13) (n := nV_list_2) (f := gV_list_2) hx hb hK hP 14 13 rfl rfl (vp_in_iff.mpr ⟨(by omega), (by omega)⟩) dX7_listedValue_27 ?_
        refine lv_topl (fun v3 hv3 => ?_)
        clear hv3
        refine lv_iconst (v := 4) hx hb dX7_listedValue_28 (by decide) ?_
        refine lv_iload_n hx hb dX7_listedValue_29 rfl (lv_at hl 2 rfl) ?_
        refine lv_imul hx hb dX7_listedValue_30 ?_
        refine lv_topi (fun y4 hy4 => ?_)
        obtain rfl : (iI (4 * p2.toInt)) = y4 := (hy4.trans (iI_mul2 (by decide : (4 : Int32) = iI 4) (iI_of _))).symm
        refine lv_lshr hx hb dX7_listedValue_31 rfl ?_
        refine lv_topl (fun v5 hv5 => ?_)
        clear hv5
        refine lv_ldc2 (v := 15) hx hb hown (hts (.constantLong RX7 173 15) (by decide +kernel)) dX7_listedValue_32 ?_
        refine lv_land hx hb dX7_listedValue_35 ?_
        refine lv_topl (fun v6 hv6 => ?_)
        clear hv6
        refine lv_l2i hx hb dX7_listedValue_36 rfl ?_
        refine lv_topi (fun v7 hv7 => ?_)
        clear hv7
        refine W.known (fun hz9 hn9 => ?_)
        refine W.widen (k := 20001) (n := 180000) (by omega) (by omega) ?_
        exact W.iret (v := v7) hx hb hr (fun t9_ ht hW => ⟨⟨v7, (fV_now_2, iV_doneFor_2, iV_changed_2, gV_fore_2, gV_back_2, fV_together_2, fV_member_2, gV_list_2, dV_list_2, nV_list_2, iV_listed_2, iV_listDone_2), rfl, ⟨(by (try dsimp only); exact (b_iV_changed_2)), b_fV_member_2, (by (try dsimp only); exact (by first | exact b_nV_list_2 | with_reducible assumption | exact ⟨by omega, by omega⟩ | assumption)), (by (try dsimp only); exact (b_iV_listed_2)), (by (try dsimp only); exact (b_iV_listDone_2)), (by (try dsimp only); exact (by first | with_reducible assumption | omega | (rw [iI_t (by omega) (by omega)]; omega) | (have h8 : (-1 : Int32).toInt = -1 := (by decide); have h7 : (0 : Int32).toInt = 0 := (by decide); omega))), (by (try dsimp only); omega)⟩, by rw [ht]; exact hP, hD, by rw [ht]; (try dsimp only); omega, by rw [ht]; (try dsimp only); omega⟩, hS.F ht⟩) hS.2.2 dX7_listedValue_37
      · have t_17 : ¬ p1.toInt < r2.toInt := toI_nlt c_17 rfl rfl
        refine lv_iconst (v := (-1)) hx hb dX7_listedValue_20 (by decide) ?_
        refine W.known (fun hz9 hn9 => ?_)
        refine W.widen (k := 20001) (n := 180000) (by omega) (by omega) ?_
        exact W.iret (v := (-1)) hx hb hr (fun t9_ ht hW => ⟨⟨((-1) : Int32), (fV_now_2, iV_doneFor_2, iV_changed_2, gV_fore_2, gV_back_2, fV_together_2, fV_member_2, gV_list_2, dV_list_2, nV_list_2, iV_listed_2, iV_listDone_2), rfl, ⟨(by (try dsimp only); exact (b_iV_changed_2)), b_fV_member_2, (by (try dsimp only); exact (by first | exact b_nV_list_2 | with_reducible assumption | exact ⟨by omega, by omega⟩ | assumption)), (by (try dsimp only); exact (b_iV_listed_2)), (by (try dsimp only); exact (b_iV_listDone_2)), (by (try dsimp only); exact (by first | with_reducible assumption | omega | (rw [iI_t (by omega) (by omega)]; omega) | (have h8 : (-1 : Int32).toInt = -1 := (by decide); have h7 : (0 : Int32).toInt = 0 := (by decide); omega))), (by (try dsimp only); omega)⟩, by rw [ht]; exact hP, hD, by rw [ht]; (try dsimp only); omega, by rw [ht]; (try dsimp only); omega⟩, hS.F ht⟩) hS.2.2 dX7_listedValue_21
end
section
theorem dX4_makeRoom_0 : decode cX4_makeRoom 0 = .ok (.bipush 7, 2) := dk_16 (by decide +kernel)
theorem dX4_makeRoom_2 : decode cX4_makeRoom 2 = .ok (.iconst 2, 1) := dk_5 (by decide +kernel)
theorem dX4_makeRoom_3 : decode cX4_makeRoom 3 = .ok (.aload_n 0, 1) := dk_42 (by decide +kernel)
theorem dX4_makeRoom_4 : decode cX4_makeRoom 4 = .ok (.getfield 19, 3) := dk_180 (by decide +kernel)
theorem dX4_makeRoom_7 : decode cX4_makeRoom 7 = .ok (.getfield 39, 3) := dk_180 (by decide +kernel)
theorem dX4_makeRoom_10 : decode cX4_makeRoom 10 = .ok (.imul, 1) := dk_104 (by decide +kernel)
theorem dX4_makeRoom_11 : decode cX4_makeRoom 11 = .ok (.bipush 16, 2) := dk_16 (by decide +kernel)
theorem dX4_makeRoom_13 : decode cX4_makeRoom 13 = .ok (.iadd, 1) := dk_96 (by decide +kernel)
theorem dX4_makeRoom_14 : decode cX4_makeRoom 14 = .ok (.imul, 1) := dk_104 (by decide +kernel)
theorem dX4_makeRoom_15 : decode cX4_makeRoom 15 = .ok (.istore_n 1, 1) := dk_60 (by decide +kernel)
theorem dX4_makeRoom_16 : decode cX4_makeRoom 16 = .ok (.aload_n 0, 1) := dk_42 (by decide +kernel)
theorem dX4_makeRoom_17 : decode cX4_makeRoom 17 = .ok (.getfield 11, 3) := dk_180 (by decide +kernel)
theorem dX4_makeRoom_20 : decode cX4_makeRoom 20 = .ok (.arraylength, 1) := dk_190 (by decide +kernel)
theorem dX4_makeRoom_21 : decode cX4_makeRoom 21 = .ok (.iload_n 1, 1) := dk_27 (by decide +kernel)
theorem dX4_makeRoom_22 : decode cX4_makeRoom 22 = .ok (.if_icmp .ge 20, 3) := dk_162 (by decide +kernel)
theorem dX4_makeRoom_25 : decode cX4_makeRoom 25 = .ok (.aload_n 0, 1) := dk_42 (by decide +kernel)
theorem dX4_makeRoom_26 : decode cX4_makeRoom 26 = .ok (.iload_n 1, 1) := dk_27 (by decide +kernel)
theorem dX4_makeRoom_27 : decode cX4_makeRoom 27 = .ok (.iconst 2, 1) := dk_5 (by decide +kernel)
theorem dX4_makeRoom_28 : decode cX4_makeRoom 28 = .ok (.aload_n 0, 1) := dk_42 (by decide +kernel)
theorem dX4_makeRoom_29 : decode cX4_makeRoom 29 = .ok (.getfield 11, 3) := dk_180 (by decide +kernel)
theorem dX4_makeRoom_32 : decode cX4_makeRoom 32 = .ok (.arraylength, 1) := dk_190 (by decide +kernel)
theorem dX4_makeRoom_33 : decode cX4_makeRoom 33 = .ok (.imul, 1) := dk_104 (by decide +kernel)
theorem dX4_makeRoom_34 : decode cX4_makeRoom 34 = .ok (.invokestatic 97, 3) := dk_184 (by decide +kernel)
theorem dX4_makeRoom_37 : decode cX4_makeRoom 37 = .ok (.newarray .int, 2) := by decide +kernel
theorem dX4_makeRoom_39 : decode cX4_makeRoom 39 = .ok (.putfield 11, 3) := dk_181 (by decide +kernel)
theorem dX4_makeRoom_42 : decode cX4_makeRoom 42 = .ok (.return_, 1) := dk_177 (by decide +kernel)
def wsMX4_makeRoom : List Cond := .code yX4_makeRoom cX4_makeRoom 2 none :: ([.fieldLink RX4 19 "OptimaWorks$Reader" "words" "LOptimaWorks$Words;", .fieldLink RX4 39 "OptimaWorks$Words" "length" "I", .fieldLink RX4 11 "OptimaWorks$Reader" "tree" "[I", .methodLink RX4 97 Lib.Math.max.name, .static Lib.Math.max.name, .initialized "java/lang/Math", .code Lib.Math.max.name Lib.Math.max.code 2 (some .int), .arrayClass .int] ++ wsX40 ++ wsX90)
theorem iwsMX4_makeRoom_in4 : ∀ w ∈ wsX40, w ∈ wsMX4_makeRoom := fun _ h => List.mem_cons_of_mem _ (List.mem_append_left _ (List.mem_append_right _ h))
theorem iwsMX4_makeRoom_in9 : ∀ w ∈ wsX90, w ∈ wsMX4_makeRoom := fun _ h => List.mem_cons_of_mem _ (List.mem_append_right _ h)
theorem gdwsMX4_makeRoom : wsMX4_makeRoom.all goodWord = true := gdC rfl (gdA (gdA (by decide +kernel : ([.fieldLink RX4 19 "OptimaWorks$Reader" "words" "LOptimaWorks$Words;", .fieldLink RX4 39 "OptimaWorks$Words" "length" "I", .fieldLink RX4 11 "OptimaWorks$Reader" "tree" "[I", .methodLink RX4 97 Lib.Math.max.name, .static Lib.Math.max.name, .initialized "java/lang/Math", .code Lib.Math.max.name Lib.Math.max.code 2 (some .int), .arrayClass .int] : List Cond).all goodWord = true) gdwsX40) gdwsX90)
set_option maxHeartbeats 4000000 in
set_option maxRecDepth 100000 in
/-- room for the tree -/
theorem m_X4_makeRoom (l : Launch) (dC : Nat → ClassId) (dI : Nat → Nat → Nat) (hJ : Nat → Nat) (aJ : Nat → Nat) (kJ : Nat → ClassId) (hT : Nat → Nat) (hM : Nat → Nat) (hL : Nat → Nat) (iJ_used : Int32) (iJ_depth : Int32) (jJ_ownName : Int64) (gJ_binder : Nat → Int64) (iJ_binders : Int32) (iJ_firstSet : Int32) (iJ_secondSet : Int32) (hF : Nat → Nat) (aF : Nat → Nat) (kF : Nat → ClassId) (dF_tree : Nat) (nF_tree : Nat) (fF_tree : Nat → Int32) (aT : Nat → Nat) (kT : Nat → ClassId) (fT_tape : Nat → Int32) (dT_tape : Nat) (nT_tape : Nat) (iT_length : Int32) (iT_fault : Int32) (iT_place : Int32) (iT_kind : Int32) (iT_at : Int32) (iT_number : Int32) (jT_name : Int64) (iT_next : Int32) (b_iJ_used : 0 ≤ iJ_used.toInt ∧ iJ_used.toInt ≤ 72200) (b_iJ_depth : 0 ≤ iJ_depth.toInt ∧ iJ_depth.toInt ≤ 25) (b_iJ_binders : 0 ≤ iJ_binders.toInt ∧ iJ_binders.toInt ≤ 64) (b_iJ_firstSet : (-1) ≤ iJ_firstSet.toInt ∧ iJ_firstSet.toInt ≤ 39) (b_iJ_secondSet : (-1) ≤ iJ_secondSet.toInt ∧ iJ_secondSet.toInt ≤ 39) (b_nF_tree : 7 ≤ nF_tree ∧ nF_tree ≤ 72200) (b_fT_tape : ∀ q : Nat, (-128) ≤ (fT_tape q).toInt ∧ (fT_tape q).toInt ≤ 127) (b_nT_tape : 64 ≤ nT_tape ∧ nT_tape ≤ 2560) (b_iT_length : 0 ≤ iT_length.toInt ∧ iT_length.toInt ≤ 1280) (b_iT_at : 0 ≤ iT_at.toInt ∧ iT_at.toInt ≤ 1282) (b_iT_number : 0 ≤ iT_number.toInt ∧ iT_number.toInt ≤ 999999) (b_iT_next : 0 ≤ iT_next.toInt ∧ iT_next.toInt ≤ 1282) (b_len : iT_length.toInt ≤ ((nT_tape : Nat) : Int)) (sz : Nat) : Met l yX4_makeRoom wsMX4_makeRoom ({ frames := 1, cells := 9027, slots := 288800, locals := 14 }) (va_Pc [.ref (hJ 0)] (fun U => U.heap.size = sz ∧ va_P (dC, dI) vwCl (WJ hJ aJ kJ hT hM hL (.ref dF_tree) iJ_used iJ_depth jJ_ownName gJ_binder iJ_binders iJ_firstSet iJ_secondSet ++ (WF hF aF kF dF_tree nF_tree fF_tree ++ (WT hT aT kT fT_tape dT_tape nT_tape iT_length iT_fault iT_place iT_kind iT_at iT_number jT_name iT_next))) U.heap ∧ va_K (dC, dI) vwCl (tJ kJ ++ (tF kF ++ (tT kT))) U ∧ va_D (fun _ => True) (WJ hJ aJ kJ hT hM hL (.ref dF_tree) iJ_used iJ_depth jJ_ownName gJ_binder iJ_binders iJ_firstSet iJ_secondSet ++ (WF hF aF kF dF_tree nF_tree fF_tree ++ (WT hT aT kT fT_tape dT_tape nT_tape iT_length iT_fault iT_place iT_kind iT_at iT_number jT_name iT_next))))) (va_Qv (fun (u : (Nat) × (Nat) × (Nat → Int32)) => (7 ≤ (u.2.1) ∧ (u.2.1) ≤ 72200) ∧ (nF_tree ≤ (u.2.1)) ∧ (7 * (2 * iT_length.toInt + 16) ≤ (((u.2.1) : Nat) : Int))) (fun (u : (Nat) × (Nat) × (Nat → Int32)) t => va_P (dC, dI) vwCl (WJ hJ aJ kJ hT hM hL (.ref (u.1)) iJ_used iJ_depth jJ_ownName gJ_binder iJ_binders iJ_firstSet iJ_secondSet ++ (WF hF aF kF (u.1) (u.2.1) (u.2.2) ++ (WT hT aT kT fT_tape dT_tape nT_tape iT_length iT_fault iT_place iT_kind iT_at iT_number jT_name iT_next))) t.heap ∧ va_D (va_A (WJ hJ aJ kJ hT hM hL (.ref dF_tree) iJ_used iJ_depth jJ_ownName gJ_binder iJ_binders iJ_firstSet iJ_secondSet ++ (WF hF aF kF dF_tree nF_tree fF_tree ++ (WT hT aT kT fT_tape dT_tape nT_tape iT_length iT_fault iT_place iT_kind iT_at iT_number jT_name iT_next))) sz) (WJ hJ aJ kJ hT hM hL (.ref (u.1)) iJ_used iJ_depth jJ_ownName gJ_binder iJ_binders iJ_firstSet iJ_secondSet ++ (WF hF aF kF (u.1) (u.2.1) (u.2.2) ++ (WT hT aT kT fT_tape dT_tape nT_tape iT_length iT_fault iT_place iT_kind iT_at iT_number jT_name iT_next))) ∧ t.heap.size + (nF_tree / 8) ≤ sz + ((u.2.1) / 8) ∧ nS sz t.heap + (2 * nF_tree) ≤ (2 * (u.2.1))) (va_A (WJ hJ aJ kJ hT hM hL (.ref dF_tree) iJ_used iJ_depth jJ_ownName gJ_binder iJ_binders iJ_firstSet iJ_secondSet ++ (WF hF aF kF dF_tree nF_tree fF_tree ++ (WT hT aT kT fT_tape dT_tape nT_tape iT_length iT_fault iT_place iT_kind iT_at iT_number jT_name iT_next))) sz)) 9027 288800 (va_A (WJ hJ aJ kJ hT hM hL (.ref dF_tree) iJ_used iJ_depth jJ_ownName gJ_binder iJ_binders iJ_firstSet iJ_secondSet ++ (WF hF aF kF dF_tree nF_tree fF_tree ++ (WT hT aT kT fT_tape dT_tape nT_tape iT_length iT_fault iT_place iT_kind iT_at iT_number jT_name iT_next))) sz) := by
  refine Met.ofW (cc := cX4_makeRoom) (maxL := 2) (ret := none) (by decide) rfl ?_
  intro p e s m args below meth c s₁ B hml hv
  obtain ⟨rfl, hsz, hP, hK, hD0⟩ := hv
  have hx := B.exec
  have hb := B.bytes
  have hr := B.returns
  have hts := atoms_spec (ws := wsMX4_makeRoom) B.pre
  have hown : s.vm.findClass RX4 = some m.cls := findClass_of_methodNamed B.named
  have hlocks := B.notSynchronized
  subst hsz
  have hD := hD0.self (sz := s.heap.size)
  generalize hAe : va_A (WJ hJ aJ kJ hT hM hL (.ref dF_tree) iJ_used iJ_depth jJ_ownName gJ_binder iJ_binders iJ_firstSet iJ_secondSet ++ (WF hF aF kF dF_tree nF_tree fF_tree ++ (WT hT aT kT fT_tape dT_tape nT_tape iT_length iT_fault iT_place iT_kind iT_at iT_number jT_name iT_next))) s.heap.size = A at hD ⊢
  have hA : ∀ q : Nat, s.heap.size ≤ q → A q := fun q h => by rw [← hAe]; exact Or.inr h
  have hS : va_S A s.heap s.heap [] := va_S.rf
  have hl := lv_entry ([.ref (hJ 0)]) (n := 2) (Nat.le_of_ble_eq_true rfl)
  rw [lg_entry_eq]
  generalize (lg_sl ([.ref (hJ 0)]) ++ List.replicate (2 - (lg_sl ([.ref (hJ 0)])).length) Slot.unset).toArray = ls at hl ⊢
  have hl : lv_has ls 2 [(0, .ref (hJ 0))] := hl
  refine W.widen (k := (nF_tree / 8 - (nF_tree / 8))) (n := (2 * nF_tree - (2 * nF_tree))) (Nat.zero_le _) (Nat.zero_le _) ?_
  refine lv_bipush (v := 7) hx hb dX4_makeRoom_0 (by decide) ?_
  refine lv_iconst (v := 2) hx hb dX4_makeRoom_2 (by decide) ?_
  refine lv_aload_n hx hb dX4_makeRoom_3 rfl (lv_at hl 0 rfl) ?_
  refine va_get (D := (dC, dI)) (ci := 4) (v := .ref (hT 0)) (C := RX4) (T := TX4) (N := 11) hx hb hts iwsMX4_makeRoom_in4 hown hK hP 0 rfl rfl 0 (by decide) (hts (.fieldLink RX4 19 "OptimaWorks$Reader" "words" "LOptimaWorks$Words;") (by decide +kernel)) (fun _ h9 => h9) rfl dX4_makeRoom_4 ?_
  refine va_get (D := (dC, dI)) (ci := 9) (v := .int iT_length) (C := RX9) (T := TX9) (N := 9) hx hb hts iwsMX4_makeRoom_in9 hown hK hP 3 rfl rfl 1 (by decide) (hts (.fieldLink RX4 39 "OptimaWorks$Words" "length" "I") (by decide +kernel)) (fun _ h9 => h9) rfl dX4_makeRoom_7 ?_
  refine lv_imul hx hb dX4_makeRoom_10 ?_
  refine lv_topi (fun y1 hy1 => ?_)
  obtain rfl : (iI (2 * iT_length.toInt)) = y1 := (hy1.trans (iI_mul2 (by decide : (2 : Int32) = iI 2) (iI_of _))).symm
  refine lv_bipush (v := 16) hx hb dX4_makeRoom_11 (by decide) ?_
  refine lv_iadd hx hb dX4_makeRoom_13 ?_
  refine lv_topi (fun y2 hy2 => ?_)
  obtain rfl : (iI ((2 * iT_length.toInt) + 16)) = y2 := (hy2.trans (iI_add2 rfl (by decide : (16 : Int32) = iI 16))).symm
  refine lv_imul hx hb dX4_makeRoom_14 ?_
  refine lv_topi (fun y3 hy3 => ?_)
  obtain rfl : (iI (7 * ((2 * iT_length.toInt) + 16))) = y3 := (hy3.trans (iI_mul2 (by decide : (7 : Int32) = iI 7) rfl)).symm
  refine lv_istore_n hx hb dX4_makeRoom_15 rfl hl (by decide) rfl (fun ls (hl : lv_has ls _ ([(1, .int (iI (7 * ((2 * iT_length.toInt) + 16)))), (0, .ref (hJ 0))])) => ?_)
  refine lv_aload_n hx hb dX4_makeRoom_16 rfl (lv_at hl 1 rfl) ?_
  refine va_get (D := (dC, dI)) (ci := 4) (v := .ref dF_tree) (C := RX4) (T := TX4) (N := 11) hx hb hts iwsMX4_makeRoom_in4 hown hK hP 0 rfl rfl 3 (by decide) (hts (.fieldLink RX4 11 "OptimaWorks$Reader" "tree" "[I") (by decide +kernel)) (fun _ h9 => h9) rfl dX4_makeRoom_17 ?_
  refine va_alen hx hb hK hP 2 1 rfl rfl (v := (iI ((nF_tree : Nat) : Int))) (iI_nat _) dX4_makeRoom_20 ?_
  refine lv_iload_n hx hb dX4_makeRoom_21 rfl (lv_at hl 0 rfl) ?_
  refine W.known (fun hzk hnk => ?_)
  refine W.widen (k := 9025) (n := 144400) (by omega) (by omega) ?_
  refine W.cut (pc := 42) (fun H locs ls stk => ∃ (dF_tree_j2 : Nat) (nF_tree_j2 : Nat) (fF_tree_j2 : Nat → Int32), (7 ≤ nF_tree_j2 ∧ nF_tree_j2 ≤ 72200) ∧ (7 * (2 * iT_length.toInt + 16) ≤ ((nF_tree_j2 : Nat) : Int)) ∧ (nF_tree ≤ nF_tree_j2) ∧ (H.size + (nF_tree / 8) ≤ s.heap.size + (nF_tree_j2 / 8) ∧ nS s.heap.size H + (2 * nF_tree) ≤ (2 * nF_tree_j2)) ∧  stk = [] ∧ va_P (dC, dI) vwCl (WJ hJ aJ kJ hT hM hL (.ref dF_tree_j2) iJ_used iJ_depth jJ_ownName gJ_binder iJ_binders iJ_firstSet iJ_secondSet ++ (WF hF aF kF dF_tree_j2 nF_tree_j2 fF_tree_j2 ++ (WT hT aT kT fT_tape dT_tape nT_tape iT_length iT_fault iT_place iT_kind iT_at iT_number jT_name iT_next))) H ∧ va_D A (WJ hJ aJ kJ hT hM hL (.ref dF_tree_j2) iJ_used iJ_depth jJ_ownName gJ_binder iJ_binders iJ_firstSet iJ_secondSet ++ (WF hF aF kF dF_tree_j2 nF_tree_j2 fF_tree_j2 ++ (WT hT aT kT fT_tape dT_tape nT_tape iT_length iT_fault iT_place iT_kind iT_at iT_number jT_name iT_next))) ∧ va_S A s.heap H locs ∧ lv_has ls 2 [(1, .int (iI (7 * ((2 * iT_length.toInt) + 16)))), (0, .ref (hJ 0))]) (fun join2 => ?_) ?_
  · refine W.tight (cells2 := (nF_tree / 8 - (nF_tree / 8))) (slots2 := (2 * nF_tree - (2 * nF_tree))) hzk hnk ?_
    refine lv_icmp_ge (tgt := 42) hx hb dX4_makeRoom_22 (by decide) (fun c_22 => ?_) (fun c_22 => ?_)
    · first | (have t_22 : ((nF_tree : Nat) : Int) ≥ (7 * ((2 * iT_length.toInt) + 16)) := toI_ge c_22 (iI_t (by omega) (by omega)) (iI_t (Int.le_trans (by decide) (Int.mul_le_mul_of_nonneg_left (Int.add_le_add (Int.mul_le_mul_of_nonneg_left (b_iT_length.1) (by decide)) (Int.le_refl _)) (by decide))) (Int.le_trans (Int.mul_le_mul_of_nonneg_left (Int.add_le_add (Int.mul_le_mul_of_nonneg_left (b_iT_length.2) (by decide)) (Int.le_refl _)) (by decide)) (by decide)))) | skip
      have hl : lv_has _ _ ([(1, .int (iI (7 * ((2 * iT_length.toInt) + 16)))), (0, .ref (hJ 0))]) := lv_sub hl [0, 1] rfl
      refine W.known (fun hza hna => ?_)
      refine W.widen (k := 9025) (n := 144400) (by omega) (by omega) ?_
      exact join2 _ _ _ _ ⟨dF_tree, nF_tree, fF_tree, (by first | exact b_nF_tree | with_reducible assumption | exact ⟨by omega, by omega⟩ | assumption), (show 7 * (2 * iT_length.toInt + 16) ≤ ((nF_tree : Nat) : Int) from by omega), (show nF_tree ≤ nF_tree from by omega), ⟨by omega, by omega⟩, rfl, hP, hD, hS, hl⟩
    · first | (have t_22 : ¬ ((nF_tree : Nat) : Int) ≥ (7 * ((2 * iT_length.toInt) + 16)) := toI_nge c_22 (iI_t (by omega) (by omega)) (iI_t (Int.le_trans (by decide) (Int.mul_le_mul_of_nonneg_left (Int.add_le_add (Int.mul_le_mul_of_nonneg_left (b_iT_length.1) (by decide)) (Int.le_refl _)) (by decide))) (Int.le_trans (Int.mul_le_mul_of_nonneg_left (Int.add_le_add (Int.mul_le_mul_of_nonneg_left (b_iT_length.2) (by decide)) (Int.le_refl _)) (by decide)) (by decide)))) | skip
      refine lv_aload_n hx hb dX4_makeRoom_25 rfl (lv_at hl 1 rfl) ?_
      refine lv_iload_n hx hb dX4_makeRoom_26 rfl (lv_at hl 0 rfl) ?_
      refine lv_iconst (v := 2) hx hb dX4_makeRoom_27 (by decide) ?_
      refine lv_aload_n hx hb dX4_makeRoom_28 rfl (lv_at hl 1 rfl) ?_
      refine va_get (D := (dC, dI)) (ci := 4) (v := .ref dF_tree) (C := RX4) (T := TX4) (N := 11) hx hb hts iwsMX4_makeRoom_in4 hown hK hP 0 rfl rfl 3 (by decide) (hts (.fieldLink RX4 11 "OptimaWorks$Reader" "tree" "[I") (by decide +kernel)) (fun _ h9 => h9) rfl dX4_makeRoom_29 ?_
      refine va_alen hx hb hK hP 2 1 rfl rfl (v := (iI ((nF_tree : Nat) : Int))) (iI_nat _) dX4_makeRoom_32 ?_
      refine lv_imul hx hb dX4_makeRoom_33 ?_
      refine lv_topi (fun y7 hy7 => ?_)
      obtain rfl : (iI (2 * ((nF_tree : Nat) : Int))) = y7 := (hy7.trans (iI_mul2 (by decide : (2 : Int32) = iI 2) rfl)).symm
      refine va_mmax hx hb (by rw [hml]; exact hl.1.symm) hown (hts (.methodLink RX4 97 Lib.Math.max.name) (by decide +kernel)) (hts (.static Lib.Math.max.name) (by decide +kernel)) (hts (.initialized "java/lang/Math") (by decide +kernel)) (hts (.code Lib.Math.max.name Lib.Math.max.code 2 (some .int)) (by decide +kernel)) (by (dsimp only [headSpec] <;> omega)) (Nat.le_of_ble_eq_true rfl) (by (dsimp only [headSpec] <;> omega)) (by (dsimp only [headSpec] <;> omega)) dX4_makeRoom_34 ?_
      refine lv_topi (fun v8 hv8 => ?_)
      first | (have b_v8 : ((7 * ((2 * iT_length.toInt) + 16)) ≤ v8.toInt ∧ (2 * ((nF_tree : Nat) : Int)) ≤ v8.toInt) ∧ (v8.toInt = (7 * ((2 * iT_length.toInt) + 16)) ∨ v8.toInt = (2 * ((nF_tree : Nat) : Int))) := by rw [hv8]; exact max_t (iI_t (Int.le_trans (by decide) (Int.mul_le_mul_of_nonneg_left (Int.add_le_add (Int.mul_le_mul_of_nonneg_left (b_iT_length.1) (by decide)) (Int.le_refl _)) (by decide))) (Int.le_trans (Int.mul_le_mul_of_nonneg_left (Int.add_le_add (Int.mul_le_mul_of_nonneg_left (b_iT_length.2) (by decide)) (Int.le_refl _)) (by decide)) (by decide))) (iI_t (by omega) (by omega))) | skip
      clear hv8
      obtain ⟨nn9, hnn9⟩ : ∃ k9 : Nat, (k9 : Int) = v8.toInt := ⟨(v8.toInt).toNat, by omega⟩
      refine va_newa (atype := .int) (ty := .int) (N' := nn9) (a0 := (nn9, .inl (fun _ => 0))) hx hb (hts (.arrayClass .int) (by decide +kernel)) rfl hK hP hD hS hA (fun _ => rfl) (nn_i rfl (by omega)) (clampN rfl hnn9) (by show nn9 * 4 ≤ 536870912; omega) (by (dsimp only [headSpec] <;> omega)) (by (dsimp only [headSpec] <;> omega)) dX4_makeRoom_37 (fun qn9 cA H hKn hP hD hS => ?_)
      obtain rfl : cA = kF 0 := hKn.cls (i := 1) (j := 3) rfl rfl (by simp)
      clear hKn
      have hP : va_P (dC, dI) vwCl ((WJ hJ aJ kJ hT hM hL (.ref dF_tree) iJ_used iJ_depth jJ_ownName gJ_binder iJ_binders iJ_firstSet iJ_secondSet ++ (WF hF aF kF dF_tree nF_tree fF_tree ++ (WT hT aT kT fT_tape dT_tape nT_tape iT_length iT_fault iT_place iT_kind iT_at iT_number jT_name iT_next))) ++ [(qn9, .inl (kF 0, nn9, .inl (fun _ => 0)))]) H := hP
      have hD : va_D A ((WJ hJ aJ kJ hT hM hL (.ref dF_tree) iJ_used iJ_depth jJ_ownName gJ_binder iJ_binders iJ_firstSet iJ_secondSet ++ (WF hF aF kF dF_tree nF_tree fF_tree ++ (WT hT aT kT fT_tape dT_tape nT_tape iT_length iT_fault iT_place iT_kind iT_at iT_number jT_name iT_next))) ++ [(qn9, .inl (kF 0, nn9, .inl (fun _ => 0)))]) := hD
      refine va_put (D := (dC, dI)) (ci := 4) (v := .ref qn9) (ty := .array .int) (C := RX4) (T := TX4) (N := 11) hx hb hts iwsMX4_makeRoom_in4 tyX4 tyX4_ok nmX4 hown hK hP hD hS 0 rfl rfl 3 (by decide) (hts (.fieldLink RX4 11 "OptimaWorks$Reader" "tree" "[I") (by decide +kernel)) (fun _ h9 => h9) rfl (by decide +kernel) rfl rfl (Nat.le_of_ble_eq_true rfl) dX4_makeRoom_39 (fun H locs hP hD hS => ?_)
      have hP : va_P (dC, dI) vwCl (WJ hJ aJ kJ hT hM hL (.ref qn9) iJ_used iJ_depth jJ_ownName gJ_binder iJ_binders iJ_firstSet iJ_secondSet ++ (WF hF aF kF qn9 nn9 (fun _ => 0) ++ (WT hT aT kT fT_tape dT_tape nT_tape iT_length iT_fault iT_place iT_kind iT_at iT_number jT_name iT_next))) _ := hP.sub [0, 1, 5, 3, 4] rfl
      have hD : va_D _ (WJ hJ aJ kJ hT hM hL (.ref qn9) iJ_used iJ_depth jJ_ownName gJ_binder iJ_binders iJ_firstSet iJ_secondSet ++ (WF hF aF kF qn9 nn9 (fun _ => 0) ++ (WT hT aT kT fT_tape dT_tape nT_tape iT_length iT_fault iT_place iT_kind iT_at iT_number jT_name iT_next))) := hD.sub [0, 1, 5, 3, 4] (by decide) rfl
      have hP : va_P (dC, dI) vwCl (WJ hJ aJ kJ hT hM hL (.ref qn9) iJ_used iJ_depth jJ_ownName gJ_binder iJ_binders iJ_firstSet iJ_secondSet ++ (WF hF aF kF qn9 nn9 (fun _ => 0) ++ (WT hT aT kT fT_tape dT_tape nT_tape iT_length iT_fault iT_place iT_kind iT_at iT_number jT_name iT_next))) H := hP
      have hD : va_D A (WJ hJ aJ kJ hT hM hL (.ref qn9) iJ_used iJ_depth jJ_ownName gJ_binder iJ_binders iJ_firstSet iJ_secondSet ++ (WF hF aF kF qn9 nn9 (fun _ => 0) ++ (WT hT aT kT fT_tape dT_tape nT_tape iT_length iT_fault iT_place iT_kind iT_at iT_number jT_name iT_next))) := hD
      refine W.widen (k := (nn9 / 8 - (nF_tree / 8))) (n := (2 * nn9 - (2 * nF_tree))) (by omega) (by omega) ?_
      have hl : lv_has _ _ ([(1, .int (iI (7 * ((2 * iT_length.toInt) + 16)))), (0, .ref (hJ 0))]) := lv_sub hl [0, 1] rfl
      refine W.known (fun hza hna => ?_)
      refine W.widen (k := 9025) (n := 144400) (by omega) (by omega) ?_
      exact join2 _ _ _ _ ⟨qn9, nn9, (fun _ => 0), (by first | exact b_nn9 | with_reducible assumption | exact ⟨by omega, by omega⟩ | assumption), (show 7 * (2 * iT_length.toInt + 16) ≤ ((nn9 : Nat) : Int) from by omega), (show nF_tree ≤ nn9 from by omega), ⟨by omega, by omega⟩, rfl, hP, hD, hS, hl⟩
  · rintro H locs ls stk ⟨dF_tree_j2, nF_tree_j2, fF_tree_j2, b_nF_tree_j2, hjr, hgm0_j2, ⟨hzj, hnj⟩, rfl, hP, hD, hS, hl⟩
    refine W.tight (cells2 := (nF_tree_j2 / 8 - (nF_tree / 8))) (slots2 := (2 * nF_tree_j2 - (2 * nF_tree))) (tg1 hzj hS.1) (tg2 hnj) ?_
    refine W.known (fun hz9 hn9 => ?_)
    refine W.widen (k := 9027) (n := 288800) (by omega) (by omega) ?_
    exact W.vret hx hb hr (fun t9_ ht hW => ⟨⟨(dF_tree_j2, nF_tree_j2, fF_tree_j2), rfl, ⟨(by (try dsimp only); exact (by first | exact b_nF_tree_j2 | with_reducible assumption | exact ⟨by omega, by omega⟩ | assumption)), (by (try dsimp only); omega), (by (try dsimp only); first | omega | assumption)⟩, by rw [ht]; exact hP, hD, by rw [ht]; (try dsimp only); omega, by rw [ht]; (try dsimp only); omega⟩, hS.F ht⟩) hS.2.2 dX4_makeRoom_42
theorem dX10_begin_0 : decode cX10_begin 0 = .ok (.aload_n 0, 1) := dk_42 (by decide +kernel)
theorem dX10_begin_1 : decode cX10_begin 1 = .ok (.aload_n 1, 1) := dk_43 (by decide +kernel)
theorem dX10_begin_2 : decode cX10_begin 2 = .ok (.putfield 55, 3) := dk_181 (by decide +kernel)
theorem dX10_begin_5 : decode cX10_begin 5 = .ok (.aload_n 0, 1) := dk_42 (by decide +kernel)
theorem dX10_begin_6 : decode cX10_begin 6 = .ok (.iconst 0, 1) := dk_3 (by decide +kernel)
theorem dX10_begin_7 : decode cX10_begin 7 = .ok (.putfield 58, 3) := dk_181 (by decide +kernel)
theorem dX10_begin_10 : decode cX10_begin 10 = .ok (.aload_n 0, 1) := dk_42 (by decide +kernel)
theorem dX10_begin_11 : decode cX10_begin 11 = .ok (.iconst 0, 1) := dk_3 (by decide +kernel)
theorem dX10_begin_12 : decode cX10_begin 12 = .ok (.putfield 62, 3) := dk_181 (by decide +kernel)
theorem dX10_begin_15 : decode cX10_begin 15 = .ok (.aload_n 0, 1) := dk_42 (by decide +kernel)
theorem dX10_begin_16 : decode cX10_begin 16 = .ok (.getfield 30, 3) := dk_180 (by decide +kernel)
theorem dX10_begin_19 : decode cX10_begin 19 = .ok (.arraylength, 1) := dk_190 (by decide +kernel)
theorem dX10_begin_20 : decode cX10_begin 20 = .ok (.iload_n 2, 1) := dk_28 (by decide +kernel)
theorem dX10_begin_21 : decode cX10_begin 21 = .ok (.if_icmp .ge 29, 3) := dk_162 (by decide +kernel)
theorem dX10_begin_24 : decode cX10_begin 24 = .ok (.iload_n 2, 1) := dk_28 (by decide +kernel)
theorem dX10_begin_25 : decode cX10_begin 25 = .ok (.iconst 2, 1) := dk_5 (by decide +kernel)
theorem dX10_begin_26 : decode cX10_begin 26 = .ok (.aload_n 0, 1) := dk_42 (by decide +kernel)
theorem dX10_begin_27 : decode cX10_begin 27 = .ok (.getfield 30, 3) := dk_180 (by decide +kernel)
theorem dX10_begin_30 : decode cX10_begin 30 = .ok (.arraylength, 1) := dk_190 (by decide +kernel)
theorem dX10_begin_31 : decode cX10_begin 31 = .ok (.imul, 1) := dk_104 (by decide +kernel)
theorem dX10_begin_32 : decode cX10_begin 32 = .ok (.invokestatic 65, 3) := dk_184 (by decide +kernel)
theorem dX10_begin_35 : decode cX10_begin 35 = .ok (.istore_n 3, 1) := dk_62 (by decide +kernel)
theorem dX10_begin_36 : decode cX10_begin 36 = .ok (.aload_n 0, 1) := dk_42 (by decide +kernel)
theorem dX10_begin_37 : decode cX10_begin 37 = .ok (.iload_n 3, 1) := dk_29 (by decide +kernel)
theorem dX10_begin_38 : decode cX10_begin 38 = .ok (.newarray .int, 2) := by decide +kernel
theorem dX10_begin_40 : decode cX10_begin 40 = .ok (.putfield 30, 3) := dk_181 (by decide +kernel)
theorem dX10_begin_43 : decode cX10_begin 43 = .ok (.aload_n 0, 1) := dk_42 (by decide +kernel)
theorem dX10_begin_44 : decode cX10_begin 44 = .ok (.iload_n 3, 1) := dk_29 (by decide +kernel)
theorem dX10_begin_45 : decode cX10_begin 45 = .ok (.newarray .int, 2) := by decide +kernel
theorem dX10_begin_47 : decode cX10_begin 47 = .ok (.putfield 33, 3) := dk_181 (by decide +kernel)
theorem dX10_begin_50 : decode cX10_begin 50 = .ok (.return_, 1) := dk_177 (by decide +kernel)
def wsMX10_begin : List Cond := .code yX10_begin cX10_begin 4 none :: ([.fieldLink RX10 55 "OptimaWorks$Worker" "tree" "[I", .fieldLink RX10 58 "OptimaWorks$Worker" "names" "I", .fieldLink RX10 62 "OptimaWorks$Worker" "params" "I", .fieldLink RX10 30 "OptimaWorks$Worker" "paramOver" "[I", .methodLink RX10 65 Lib.Math.max.name, .static Lib.Math.max.name, .initialized "java/lang/Math", .code Lib.Math.max.name Lib.Math.max.code 2 (some .int), .arrayClass .int, .fieldLink RX10 33 "OptimaWorks$Worker" "paramUnder" "[I"] ++ wsX100)
theorem iwsMX10_begin_in10 : ∀ w ∈ wsX100, w ∈ wsMX10_begin := fun _ h => List.mem_cons_of_mem _ (List.mem_append_right _ h)
theorem gdwsMX10_begin : wsMX10_begin.all goodWord = true := gdC rfl (gdA (by decide +kernel : ([.fieldLink RX10 55 "OptimaWorks$Worker" "tree" "[I", .fieldLink RX10 58 "OptimaWorks$Worker" "names" "I", .fieldLink RX10 62 "OptimaWorks$Worker" "params" "I", .fieldLink RX10 30 "OptimaWorks$Worker" "paramOver" "[I", .methodLink RX10 65 Lib.Math.max.name, .static Lib.Math.max.name, .initialized "java/lang/Math", .code Lib.Math.max.name Lib.Math.max.code 2 (some .int), .arrayClass .int, .fieldLink RX10 33 "OptimaWorks$Worker" "paramUnder" "[I"] : List Cond).all goodWord = true) gdwsX100)
set_option maxHeartbeats 4000000 in
set_option maxRecDepth 100000 in
/-- work begins -/
theorem m_X10_begin (l : Launch) (dC : Nat → ClassId) (dI : Nat → Nat → Nat) (hL : Nat → Nat) (aL : Nat → Nat) (kL : Nat → ClassId) (hT : Nat → Nat) (hM : Nat → Nat) (xL_tree : Value) (iL_names : Int32) (gL_key : Nat → Int64) (fL_kind : Nat → Int32) (fL_one : Nat → Int32) (fL_two : Nat → Int32) (fL_base : Nat → Int32) (iL_params : Int32) (fL_paramOver : Nat → Int32) (dL_paramOver : Nat) (nL_params : Nat) (fL_paramUnder : Nat → Int32) (dL_paramUnder : Nat) (nL_pu : Nat) (gL_over : Nat → Int64) (gL_under : Nat → Int64) (fL_bound : Nat → Int32) (iL_nameAt : Int32) (iL_startAt : Int32) (iL_steps : Int32) (jL_scaleOver : Int64) (jL_scaleUnder : Int64) (q1 : Nat) (p2 : Int32) (b_iL_names : 0 ≤ iL_names.toInt ∧ iL_names.toInt ≤ 40) (b_fL_kind : ∀ q : Nat, 0 ≤ (fL_kind q).toInt ∧ (fL_kind q).toInt ≤ 5) (b_fL_two : ∀ q : Nat, (-1) ≤ (fL_two q).toInt ∧ (fL_two q).toInt ≤ 39) (b_fL_base : ∀ q : Nat, 0 ≤ (fL_base q).toInt ∧ (fL_base q).toInt ≤ 2560) (b_iL_params : 0 ≤ iL_params.toInt ∧ iL_params.toInt ≤ 2560) (b_nL_params : 0 ≤ nL_params ∧ nL_params ≤ 2560) (b_nm : NmL iL_names fL_kind fL_one fL_two fL_base nL_params) (b_pm : iL_params.toInt ≤ ((nL_params : Nat) : Int)) (b_pu : nL_pu = nL_params) (b_p2 : 0 ≤ p2.toInt ∧ p2.toInt ≤ 1280) (sz : Nat) : Met l yX10_begin wsMX10_begin ({ frames := 1, cells := 5122, slots := 15360, locals := 13 }) (va_Pc [.ref (hL 0), .ref q1, .int p2] (fun U => U.heap.size = sz ∧ va_P (dC, dI) vwCl (WL hL aL kL hT hM xL_tree iL_names gL_key fL_kind fL_one fL_two fL_base iL_params fL_paramOver dL_paramOver nL_params fL_paramUnder dL_paramUnder nL_pu gL_over gL_under fL_bound iL_nameAt iL_startAt iL_steps jL_scaleOver jL_scaleUnder) U.heap ∧ va_K (dC, dI) vwCl (tL kL) U ∧ va_D (fun _ => True) (WL hL aL kL hT hM xL_tree iL_names gL_key fL_kind fL_one fL_two fL_base iL_params fL_paramOver dL_paramOver nL_params fL_paramUnder dL_paramUnder nL_pu gL_over gL_under fL_bound iL_nameAt iL_startAt iL_steps jL_scaleOver jL_scaleUnder))) (va_Qv (fun (u : (Value) × (Int32) × (Int32) × (Nat → Int32) × (Nat) × (Nat) × (Nat → Int32) × (Nat) × (Nat)) => (0 ≤ (u.2.1).toInt ∧ (u.2.1).toInt ≤ 40) ∧ (0 ≤ (u.2.2.1).toInt ∧ (u.2.2.1).toInt ≤ 2560) ∧ (0 ≤ (u.2.2.2.2.2.1) ∧ (u.2.2.2.2.2.1) ≤ 2560) ∧ (NmL (u.2.1) fL_kind fL_one fL_two fL_base (u.2.2.2.2.2.1)) ∧ ((u.2.2.1).toInt ≤ (((u.2.2.2.2.2.1) : Nat) : Int)) ∧ ((u.2.2.2.2.2.2.2.2) = (u.2.2.2.2.2.1)) ∧ ((u.1) = .ref q1) ∧ ((u.2.2.1).toInt = 0) ∧ (p2.toInt ≤ (((u.2.2.2.2.2.1) : Nat) : Int)) ∧ (nL_params ≤ (u.2.2.2.2.2.1))) (fun (u : (Value) × (Int32) × (Int32) × (Nat → Int32) × (Nat) × (Nat) × (Nat → Int32) × (Nat) × (Nat)) t => va_P (dC, dI) vwCl (WL hL aL kL hT hM (u.1) (u.2.1) gL_key fL_kind fL_one fL_two fL_base (u.2.2.1) (u.2.2.2.1) (u.2.2.2.2.1) (u.2.2.2.2.2.1) (u.2.2.2.2.2.2.1) (u.2.2.2.2.2.2.2.1) (u.2.2.2.2.2.2.2.2) gL_over gL_under fL_bound iL_nameAt iL_startAt iL_steps jL_scaleOver jL_scaleUnder) t.heap ∧ va_D (va_A (WL hL aL kL hT hM xL_tree iL_names gL_key fL_kind fL_one fL_two fL_base iL_params fL_paramOver dL_paramOver nL_params fL_paramUnder dL_paramUnder nL_pu gL_over gL_under fL_bound iL_nameAt iL_startAt iL_steps jL_scaleOver jL_scaleUnder) sz) (WL hL aL kL hT hM (u.1) (u.2.1) gL_key fL_kind fL_one fL_two fL_base (u.2.2.1) (u.2.2.2.1) (u.2.2.2.2.1) (u.2.2.2.2.2.1) (u.2.2.2.2.2.2.1) (u.2.2.2.2.2.2.2.1) (u.2.2.2.2.2.2.2.2) gL_over gL_under fL_bound iL_nameAt iL_startAt iL_steps jL_scaleOver jL_scaleUnder) ∧ t.heap.size + (2 * nL_params) ≤ sz + (2 * (u.2.2.2.2.2.1)) ∧ nS sz t.heap + (4 * nL_params) ≤ (4 * (u.2.2.2.2.2.1))) (va_A (WL hL aL kL hT hM xL_tree iL_names gL_key fL_kind fL_one fL_two fL_base iL_params fL_paramOver dL_paramOver nL_params fL_paramUnder dL_paramUnder nL_pu gL_over gL_under fL_bound iL_nameAt iL_startAt iL_steps jL_scaleOver jL_scaleUnder) sz)) 5122 15360 (va_A (WL hL aL kL hT hM xL_tree iL_names gL_key fL_kind fL_one fL_two fL_base iL_params fL_paramOver dL_paramOver nL_params fL_paramUnder dL_paramUnder nL_pu gL_over gL_under fL_bound iL_nameAt iL_startAt iL_steps jL_scaleOver jL_scaleUnder) sz) := by
  refine Met.ofW (cc := cX10_begin) (maxL := 4) (ret := none) (by decide) rfl ?_
  intro p e s m args below meth c s₁ B hml hv
  obtain ⟨rfl, hsz, hP, hK, hD0⟩ := hv
  have hx := B.exec
  have hb := B.bytes
  have hr := B.returns
  have hts := atoms_spec (ws := wsMX10_begin) B.pre
  have hown : s.vm.findClass RX10 = some m.cls := findClass_of_methodNamed B.named
  have hlocks := B.notSynchronized
  subst hsz
  have hD := hD0.self (sz := s.heap.size)
  generalize hAe : va_A (WL hL aL kL hT hM xL_tree iL_names gL_key fL_kind fL_one fL_two fL_base iL_params fL_paramOver dL_paramOver nL_params fL_paramUnder dL_paramUnder nL_pu gL_over gL_under fL_bound iL_nameAt iL_startAt iL_steps jL_scaleOver jL_scaleUnder) s.heap.size = A at hD ⊢
  have hA : ∀ q : Nat, s.heap.size ≤ q → A q := fun q h => by rw [← hAe]; exact Or.inr h
  have hS : va_S A s.heap s.heap [] := va_S.rf
  have hl := lv_entry ([.ref (hL 0), .ref q1, .int p2]) (n := 4) (Nat.le_of_ble_eq_true rfl)
  rw [lg_entry_eq]
  generalize (lg_sl ([.ref (hL 0), .ref q1, .int p2]) ++ List.replicate (4 - (lg_sl ([.ref (hL 0), .ref q1, .int p2])).length) Slot.unset).toArray = ls at hl ⊢
  have hl : lv_has ls 4 [(0, .ref (hL 0)), (1, .ref q1), (2, .int p2)] := hl
  refine W.widen (k := (2 * nL_params - (2 * nL_params))) (n := (4 * nL_params - (4 * nL_params))) (Nat.zero_le _) (Nat.zero_le _) ?_
  refine lv_aload_n hx hb dX10_begin_0 rfl (lv_at hl 0 rfl) ?_
  refine lv_aload_n hx hb dX10_begin_1 rfl (lv_at hl 1 rfl) ?_
  refine va_put (D := (dC, dI)) (ci := 10) (v := .ref q1) (ty := .array .int) (C := RX10) (T := TX10) (N := 20) hx hb hts iwsMX10_begin_in10 tyX10 tyX10_ok nmX10 hown hK hP hD hS 0 rfl rfl 2 (by decide) (hts (.fieldLink RX10 55 "OptimaWorks$Worker" "tree" "[I") (by decide +kernel)) (fun _ h9 => h9) rfl (by decide +kernel) rfl rfl (Nat.le_of_ble_eq_true rfl) dX10_begin_2 (fun H locs hP hD hS => ?_)
  have hP : va_P (dC, dI) vwCl (WL hL aL kL hT hM (.ref q1) iL_names gL_key fL_kind fL_one fL_two fL_base iL_params fL_paramOver dL_paramOver nL_params fL_paramUnder dL_paramUnder nL_pu gL_over gL_under fL_bound iL_nameAt iL_startAt iL_steps jL_scaleOver jL_scaleUnder) H := hP
  have hD : va_D A (WL hL aL kL hT hM (.ref q1) iL_names gL_key fL_kind fL_one fL_two fL_base iL_params fL_paramOver dL_paramOver nL_params fL_paramUnder dL_paramUnder nL_pu gL_over gL_under fL_bound iL_nameAt iL_startAt iL_steps jL_scaleOver jL_scaleUnder) := hD
  refine lv_aload_n hx hb dX10_begin_5 rfl (lv_at hl 0 rfl) ?_
  refine lv_iconst (v := 0) hx hb dX10_begin_6 (by decide) ?_
  refine va_put (D := (dC, dI)) (ci := 10) (v := .int 0) (ty := .int) (C := RX10) (T := TX10) (N := 20) hx hb hts iwsMX10_begin_in10 tyX10 tyX10_ok nmX10 hown hK hP hD hS 0 rfl rfl 3 (by decide) (hts (.fieldLink RX10 58 "OptimaWorks$Worker" "names" "I") (by decide +kernel)) (fun _ h9 => h9) rfl (by decide +kernel) rfl rfl (Nat.le_of_ble_eq_true rfl) dX10_begin_7 (fun H locs hP hD hS => ?_)
  have hP : va_P (dC, dI) vwCl (WL hL aL kL hT hM (.ref q1) 0 gL_key fL_kind fL_one fL_two fL_base iL_params fL_paramOver dL_paramOver nL_params fL_paramUnder dL_paramUnder nL_pu gL_over gL_under fL_bound iL_nameAt iL_startAt iL_steps jL_scaleOver jL_scaleUnder) H := hP
  have hD : va_D A (WL hL aL kL hT hM (.ref q1) 0 gL_key fL_kind fL_one fL_two fL_base iL_params fL_paramOver dL_paramOver nL_params fL_paramUnder dL_paramUnder nL_pu gL_over gL_under fL_bound iL_nameAt iL_startAt iL_steps jL_scaleOver jL_scaleUnder) := hD
  refine lv_aload_n hx hb dX10_begin_10 rfl (lv_at hl 0 rfl) ?_
  refine lv_iconst (v := 0) hx hb dX10_begin_11 (by decide) ?_
  refine va_put (D := (dC, dI)) (ci := 10) (v := .int 0) (ty := .int) (C := RX10) (T := TX10) (N := 20) hx hb hts iwsMX10_begin_in10 tyX10 tyX10_ok nmX10 hown hK hP hD hS 0 rfl rfl 9 (by decide) (hts (.fieldLink RX10 62 "OptimaWorks$Worker" "params" "I") (by decide +kernel)) (fun _ h9 => h9) rfl (by decide +kernel) rfl rfl (Nat.le_of_ble_eq_true rfl) dX10_begin_12 (fun H locs hP hD hS => ?_)
  have hP : va_P (dC, dI) vwCl (WL hL aL kL hT hM (.ref q1) 0 gL_key fL_kind fL_one fL_two fL_base 0 fL_paramOver dL_paramOver nL_params fL_paramUnder dL_paramUnder nL_pu gL_over gL_under fL_bound iL_nameAt iL_startAt iL_steps jL_scaleOver jL_scaleUnder) H := hP
  have hD : va_D A (WL hL aL kL hT hM (.ref q1) 0 gL_key fL_kind fL_one fL_two fL_base 0 fL_paramOver dL_paramOver nL_params fL_paramUnder dL_paramUnder nL_pu gL_over gL_under fL_bound iL_nameAt iL_startAt iL_steps jL_scaleOver jL_scaleUnder) := hD
  refine lv_aload_n hx hb dX10_begin_15 rfl (lv_at hl 0 rfl) ?_
  refine va_get (D := (dC, dI)) (ci := 10) (v := .ref dL_paramOver) (C := RX10) (T := TX10) (N := 20) hx hb hts iwsMX10_begin_in10 hown hK hP 0 rfl rfl 10 (by decide) (hts (.fieldLink RX10 30 "OptimaWorks$Worker" "paramOver" "[I") (by decide +kernel)) (fun _ h9 => h9) rfl dX10_begin_16 ?_
  refine va_alen hx hb hK hP 6 5 rfl rfl (v := (iI ((nL_params : Nat) : Int))) (iI_nat _) dX10_begin_19 ?_
  refine lv_iload_n hx hb dX10_begin_20 rfl (lv_at hl 2 rfl) ?_
  refine W.known (fun hzk hnk => ?_)
  refine W.widen (k := 5120) (n := 10240) (by omega) (by omega) ?_
  refine W.cut (pc := 50) (fun H locs ls stk => ∃ (fL_paramOver_j2 : Nat → Int32) (dL_paramOver_j2 : Nat) (nL_params_j2 : Nat) (fL_paramUnder_j2 : Nat → Int32) (dL_paramUnder_j2 : Nat) (nL_pu_j2 : Nat), (0 ≤ nL_params_j2 ∧ nL_params_j2 ≤ 2560) ∧ (NmL (0 : Int32) fL_kind fL_one fL_two fL_base nL_params_j2) ∧ ((0 : Int32).toInt ≤ ((nL_params_j2 : Nat) : Int)) ∧ (nL_pu_j2 = nL_params_j2) ∧ (p2.toInt ≤ ((nL_params_j2 : Nat) : Int)) ∧ (nL_params ≤ nL_params_j2) ∧ (H.size + (2 * nL_params) ≤ s.heap.size + (2 * nL_params_j2) ∧ nS s.heap.size H + (4 * nL_params) ≤ (4 * nL_params_j2)) ∧  stk = [] ∧ va_P (dC, dI) vwCl (WL hL aL kL hT hM (.ref q1) 0 gL_key fL_kind fL_one fL_two fL_base 0 fL_paramOver_j2 dL_paramOver_j2 nL_params_j2 fL_paramUnder_j2 dL_paramUnder_j2 nL_pu_j2 gL_over gL_under fL_bound iL_nameAt iL_startAt iL_steps jL_scaleOver jL_scaleUnder) H ∧ va_D A (WL hL aL kL hT hM (.ref q1) 0 gL_key fL_kind fL_one fL_two fL_base 0 fL_paramOver_j2 dL_paramOver_j2 nL_params_j2 fL_paramUnder_j2 dL_paramUnder_j2 nL_pu_j2 gL_over gL_under fL_bound iL_nameAt iL_startAt iL_steps jL_scaleOver jL_scaleUnder) ∧ va_S A s.heap H locs ∧ lv_has ls 4 [(0, .ref (hL 0)), (1, .ref q1), (2, .int p2)]) (fun join2 => ?_) ?_
  · refine W.tight (cells2 := (2 * nL_params - (2 * nL_params))) (slots2 := (4 * nL_params - (4 * nL_params))) hzk hnk ?_
    refine lv_icmp_ge (tgt := 50) hx hb dX10_begin_21 (by decide) (fun c_21 => ?_) (fun c_21 => ?_)
    · first | (have t_21 : ((nL_params : Nat) : Int) ≥ p2.toInt := toI_ge c_21 (iI_t (by omega) (by omega)) rfl) | skip
      have hl : lv_has _ _ ([(0, .ref (hL 0)), (1, .ref q1), (2, .int p2)]) := lv_sub hl [0, 1, 2] rfl
      refine W.known (fun hza hna => ?_)
      refine W.widen (k := 5120) (n := 10240) (by omega) (by omega) ?_
      exact join2 _ _ _ _ ⟨fL_paramOver, dL_paramOver, nL_params, fL_paramUnder, dL_paramUnder, nL_pu, (by first | exact b_nL_params | with_reducible assumption | exact ⟨by omega, by omega⟩ | assumption), (NmL.nil (by decide)), (by have h7 : (0 : Int32).toInt = 0 := (by decide); omega), (by first | rfl | assumption | omega), (show p2.toInt ≤ ((nL_params : Nat) : Int) from by omega), (show nL_params ≤ nL_params from by omega), ⟨by omega, by omega⟩, rfl, hP, hD, hS, hl⟩
    · first | (have t_21 : ¬ ((nL_params : Nat) : Int) ≥ p2.toInt := toI_nge c_21 (iI_t (by omega) (by omega)) rfl) | skip
      refine lv_iload_n hx hb dX10_begin_24 rfl (lv_at hl 2 rfl) ?_
      refine lv_iconst (v := 2) hx hb dX10_begin_25 (by decide) ?_
      refine lv_aload_n hx hb dX10_begin_26 rfl (lv_at hl 0 rfl) ?_
      refine va_get (D := (dC, dI)) (ci := 10) (v := .ref dL_paramOver) (C := RX10) (T := TX10) (N := 20) hx hb hts iwsMX10_begin_in10 hown hK hP 0 rfl rfl 10 (by decide) (hts (.fieldLink RX10 30 "OptimaWorks$Worker" "paramOver" "[I") (by decide +kernel)) (fun _ h9 => h9) rfl dX10_begin_27 ?_
      refine va_alen hx hb hK hP 6 5 rfl rfl (v := (iI ((nL_params : Nat) : Int))) (iI_nat _) dX10_begin_30 ?_
      refine lv_imul hx hb dX10_begin_31 ?_
      refine lv_topi (fun y5 hy5 => ?_)
      obtain rfl : (iI (2 * ((nL_params : Nat) : Int))) = y5 := (hy5.trans (iI_mul2 (by decide : (2 : Int32) = iI 2) rfl)).symm
      refine va_mmax hx hb (by rw [hml]; exact hl.1.symm) hown (hts (.methodLink RX10 65 Lib.Math.max.name) (by decide +kernel)) (hts (.static Lib.Math.max.name) (by decide +kernel)) (hts (.initialized "java/lang/Math") (by decide +kernel)) (hts (.code Lib.Math.max.name Lib.Math.max.code 2 (some .int)) (by decide +kernel)) (by (dsimp only [headSpec] <;> omega)) (Nat.le_of_ble_eq_true rfl) (by (dsimp only [headSpec] <;> omega)) (by (dsimp only [headSpec] <;> omega)) dX10_begin_32 ?_
      refine lv_topi (fun v6 hv6 => ?_)
      first | (have b_v6 : (p2.toInt ≤ v6.toInt ∧ (2 * ((nL_params : Nat) : Int)) ≤ v6.toInt) ∧ (v6.toInt = p2.toInt ∨ v6.toInt = (2 * ((nL_params : Nat) : Int))) := by rw [hv6]; exact max_t rfl (iI_t (by omega) (by omega))) | skip
      clear hv6
      refine lv_istore_n hx hb dX10_begin_35 rfl hl (by decide) rfl (fun ls (hl : lv_has ls _ ([(3, .int v6), (0, .ref (hL 0)), (1, .ref q1), (2, .int p2)])) => ?_)
      refine lv_aload_n hx hb dX10_begin_36 rfl (lv_at hl 1 rfl) ?_
      refine lv_iload_n hx hb dX10_begin_37 rfl (lv_at hl 0 rfl) ?_
      obtain ⟨nn7, hnn7⟩ : ∃ k9 : Nat, (k9 : Int) = v6.toInt := ⟨(v6.toInt).toNat, by omega⟩
      refine va_newa (atype := .int) (ty := .int) (N' := nn7) (a0 := (nn7, .inl (fun _ => 0))) hx hb (hts (.arrayClass .int) (by decide +kernel)) rfl hK hP hD hS hA (fun _ => rfl) (nn_i rfl (by omega)) (clampN rfl hnn7) (by show nn7 * 4 ≤ 536870912; omega) (by (dsimp only [headSpec] <;> omega)) (by (dsimp only [headSpec] <;> omega)) dX10_begin_38 (fun qn7 cA H hKn hP hD hS => ?_)
      obtain rfl : cA = kL 5 := hKn.cls (i := 5) (j := 10) rfl rfl (by simp)
      clear hKn
      have hP : va_P (dC, dI) vwCl ((WL hL aL kL hT hM (.ref q1) 0 gL_key fL_kind fL_one fL_two fL_base 0 fL_paramOver dL_paramOver nL_params fL_paramUnder dL_paramUnder nL_pu gL_over gL_under fL_bound iL_nameAt iL_startAt iL_steps jL_scaleOver jL_scaleUnder) ++ [(qn7, .inl (kL 5, nn7, .inl (fun _ => 0)))]) H := hP
      have hD : va_D A ((WL hL aL kL hT hM (.ref q1) 0 gL_key fL_kind fL_one fL_two fL_base 0 fL_paramOver dL_paramOver nL_params fL_paramUnder dL_paramUnder nL_pu gL_over gL_under fL_bound iL_nameAt iL_startAt iL_steps jL_scaleOver jL_scaleUnder) ++ [(qn7, .inl (kL 5, nn7, .inl (fun _ => 0)))]) := hD
      refine va_put (D := (dC, dI)) (ci := 10) (v := .ref qn7) (ty := .array .int) (C := RX10) (T := TX10) (N := 20) hx hb hts iwsMX10_begin_in10 tyX10 tyX10_ok nmX10 hown hK hP hD hS 0 rfl rfl 10 (by decide) (hts (.fieldLink RX10 30 "OptimaWorks$Worker" "paramOver" "[I") (by decide +kernel)) (fun _ h9 => h9) rfl (by decide +kernel) rfl rfl (Nat.le_of_ble_eq_true rfl) dX10_begin_40 (fun H locs hP hD hS => ?_)
      have hP : va_P (dC, dI) vwCl (WL hL aL kL hT hM (.ref q1) 0 gL_key fL_kind fL_one fL_two fL_base 0 (fun _ => 0) qn7 nn7 fL_paramUnder dL_paramUnder nL_pu gL_over gL_under fL_bound iL_nameAt iL_startAt iL_steps jL_scaleOver jL_scaleUnder) _ := hP.sub [0, 1, 2, 3, 4, 5, 11, 7, 8, 9, 10] rfl
      have hD : va_D _ (WL hL aL kL hT hM (.ref q1) 0 gL_key fL_kind fL_one fL_two fL_base 0 (fun _ => 0) qn7 nn7 fL_paramUnder dL_paramUnder nL_pu gL_over gL_under fL_bound iL_nameAt iL_startAt iL_steps jL_scaleOver jL_scaleUnder) := hD.sub [0, 1, 2, 3, 4, 5, 11, 7, 8, 9, 10] (by decide) rfl
      have hP : va_P (dC, dI) vwCl (WL hL aL kL hT hM (.ref q1) 0 gL_key fL_kind fL_one fL_two fL_base 0 (fun _ => 0) qn7 nn7 fL_paramUnder dL_paramUnder nL_pu gL_over gL_under fL_bound iL_nameAt iL_startAt iL_steps jL_scaleOver jL_scaleUnder) H := hP
      have hD : va_D A (WL hL aL kL hT hM (.ref q1) 0 gL_key fL_kind fL_one fL_two fL_base 0 (fun _ => 0) qn7 nn7 fL_paramUnder dL_paramUnder nL_pu gL_over gL_under fL_bound iL_nameAt iL_startAt iL_steps jL_scaleOver jL_scaleUnder) := hD
      refine lv_aload_n hx hb dX10_begin_43 rfl (lv_at hl 1 rfl) ?_
      refine lv_iload_n hx hb dX10_begin_44 rfl (lv_at hl 0 rfl) ?_
      obtain ⟨nn8, hnn8⟩ : ∃ k9 : Nat, (k9 : Int) = v6.toInt := ⟨(v6.toInt).toNat, by omega⟩
      refine va_newa (atype := .int) (ty := .int) (N' := nn8) (a0 := (nn8, .inl (fun _ => 0))) hx hb (hts (.arrayClass .int) (by decide +kernel)) rfl hK hP hD hS hA (fun _ => rfl) (nn_i rfl (by omega)) (clampN rfl hnn8) (by show nn8 * 4 ≤ 536870912; omega) (by (dsimp only [headSpec] <;> omega)) (by (dsimp only [headSpec] <;> omega)) dX10_begin_45 (fun qn8 cA H hKn hP hD hS => ?_)
      obtain rfl : cA = kL 6 := hKn.cls (i := 6) (j := 10) rfl rfl (by simp)
      clear hKn
      have hP : va_P (dC, dI) vwCl ((WL hL aL kL hT hM (.ref q1) 0 gL_key fL_kind fL_one fL_two fL_base 0 (fun _ => 0) qn7 nn7 fL_paramUnder dL_paramUnder nL_pu gL_over gL_under fL_bound iL_nameAt iL_startAt iL_steps jL_scaleOver jL_scaleUnder) ++ [(qn8, .inl (kL 6, nn8, .inl (fun _ => 0)))]) H := hP
      have hD : va_D A ((WL hL aL kL hT hM (.ref q1) 0 gL_key fL_kind fL_one fL_two fL_base 0 (fun _ => 0) qn7 nn7 fL_paramUnder dL_paramUnder nL_pu gL_over gL_under fL_bound iL_nameAt iL_startAt iL_steps jL_scaleOver jL_scaleUnder) ++ [(qn8, .inl (kL 6, nn8, .inl (fun _ => 0)))]) := hD
      refine va_put (D := (dC, dI)) (ci := 10) (v := .ref qn8) (ty := .array .int) (C := RX10) (T := TX10) (N := 20) hx hb hts iwsMX10_begin_in10 tyX10 tyX10_ok nmX10 hown hK hP hD hS 0 rfl rfl 11 (by decide) (hts (.fieldLink RX10 33 "OptimaWorks$Worker" "paramUnder" "[I") (by decide +kernel)) (fun _ h9 => h9) rfl (by decide +kernel) rfl rfl (Nat.le_of_ble_eq_true rfl) dX10_begin_47 (fun H locs hP hD hS => ?_)
      have hP : va_P (dC, dI) vwCl (WL hL aL kL hT hM (.ref q1) 0 gL_key fL_kind fL_one fL_two fL_base 0 (fun _ => 0) qn7 nn7 (fun _ => 0) qn8 nn8 gL_over gL_under fL_bound iL_nameAt iL_startAt iL_steps jL_scaleOver jL_scaleUnder) _ := hP.sub [0, 1, 2, 3, 4, 5, 6, 11, 8, 9, 10] rfl
      have hD : va_D _ (WL hL aL kL hT hM (.ref q1) 0 gL_key fL_kind fL_one fL_two fL_base 0 (fun _ => 0) qn7 nn7 (fun _ => 0) qn8 nn8 gL_over gL_under fL_bound iL_nameAt iL_startAt iL_steps jL_scaleOver jL_scaleUnder) := hD.sub [0, 1, 2, 3, 4, 5, 6, 11, 8, 9, 10] (by decide) rfl
      have hP : va_P (dC, dI) vwCl (WL hL aL kL hT hM (.ref q1) 0 gL_key fL_kind fL_one fL_two fL_base 0 (fun _ => 0) qn7 nn7 (fun _ => 0) qn8 nn8 gL_over gL_under fL_bound iL_nameAt iL_startAt iL_steps jL_scaleOver jL_scaleUnder) H := hP
      have hD : va_D A (WL hL aL kL hT hM (.ref q1) 0 gL_key fL_kind fL_one fL_two fL_base 0 (fun _ => 0) qn7 nn7 (fun _ => 0) qn8 nn8 gL_over gL_under fL_bound iL_nameAt iL_startAt iL_steps jL_scaleOver jL_scaleUnder) := hD
      refine W.widen (k := (2 * nn7 - (2 * nL_params))) (n := (4 * nn7 - (4 * nL_params))) (by omega) (by omega) ?_
      have hl : lv_has _ _ ([(0, .ref (hL 0)), (1, .ref q1), (2, .int p2)]) := lv_sub hl [1, 2, 3] rfl
      refine W.known (fun hza hna => ?_)
      refine W.widen (k := 5120) (n := 10240) (by omega) (by omega) ?_
      exact join2 _ _ _ _ ⟨(fun _ => 0), qn7, nn7, (fun _ => 0), qn8, nn8, (by first | exact b_nn7 | with_reducible assumption | exact ⟨by omega, by omega⟩ | assumption), (NmL.nil (by decide)), (by have h7 : (0 : Int32).toInt = 0 := (by decide); omega), (by first | rfl | assumption | omega), (show p2.toInt ≤ ((nn7 : Nat) : Int) from by omega), (show nL_params ≤ nn7 from by omega), ⟨by omega, by omega⟩, rfl, hP, hD, hS, hl⟩
  · rintro H locs ls stk ⟨fL_paramOver_j2, dL_paramOver_j2, nL_params_j2, fL_paramUnder_j2, dL_paramUnder_j2, nL_pu_j2, b_nL_params_j2, b_nm_j2, b_pm_j2, b_pu_j2, hjp, hgm0_j2, ⟨hzj, hnj⟩, rfl, hP, hD, hS, hl⟩
    refine W.tight (cells2 := (2 * nL_params_j2 - (2 * nL_params))) (slots2 := (4 * nL_params_j2 - (4 * nL_params))) (tg1 hzj hS.1) (tg2 hnj) ?_
    refine W.known (fun hz9 hn9 => ?_)
    refine W.widen (k := 5122) (n := 15360) (by omega) (by omega) ?_
    exact W.vret hx hb hr (fun t9_ ht hW => ⟨⟨((.ref q1), 0, 0, fL_paramOver_j2, dL_paramOver_j2, nL_params_j2, fL_paramUnder_j2, dL_paramUnder_j2, nL_pu_j2), rfl, ⟨(by (try dsimp only); exact (show 0 ≤ (0 : Int32).toInt ∧ (0 : Int32).toInt ≤ 40 from by decide)), (by (try dsimp only); exact (show 0 ≤ (0 : Int32).toInt ∧ (0 : Int32).toInt ≤ 2560 from by decide)), (by (try dsimp only); exact (by first | exact b_nL_params_j2 | with_reducible assumption | exact ⟨by omega, by omega⟩ | assumption)), (by (try dsimp only); exact (NmL.nil (by decide))), (by (try dsimp only); exact (by have h7 : (0 : Int32).toInt = 0 := (by decide); omega)), (by (try dsimp only); exact (by first | rfl | assumption | omega)), (by (try dsimp only); first | done | rfl), (by (try dsimp only); first | done | decide), (by (try dsimp only); first | assumption | omega), (by (try dsimp only); omega)⟩, by rw [ht]; exact hP, hD, by rw [ht]; (try dsimp only); omega, by rw [ht]; (try dsimp only); omega⟩, hS.F ht⟩) hS.2.2 dX10_begin_50
end

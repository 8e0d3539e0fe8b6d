theorem dX2_reach_0 : decode cX2_reach 0 = .ok (.aload_n 0, 1) := dk_42 (by decide +kernel)
theorem dX2_reach_1 : decode cX2_reach 1 = .ok (.iconst 1, 1) := dk_4 (by decide +kernel)
theorem dX2_reach_2 : decode cX2_reach 2 = .ok (.iload_n 1, 1) := dk_27 (by decide +kernel)
theorem dX2_reach_3 : decode cX2_reach 3 = .ok (.ishl, 1) := dk_120 (by decide +kernel)
theorem dX2_reach_4 : decode cX2_reach 4 = .ok (.putfield 67, 3) := dk_181 (by decide +kernel)
theorem dX2_reach_7 : decode cX2_reach 7 = .ok (.aload_n 0, 1) := dk_42 (by decide +kernel)
theorem dX2_reach_8 : decode cX2_reach 8 = .ok (.getfield 67, 3) := dk_180 (by decide +kernel)
theorem dX2_reach_11 : decode cX2_reach 11 = .ok (.istore_n 3, 1) := dk_62 (by decide +kernel)
theorem dX2_reach_12 : decode cX2_reach 12 = .ok (.iconst 0, 1) := dk_3 (by decide +kernel)
theorem dX2_reach_13 : decode cX2_reach 13 = .ok (.istore 4, 2) := dk_54 (by decide +kernel)
theorem dX2_reach_15 : decode cX2_reach 15 = .ok (.iload 4, 2) := dk_21 (by decide +kernel)
theorem dX2_reach_17 : decode cX2_reach 17 = .ok (.bipush 12, 2) := dk_16 (by decide +kernel)
theorem dX2_reach_19 : decode cX2_reach 19 = .ok (.if_icmp .ge 119, 3) := dk_162 (by decide +kernel)
theorem dX2_reach_22 : decode cX2_reach 22 = .ok (.iload_n 3, 1) := dk_29 (by decide +kernel)
theorem dX2_reach_23 : decode cX2_reach 23 = .ok (.ifCond .eq 115, 3) := dk_153 (by decide +kernel)
theorem dX2_reach_26 : decode cX2_reach 26 = .ok (.iconst 0, 1) := dk_3 (by decide +kernel)
theorem dX2_reach_27 : decode cX2_reach 27 = .ok (.istore 5, 2) := dk_54 (by decide +kernel)
theorem dX2_reach_29 : decode cX2_reach 29 = .ok (.iconst 0, 1) := dk_3 (by decide +kernel)
theorem dX2_reach_30 : decode cX2_reach 30 = .ok (.istore 6, 2) := dk_54 (by decide +kernel)
theorem dX2_reach_32 : decode cX2_reach 32 = .ok (.iload 6, 2) := dk_21 (by decide +kernel)
theorem dX2_reach_34 : decode cX2_reach 34 = .ok (.bipush 12, 2) := dk_16 (by decide +kernel)
theorem dX2_reach_36 : decode cX2_reach 36 = .ok (.if_icmp .ge 93, 3) := dk_162 (by decide +kernel)
theorem dX2_reach_39 : decode cX2_reach 39 = .ok (.iconst 0, 1) := dk_3 (by decide +kernel)
theorem dX2_reach_40 : decode cX2_reach 40 = .ok (.istore 7, 2) := dk_54 (by decide +kernel)
theorem dX2_reach_42 : decode cX2_reach 42 = .ok (.iload 7, 2) := dk_21 (by decide +kernel)
theorem dX2_reach_44 : decode cX2_reach 44 = .ok (.bipush 12, 2) := dk_16 (by decide +kernel)
theorem dX2_reach_46 : decode cX2_reach 46 = .ok (.if_icmp .ge 77, 3) := dk_162 (by decide +kernel)
theorem dX2_reach_49 : decode cX2_reach 49 = .ok (.iload_n 3, 1) := dk_29 (by decide +kernel)
theorem dX2_reach_50 : decode cX2_reach 50 = .ok (.iload 6, 2) := dk_21 (by decide +kernel)
theorem dX2_reach_52 : decode cX2_reach 52 = .ok (.ishr, 1) := dk_122 (by decide +kernel)
theorem dX2_reach_53 : decode cX2_reach 53 = .ok (.iconst 1, 1) := dk_4 (by decide +kernel)
theorem dX2_reach_54 : decode cX2_reach 54 = .ok (.iand, 1) := dk_126 (by decide +kernel)
theorem dX2_reach_55 : decode cX2_reach 55 = .ok (.ifCond .eq 68, 3) := dk_153 (by decide +kernel)
theorem dX2_reach_58 : decode cX2_reach 58 = .ok (.aload_n 0, 1) := dk_42 (by decide +kernel)
theorem dX2_reach_59 : decode cX2_reach 59 = .ok (.getfield 67, 3) := dk_180 (by decide +kernel)
theorem dX2_reach_62 : decode cX2_reach 62 = .ok (.iload 7, 2) := dk_21 (by decide +kernel)
theorem dX2_reach_64 : decode cX2_reach 64 = .ok (.ishr, 1) := dk_122 (by decide +kernel)
theorem dX2_reach_65 : decode cX2_reach 65 = .ok (.iconst 1, 1) := dk_4 (by decide +kernel)
theorem dX2_reach_66 : decode cX2_reach 66 = .ok (.iand, 1) := dk_126 (by decide +kernel)
theorem dX2_reach_67 : decode cX2_reach 67 = .ok (.ifCond .ne 50, 3) := dk_154 (by decide +kernel)
theorem dX2_reach_70 : decode cX2_reach 70 = .ok (.aload_n 0, 1) := dk_42 (by decide +kernel)
theorem dX2_reach_71 : decode cX2_reach 71 = .ok (.getfield 24, 3) := dk_180 (by decide +kernel)
theorem dX2_reach_74 : decode cX2_reach 74 = .ok (.iload 6, 2) := dk_21 (by decide +kernel)
theorem dX2_reach_76 : decode cX2_reach 76 = .ok (.bipush 12, 2) := dk_16 (by decide +kernel)
theorem dX2_reach_78 : decode cX2_reach 78 = .ok (.imul, 1) := dk_104 (by decide +kernel)
theorem dX2_reach_79 : decode cX2_reach 79 = .ok (.iload 7, 2) := dk_21 (by decide +kernel)
theorem dX2_reach_81 : decode cX2_reach 81 = .ok (.iadd, 1) := dk_96 (by decide +kernel)
theorem dX2_reach_82 : decode cX2_reach 82 = .ok (.iaload, 1) := dk_46 (by decide +kernel)
theorem dX2_reach_83 : decode cX2_reach 83 = .ok (.ifCond .le 34, 3) := dk_158 (by decide +kernel)
theorem dX2_reach_86 : decode cX2_reach 86 = .ok (.aload_n 0, 1) := dk_42 (by decide +kernel)
theorem dX2_reach_87 : decode cX2_reach 87 = .ok (.getfield 27, 3) := dk_180 (by decide +kernel)
theorem dX2_reach_90 : decode cX2_reach 90 = .ok (.iload 7, 2) := dk_21 (by decide +kernel)
theorem dX2_reach_92 : decode cX2_reach 92 = .ok (.iload 6, 2) := dk_21 (by decide +kernel)
theorem dX2_reach_94 : decode cX2_reach 94 = .ok (.iastore, 1) := dk_79 (by decide +kernel)
theorem dX2_reach_95 : decode cX2_reach 95 = .ok (.aload_n 0, 1) := dk_42 (by decide +kernel)
theorem dX2_reach_96 : decode cX2_reach 96 = .ok (.dup, 1) := dk_89 (by decide +kernel)
theorem dX2_reach_97 : decode cX2_reach 97 = .ok (.getfield 67, 3) := dk_180 (by decide +kernel)
theorem dX2_reach_100 : decode cX2_reach 100 = .ok (.iconst 1, 1) := dk_4 (by decide +kernel)
theorem dX2_reach_101 : decode cX2_reach 101 = .ok (.iload 7, 2) := dk_21 (by decide +kernel)
theorem dX2_reach_103 : decode cX2_reach 103 = .ok (.ishl, 1) := dk_120 (by decide +kernel)
theorem dX2_reach_104 : decode cX2_reach 104 = .ok (.ior, 1) := dk_128 (by decide +kernel)
theorem dX2_reach_105 : decode cX2_reach 105 = .ok (.putfield 67, 3) := dk_181 (by decide +kernel)
theorem dX2_reach_108 : decode cX2_reach 108 = .ok (.iload 5, 2) := dk_21 (by decide +kernel)
theorem dX2_reach_110 : decode cX2_reach 110 = .ok (.iconst 1, 1) := dk_4 (by decide +kernel)
theorem dX2_reach_111 : decode cX2_reach 111 = .ok (.iload 7, 2) := dk_21 (by decide +kernel)
theorem dX2_reach_113 : decode cX2_reach 113 = .ok (.ishl, 1) := dk_120 (by decide +kernel)
theorem dX2_reach_114 : decode cX2_reach 114 = .ok (.ior, 1) := dk_128 (by decide +kernel)
theorem dX2_reach_115 : decode cX2_reach 115 = .ok (.istore 5, 2) := dk_54 (by decide +kernel)
theorem dX2_reach_117 : decode cX2_reach 117 = .ok (.iinc 7 1, 3) := dk_132 (by decide +kernel)
theorem dX2_reach_120 : decode cX2_reach 120 = .ok (.goto (-78), 3) := dk_167 (by decide +kernel)
theorem dX2_reach_123 : decode cX2_reach 123 = .ok (.iinc 6 1, 3) := dk_132 (by decide +kernel)
theorem dX2_reach_126 : decode cX2_reach 126 = .ok (.goto (-94), 3) := dk_167 (by decide +kernel)
theorem dX2_reach_129 : decode cX2_reach 129 = .ok (.iload 5, 2) := dk_21 (by decide +kernel)
theorem dX2_reach_131 : decode cX2_reach 131 = .ok (.istore_n 3, 1) := dk_62 (by decide +kernel)
theorem dX2_reach_132 : decode cX2_reach 132 = .ok (.iinc 4 1, 3) := dk_132 (by decide +kernel)
theorem dX2_reach_135 : decode cX2_reach 135 = .ok (.goto (-120), 3) := dk_167 (by decide +kernel)
theorem dX2_reach_138 : decode cX2_reach 138 = .ok (.aload_n 0, 1) := dk_42 (by decide +kernel)
theorem dX2_reach_139 : decode cX2_reach 139 = .ok (.getfield 67, 3) := dk_180 (by decide +kernel)
theorem dX2_reach_142 : decode cX2_reach 142 = .ok (.iload_n 2, 1) := dk_28 (by decide +kernel)
theorem dX2_reach_143 : decode cX2_reach 143 = .ok (.ishr, 1) := dk_122 (by decide +kernel)
theorem dX2_reach_144 : decode cX2_reach 144 = .ok (.iconst 1, 1) := dk_4 (by decide +kernel)
theorem dX2_reach_145 : decode cX2_reach 145 = .ok (.iand, 1) := dk_126 (by decide +kernel)
theorem dX2_reach_146 : decode cX2_reach 146 = .ok (.ifCond .eq 7, 3) := dk_153 (by decide +kernel)
theorem dX2_reach_149 : decode cX2_reach 149 = .ok (.iconst 1, 1) := dk_4 (by decide +kernel)
theorem dX2_reach_150 : decode cX2_reach 150 = .ok (.goto 4, 3) := dk_167 (by decide +kernel)
theorem dX2_reach_153 : decode cX2_reach 153 = .ok (.iconst 0, 1) := dk_3 (by decide +kernel)
theorem dX2_reach_154 : decode cX2_reach 154 = .ok (.ireturn, 1) := dk_172 (by decide +kernel)
def wsMX2_reach : List Cond := .code yX2_reach cX2_reach 8 (some .boolean) :: ([.fieldLink RX2 67 "OptimaWorks$NetDesk" "reached" "I", .fieldLink RX2 24 "OptimaWorks$NetDesk" "free" "[I", .fieldLink RX2 27 "OptimaWorks$NetDesk" "before" "[I"] ++ wsX20)
theorem iwsMX2_reach_in2 : ∀ w ∈ wsX20, w ∈ wsMX2_reach := fun _ h => List.mem_cons_of_mem _ (List.mem_append_right _ h)
theorem gdwsMX2_reach : wsMX2_reach.all goodWord = true := gdC rfl (gdA (by decide +kernel : ([.fieldLink RX2 67 "OptimaWorks$NetDesk" "reached" "I", .fieldLink RX2 24 "OptimaWorks$NetDesk" "free" "[I", .fieldLink RX2 27 "OptimaWorks$NetDesk" "before" "[I"] : List Cond).all goodWord = true) gdwsX20)
set_option maxHeartbeats 4000000 in
set_option maxRecDepth 100000 in
/-- what can be reached -/
theorem m_X2_reach (l : Launch) (dC : Nat → ClassId) (dI : Nat → Nat → Nat) (hN : Nat → Nat) (aN : Nat → Nat) (kN : Nat → ClassId) (iN_arcs : Int32) (fN_from : Nat → Int32) (fN_to : Nat → Int32) (fN_room : Nat → Int32) (fN_cost : Nat → Int32) (iN_reached : Int32) (fN_free : Nat → Int32) (fN_before : Nat → Int32) (fN_flow : Nat → Int32) (fN_length : Nat → Int32) (fN_stop : Nat → Int32) (iN_stops : Int32) (fN_price : Nat → Int32) (fN_rest : Nat → Int32) (p1 : Int32) (p2 : Int32) (b_iN_arcs : 0 ≤ iN_arcs.toInt ∧ iN_arcs.toInt ≤ 40) (b_fN_from : ∀ q : Nat, 0 ≤ (fN_from q).toInt ∧ (fN_from q).toInt ≤ 11) (b_fN_to : ∀ q : Nat, 0 ≤ (fN_to q).toInt ∧ (fN_to q).toInt ≤ 11) (b_fN_before : ∀ q : Nat, 0 ≤ (fN_before q).toInt ∧ (fN_before q).toInt ≤ 79) (b_fN_stop : ∀ q : Nat, 0 ≤ (fN_stop q).toInt ∧ (fN_stop q).toInt ≤ 11) (b_iN_stops : 0 ≤ iN_stops.toInt ∧ iN_stops.toInt ≤ 8) (b_p1 : 0 ≤ p1.toInt ∧ p1.toInt ≤ 11) (b_p2 : 0 ≤ p2.toInt ∧ p2.toInt ≤ 11) (sz : Nat) : Met l yX2_reach wsMX2_reach ({ frames := 0, cells := 0, slots := 0, locals := 0 }) (va_Pc [.ref (hN 0), .int p1, .int p2] (fun U => U.heap.size = sz ∧ va_P (dC, dI) vwCl (WN hN aN kN iN_arcs fN_from fN_to fN_room fN_cost iN_reached fN_free fN_before fN_flow fN_length fN_stop iN_stops fN_price fN_rest) U.heap ∧ va_K (dC, dI) vwCl (tN kN) U ∧ va_D (fun _ => True) (WN hN aN kN iN_arcs fN_from fN_to fN_room fN_cost iN_reached fN_free fN_before fN_flow fN_length fN_stop iN_stops fN_price fN_rest))) (va_Qi (fun (r : Int32) (u : (Int32) × (Nat → Int32)) => (∀ q : Nat, 0 ≤ ((u.2) q).toInt ∧ ((u.2) q).toInt ≤ 79) ∧ (0 ≤ r.toInt ∧ r.toInt ≤ 1) ∧ (RB p1.toInt (u.1) (u.2)) ∧ (r.toInt ≠ 0 → bt (u.1) p2.toInt.toNat = true) ∧ (RE p1.toInt.toNat fN_free (u.2) (u.1)) ∧ (r.toInt = 0 → bt (u.1) p2.toInt.toNat = false)) (fun (u : (Int32) × (Nat → Int32)) t => va_P (dC, dI) vwCl (WN hN aN kN iN_arcs fN_from fN_to fN_room fN_cost (u.1) fN_free (u.2) fN_flow fN_length fN_stop iN_stops fN_price fN_rest) t.heap ∧ va_D (va_A (WN hN aN kN iN_arcs fN_from fN_to fN_room fN_cost iN_reached fN_free fN_before fN_flow fN_length fN_stop iN_stops fN_price fN_rest) sz) (WN hN aN kN iN_arcs fN_from fN_to fN_room fN_cost (u.1) fN_free (u.2) fN_flow fN_length fN_stop iN_stops fN_price fN_rest)) (va_A (WN hN aN kN iN_arcs fN_from fN_to fN_room fN_cost iN_reached fN_free fN_before fN_flow fN_length fN_stop iN_stops fN_price fN_rest) sz)) 0 0 (va_A (WN hN aN kN iN_arcs fN_from fN_to fN_room fN_cost iN_reached fN_free fN_before fN_flow fN_length fN_stop iN_stops fN_price fN_rest) sz) := by
  refine Met.ofW (cc := cX2_reach) (maxL := 8) (ret := (some .boolean)) (by decide) rfl ?_
  intro p e s m args below meth c s₁ B hml hv
  obtain ⟨rfl, hsz, hP, hK, hD0⟩ := hv
  have hx := B.exec
  have hb := B.bytes
  have hr := B.returns
  have hts := atoms_spec (ws := wsMX2_reach) B.pre
  have hown : s.vm.findClass RX2 = some m.cls := findClass_of_methodNamed B.named
  have hlocks := B.notSynchronized
  subst hsz
  have hD := hD0.self (sz := s.heap.size)
  generalize hAe : va_A (WN hN aN kN iN_arcs fN_from fN_to fN_room fN_cost iN_reached fN_free fN_before fN_flow fN_length fN_stop iN_stops fN_price fN_rest) s.heap.size = A at hD ⊢
  have hA : ∀ q : Nat, s.heap.size ≤ q → A q := fun q h => by rw [← hAe]; exact Or.inr h
  have hS : va_S A s.heap s.heap [] := va_S.rf
  have hl := lv_entry ([.ref (hN 0), .int p1, .int p2]) (n := 8) (Nat.le_of_ble_eq_true rfl)
  rw [lg_entry_eq]
  generalize (lg_sl ([.ref (hN 0), .int p1, .int p2]) ++ List.replicate (8 - (lg_sl ([.ref (hN 0), .int p1, .int p2])).length) Slot.unset).toArray = ls at hl ⊢
  have hl : lv_has ls 8 [(0, .ref (hN 0)), (1, .int p1), (2, .int p2)] := hl
  refine lv_aload_n hx hb dX2_reach_0 rfl (lv_at hl 0 rfl) ?_
  refine lv_iconst (v := 1) hx hb dX2_reach_1 (by decide) ?_
  refine lv_iload_n hx hb dX2_reach_2 rfl (lv_at hl 1 rfl) ?_
  refine lv_ishl hx hb dX2_reach_3 ?_
  refine lv_topi (fun v1 hv1 => ?_)
  have b_v1 : v1 = (1 : Int32) <<< (p1 &&& 31) := hv1
  clear hv1
  refine va_put (D := (dC, dI)) (ci := 2) (v := .int v1) (ty := .int) (C := RX2) (T := TX2) (N := 14) hx hb hts iwsMX2_reach_in2 tyX2 tyX2_ok nmX2 hown hK hP hD hS 0 rfl rfl 5 (by decide) (hts (.fieldLink RX2 67 "OptimaWorks$NetDesk" "reached" "I") (by decide +kernel)) (fun _ h9 => h9) rfl (by decide +kernel) rfl rfl (Nat.le_of_ble_eq_true rfl) dX2_reach_4 (fun H locs hP hD hS => ?_)
  have hP : va_P (dC, dI) vwCl (WN hN aN kN iN_arcs fN_from fN_to fN_room fN_cost v1 fN_free fN_before fN_flow fN_length fN_stop iN_stops fN_price fN_rest) H := hP
  have hD : va_D A (WN hN aN kN iN_arcs fN_from fN_to fN_room fN_cost v1 fN_free fN_before fN_flow fN_length fN_stop iN_stops fN_price fN_rest) := hD
  refine lv_aload_n hx hb dX2_reach_7 rfl (lv_at hl 0 rfl) ?_
  refine va_get (D := (dC, dI)) (ci := 2) (v := .int v1) (C := RX2) (T := TX2) (N := 14) hx hb hts iwsMX2_reach_in2 hown hK hP 0 rfl rfl 5 (by decide) (hts (.fieldLink RX2 67 "OptimaWorks$NetDesk" "reached" "I") (by decide +kernel)) (fun _ h9 => h9) rfl dX2_reach_8 ?_
  refine lv_istore_n hx hb dX2_reach_11 rfl hl (by decide) rfl (fun ls (hl : lv_has ls _ ([(3, .int v1), (0, .ref (hN 0)), (1, .int p1), (2, .int p2)])) => ?_)
  refine lv_iconst (v := 0) hx hb dX2_reach_12 (by decide) ?_
  refine lv_istore hx hb dX2_reach_13 hl (by decide) rfl (fun ls (hl : lv_has ls _ ([(4, .int 0), (3, .int v1), (0, .ref (hN 0)), (1, .int p1), (2, .int p2)])) => ?_)
  have hl : lv_has _ _ ([(4, .int 0), (3, .int v1), (0, .ref (hN 0)), (1, .int p1), (2, .int p2)]) := lv_sub hl [0, 1, 2, 3, 4] rfl
  refine (fun (loop : ∀ (n9 : Nat) (iN_reached_x15 : Int32) (fN_before_x15 : Nat → Int32) (l4_x15 : Int32) (l3_x15 : Int32) (H : Heap) (locs : List Loc) (ls : Array Slot), (∀ q : Nat, 0 ≤ (fN_before_x15 q).toInt ∧ (fN_before_x15 q).toInt ≤ 79) → (0 ≤ l4_x15.toInt ∧ l4_x15.toInt ≤ 12) → (RB p1.toInt iN_reached_x15 fN_before_x15) → (SubB l3_x15 iN_reached_x15) → (RQ1 p1.toInt.toNat fN_free fN_before_x15 iN_reached_x15 l3_x15 l4_x15.toInt) → (12 - l4_x15.toInt < ((n9 : Nat) : Int)) → va_P (dC, dI) vwCl (WN hN aN kN iN_arcs fN_from fN_to fN_room fN_cost iN_reached_x15 fN_free fN_before_x15 fN_flow fN_length fN_stop iN_stops fN_price fN_rest) H → va_D A (WN hN aN kN iN_arcs fN_from fN_to fN_room fN_cost iN_reached_x15 fN_free fN_before_x15 fN_flow fN_length fN_stop iN_stops fN_price fN_rest) → va_S A s.heap H locs → lv_has ls 8 [(4, .int l4_x15), (3, .int l3_x15), (0, .ref (hN 0)), (1, .int p1), (2, .int p2)] → W p l e _ s m _ below meth c H locs 0 0 _ (F0 m 15 ls [])) => loop (13) v1 fN_before 0 v1 _ _ _ b_fN_before (show 0 ≤ (0 : Int32).toInt ∧ (0 : Int32).toInt ≤ 12 from by decide) (show RB p1.toInt v1 fN_before from by first | assumption | exact RB.first rfl (by omega) (by omega) (by assumption) | exact RB.more hRB hSE (by assumption) (by assumption) (by assumption) (by assumption) (by omega) (by omega) (by omega) (by omega)) (show SubB v1 v1 from by first | assumption | exact SubB.refl _ | exact SubB.zero _ | exact hSF | exact SubB.grow hSE (by assumption)) (show RQ1 p1.toInt.toNat fN_free fN_before v1 v1 (0 : Int32).toInt from RQ1.first (p := p1) (by omega) (by omega) rfl (by assumption) rfl (by decide)) ((by have e9 : (0 : Int32).toInt = 0 := (by decide : (0 : Int32).toInt = 0); omega)) hP hD hS hl) ?_
  intro n9
  induction n9 with
  | zero => intro iN_reached_x15 fN_before_x15 l4_x15 l3_x15 H locs ls b_fN_before_x15 b_l4_x15 hRB hSE hQ1 hf9; exact False.elim (by omega)
  | succ n9 ihx15 =>
    intro iN_reached_x15 fN_before_x15 l4_x15 l3_x15 H locs ls b_fN_before_x15 b_l4_x15 hRB hSE hQ1 hfx15 hP hD hS hl
    refine lv_iload hx hb dX2_reach_15 (lv_at hl 0 rfl) ?_
    refine lv_bipush (v := 12) hx hb dX2_reach_17 (by decide) ?_
    refine W.cut (pc := 138) (fun H locs ls stk => (12 ≤ l4_x15.toInt ∨ l3_x15.toInt = 0) ∧  stk = [] ∧ va_P (dC, dI) vwCl (WN hN aN kN iN_arcs fN_from fN_to fN_room fN_cost iN_reached_x15 fN_free fN_before_x15 fN_flow fN_length fN_stop iN_stops fN_price fN_rest) H ∧ va_D A (WN hN aN kN iN_arcs fN_from fN_to fN_room fN_cost iN_reached_x15 fN_free fN_before_x15 fN_flow fN_length fN_stop iN_stops fN_price fN_rest) ∧ va_S A s.heap H locs ∧ lv_has ls 8 [(4, .int l4_x15), (3, .int l3_x15), (0, .ref (hN 0)), (1, .int p1), (2, .int p2)]) (fun join119 => ?_) ?_
    · refine lv_icmp_ge (tgt := 138) hx hb dX2_reach_19 (by decide) (fun c_19 => ?_) (fun c_19 => ?_)
      · have t_19 : l4_x15.toInt ≥ 12 := toI_ge c_19 rfl (by decide : (12 : Int32).toInt = 12)
        have hl : lv_has _ _ ([(4, .int l4_x15), (3, .int l3_x15), (0, .ref (hN 0)), (1, .int p1), (2, .int p2)]) := lv_sub hl [0, 1, 2, 3, 4] rfl
        exact join119 _ _ _ _ ⟨(show 12 ≤ l4_x15.toInt ∨ l3_x15.toInt = 0 from by first | exact Or.inl (by omega) | exact Or.inr t_23), rfl, hP, hD, hS, hl⟩
      · have t_19 : ¬ l4_x15.toInt ≥ 12 := toI_nge c_19 rfl (by decide : (12 : Int32).toInt = 12)
        refine lv_iload_n hx hb dX2_reach_22 rfl (lv_at hl 1 rfl) ?_
        refine lv_if_eq (tgt := 138) hx hb dX2_reach_23 (by decide) (fun c_23 => ?_) (fun c_23 => ?_)
        · have t_23 : l3_x15.toInt = 0 := toI_eq c_23 rfl (by decide : (0 : Int32).toInt = 0)
          have hl : lv_has _ _ ([(4, .int l4_x15), (3, .int l3_x15), (0, .ref (hN 0)), (1, .int p1), (2, .int p2)]) := lv_sub hl [0, 1, 2, 3, 4] rfl
          exact join119 _ _ _ _ ⟨(show 12 ≤ l4_x15.toInt ∨ l3_x15.toInt = 0 from by first | exact Or.inl (by omega) | exact Or.inr t_23), rfl, hP, hD, hS, hl⟩
        · have t_23 : ¬ l3_x15.toInt = 0 := toI_neq c_23 rfl (by decide : (0 : Int32).toInt = 0)
          refine lv_iconst (v := 0) hx hb dX2_reach_26 (by decide) ?_
          refine lv_istore hx hb dX2_reach_27 hl (by decide) rfl (fun ls (hl : lv_has ls _ ([(5, .int 0), (4, .int l4_x15), (3, .int l3_x15), (0, .ref (hN 0)), (1, .int p1), (2, .int p2)])) => ?_)
          refine lv_iconst (v := 0) hx hb dX2_reach_29 (by decide) ?_
          refine lv_istore hx hb dX2_reach_30 hl (by decide) rfl (fun ls (hl : lv_has ls _ ([(6, .int 0), (5, .int 0), (4, .int l4_x15), (3, .int l3_x15), (0, .ref (hN 0)), (1, .int p1), (2, .int p2)])) => ?_)
          have hl : lv_has _ _ ([(6, .int 0), (5, .int 0), (4, .int l4_x15), (3, .int l3_x15), (0, .ref (hN 0)), (1, .int p1), (2, .int p2)]) := lv_sub hl [0, 1, 2, 3, 4, 5, 6] rfl
          refine (fun (loop : ∀ (n9 : Nat) (iN_reached_x32 : Int32) (fN_before_x32 : Nat → Int32) (l6_x32 : Int32) (l5_x32 : Int32) (H : Heap) (locs : List Loc) (ls : Array Slot), (∀ q : Nat, 0 ≤ (fN_before_x32 q).toInt ∧ (fN_before_x32 q).toInt ≤ 79) → (0 ≤ l6_x32.toInt ∧ l6_x32.toInt ≤ 12) → (RB p1.toInt iN_reached_x32 fN_before_x32) → (SubB l3_x15 iN_reached_x32) → (SubB l5_x32 iN_reached_x32) → (RQ2 p1.toInt.toNat fN_free fN_before_x32 iN_reached_x32 l3_x15 l5_x32 l4_x15.toInt l6_x32.toInt.toNat) → (12 - l6_x32.toInt < ((n9 : Nat) : Int)) → va_P (dC, dI) vwCl (WN hN aN kN iN_arcs fN_from fN_to fN_room fN_cost iN_reached_x32 fN_free fN_before_x32 fN_flow fN_length fN_stop iN_stops fN_price fN_rest) H → va_D A (WN hN aN kN iN_arcs fN_from fN_to fN_room fN_cost iN_reached_x32 fN_free fN_before_x32 fN_flow fN_length fN_stop iN_stops fN_price fN_rest) → va_S A s.heap H locs → lv_has ls 8 [(6, .int l6_x32), (5, .int l5_x32), (4, .int l4_x15), (3, .int l3_x15), (0, .ref (hN 0)), (1, .int p1), (2, .int p2)] → W p l e _ s m _ below meth c H locs 0 0 _ (F0 m 32 ls [])) => loop (13) iN_reached_x15 fN_before_x15 0 0 _ _ _ b_fN_before_x15 (show 0 ≤ (0 : Int32).toInt ∧ (0 : Int32).toInt ≤ 12 from by decide) (show RB p1.toInt iN_reached_x15 fN_before_x15 from by first | assumption | exact RB.first rfl (by omega) (by omega) (by assumption) | exact RB.more hRB hSE (by assumption) (by assumption) (by assumption) (by assumption) (by omega) (by omega) (by omega) (by omega)) (show SubB l3_x15 iN_reached_x15 from by first | assumption | exact SubB.refl _ | exact SubB.zero _ | exact hSF | exact SubB.grow hSE (by assumption)) (show SubB (0 : Int32) iN_reached_x15 from by first | assumption | exact SubB.zero _ | exact SubB.both hSF (by assumption) (by assumption)) (show RQ2 p1.toInt.toNat fN_free fN_before_x15 iN_reached_x15 l3_x15 (0 : Int32) l4_x15.toInt (0 : Int32).toInt.toNat from RQ2.start hQ1 t_23 rfl (by decide)) ((by have e9 : (0 : Int32).toInt = 0 := (by decide : (0 : Int32).toInt = 0); omega)) hP hD hS hl) ?_
          intro n9
          induction n9 with
          | zero => intro iN_reached_x32 fN_before_x32 l6_x32 l5_x32 H locs ls b_fN_before_x32 b_l6_x32 hRB hSE hSF hQ2 hf9; exact False.elim (by omega)
          | succ n9 ihx32 =>
            intro iN_reached_x32 fN_before_x32 l6_x32 l5_x32 H locs ls b_fN_before_x32 b_l6_x32 hRB hSE hSF hQ2 hfx32 hP hD hS hl
            refine lv_iload hx hb dX2_reach_32 (lv_at hl 0 rfl) ?_
            refine lv_bipush (v := 12) hx hb dX2_reach_34 (by decide) ?_
            refine lv_icmp_ge (tgt := 129) hx hb dX2_reach_36 (by decide) (fun c_36 => ?_) (fun c_36 => ?_)
            · have t_36 : l6_x32.toInt ≥ 12 := toI_ge c_36 rfl (by decide : (12 : Int32).toInt = 12)
              refine lv_iload hx hb dX2_reach_129 (lv_at hl 1 rfl) ?_
              refine lv_istore_n hx hb dX2_reach_131 rfl hl (by decide) rfl (fun ls (hl : lv_has ls _ ([(3, .int l5_x32), (6, .int l6_x32), (5, .int l5_x32), (4, .int l4_x15), (0, .ref (hN 0)), (1, .int p1), (2, .int p2)])) => ?_)
              refine lv_iinc (v := (iI (l4_x15.toInt + 1))) hx hb dX2_reach_132 hl (k := 3) rfl (iI_add2 (iI_of _) (by decide : (1 : Int32) = iI 1)) (by decide) rfl (fun ls (hl : lv_has ls _ ([(4, .int (iI (l4_x15.toInt + 1))), (3, .int l5_x32), (6, .int l6_x32), (5, .int l5_x32), (0, .ref (hN 0)), (1, .int p1), (2, .int p2)])) => ?_)
              refine lv_goto (tgt := 15) hx hb dX2_reach_135 (by decide) ?_
              have hl : lv_has _ _ ([(4, .int (iI (l4_x15.toInt + 1))), (3, .int l5_x32), (0, .ref (hN 0)), (1, .int p1), (2, .int p2)]) := lv_sub hl [0, 1, 4, 5, 6] rfl
              exact ihx15 iN_reached_x32 fN_before_x32 (iI (l4_x15.toInt + 1)) l5_x32 _ _ _ b_fN_before_x32 (iI_rng (Int.le_trans (by decide) (Int.add_le_add (b_l4_x15.1) (Int.le_refl _))) (by omega) (by decide) (by decide)) (show RB p1.toInt iN_reached_x32 fN_before_x32 from by first | assumption | exact RB.first rfl (by omega) (by omega) (by assumption) | exact RB.more hRB hSE (by assumption) (by assumption) (by assumption) (by assumption) (by omega) (by omega) (by omega) (by omega)) (show SubB l5_x32 iN_reached_x32 from by first | assumption | exact SubB.refl _ | exact SubB.zero _ | exact hSF | exact SubB.grow hSE (by assumption)) (show RQ1 p1.toInt.toNat fN_free fN_before_x32 iN_reached_x32 l5_x32 (iI (l4_x15.toInt + 1)).toInt from by rw [iI_t (by omega) (by omega)]; exact RQ2.exit hQ2 (by omega) rfl) (by have e9 : ((iI (l4_x15.toInt + 1))).toInt = (l4_x15.toInt + 1) := (iI_t (Int.le_trans (by decide) (Int.add_le_add (b_l4_x15.1) (Int.le_refl _))) (Int.le_trans (Int.add_le_add (b_l4_x15.2) (Int.le_refl _)) (by decide))); omega) hP hD hS hl
            · have t_36 : ¬ l6_x32.toInt ≥ 12 := toI_nge c_36 rfl (by decide : (12 : Int32).toInt = 12)
              refine lv_iconst (v := 0) hx hb dX2_reach_39 (by decide) ?_
              refine lv_istore hx hb dX2_reach_40 hl (by decide) rfl (fun ls (hl : lv_has ls _ ([(7, .int 0), (6, .int l6_x32), (5, .int l5_x32), (4, .int l4_x15), (3, .int l3_x15), (0, .ref (hN 0)), (1, .int p1), (2, .int p2)])) => ?_)
              have hl : lv_has _ _ ([(7, .int 0), (6, .int l6_x32), (5, .int l5_x32), (4, .int l4_x15), (3, .int l3_x15), (0, .ref (hN 0)), (1, .int p1), (2, .int p2)]) := lv_sub hl [0, 1, 2, 3, 4, 5, 6, 7] rfl
              refine (fun (loop : ∀ (n9 : Nat) (iN_reached_x42 : Int32) (fN_before_x42 : Nat → Int32) (l7_x42 : Int32) (l5_x42 : Int32) (H : Heap) (locs : List Loc) (ls : Array Slot), (∀ q : Nat, 0 ≤ (fN_before_x42 q).toInt ∧ (fN_before_x42 q).toInt ≤ 79) → (0 ≤ l7_x42.toInt ∧ l7_x42.toInt ≤ 12) → (RB p1.toInt iN_reached_x42 fN_before_x42) → (SubB l3_x15 iN_reached_x42) → (SubB l5_x42 iN_reached_x42) → (RQ3 p1.toInt.toNat fN_free fN_before_x42 iN_reached_x42 l3_x15 l5_x42 l4_x15.toInt l6_x32.toInt.toNat l7_x42.toInt.toNat) → (12 - l7_x42.toInt < ((n9 : Nat) : Int)) → va_P (dC, dI) vwCl (WN hN aN kN iN_arcs fN_from fN_to fN_room fN_cost iN_reached_x42 fN_free fN_before_x42 fN_flow fN_length fN_stop iN_stops fN_price fN_rest) H → va_D A (WN hN aN kN iN_arcs fN_from fN_to fN_room fN_cost iN_reached_x42 fN_free fN_before_x42 fN_flow fN_length fN_stop iN_stops fN_price fN_rest) → va_S A s.heap H locs → lv_has ls 8 [(7, .int l7_x42), (6, .int l6_x32), (5, .int l5_x42), (4, .int l4_x15), (3, .int l3_x15), (0, .ref (hN 0)), (1, .int p1), (2, .int p2)] → W p l e _ s m _ below meth c H locs 0 0 _ (F0 m 42 ls [])) => loop (13) iN_reached_x32 fN_before_x32 0 l5_x32 _ _ _ b_fN_before_x32 (show 0 ≤ (0 : Int32).toInt ∧ (0 : Int32).toInt ≤ 12 from by decide) (show RB p1.toInt iN_reached_x32 fN_before_x32 from by first | assumption | exact RB.first rfl (by omega) (by omega) (by assumption) | exact RB.more hRB hSE (by assumption) (by assumption) (by assumption) (by assumption) (by omega) (by omega) (by omega) (by omega)) (show SubB l3_x15 iN_reached_x32 from by first | assumption | exact SubB.refl _ | exact SubB.zero _ | exact hSF | exact SubB.grow hSE (by assumption)) (show SubB l5_x32 iN_reached_x32 from by first | assumption | exact SubB.zero _ | exact SubB.both hSF (by assumption) (by assumption)) (show RQ3 p1.toInt.toNat fN_free fN_before_x32 iN_reached_x32 l3_x15 l5_x32 l4_x15.toInt l6_x32.toInt.toNat (0 : Int32).toInt.toNat from RQ3.start hQ2 (by decide)) ((by have e9 : (0 : Int32).toInt = 0 := (by decide : (0 : Int32).toInt = 0); omega)) hP hD hS hl) ?_
              intro n9
              induction n9 with
              | zero => intro iN_reached_x42 fN_before_x42 l7_x42 l5_x42 H locs ls b_fN_before_x42 b_l7_x42 hRB hSE hSF hQ3 hf9; exact False.elim (by omega)
              | succ n9 ihx42 =>
                intro iN_reached_x42 fN_before_x42 l7_x42 l5_x42 H locs ls b_fN_before_x42 b_l7_x42 hRB hSE hSF hQ3 hfx42 hP hD hS hl
                refine lv_iload hx hb dX2_reach_42 (lv_at hl 0 rfl) ?_
                refine lv_bipush (v := 12) hx hb dX2_reach_44 (by decide) ?_
                refine W.cut (pc := 123) (fun H locs ls stk => (12 ≤ l7_x42.toInt.toNat ∨ bt l3_x15 l6_x32.toInt.toNat = false) ∧  stk = [] ∧ va_P (dC, dI) vwCl (WN hN aN kN iN_arcs fN_from fN_to fN_room fN_cost iN_reached_x42 fN_free fN_before_x42 fN_flow fN_length fN_stop iN_stops fN_price fN_rest) H ∧ va_D A (WN hN aN kN iN_arcs fN_from fN_to fN_room fN_cost iN_reached_x42 fN_free fN_before_x42 fN_flow fN_length fN_stop iN_stops fN_price fN_rest) ∧ va_S A s.heap H locs ∧ lv_has ls 8 [(7, .int l7_x42), (6, .int l6_x32), (5, .int l5_x42), (4, .int l4_x15), (3, .int l3_x15), (0, .ref (hN 0)), (1, .int p1), (2, .int p2)]) (fun join129 => ?_) ?_
                · refine lv_icmp_ge (tgt := 123) hx hb dX2_reach_46 (by decide) (fun c_46 => ?_) (fun c_46 => ?_)
                  · have t_46 : l7_x42.toInt ≥ 12 := toI_ge c_46 rfl (by decide : (12 : Int32).toInt = 12)
                    have hl : lv_has _ _ ([(7, .int l7_x42), (6, .int l6_x32), (5, .int l5_x42), (4, .int l4_x15), (3, .int l3_x15), (0, .ref (hN 0)), (1, .int p1), (2, .int p2)]) := lv_sub hl [0, 1, 2, 3, 4, 5, 6, 7] rfl
                    exact join129 _ _ _ _ ⟨(show 12 ≤ l7_x42.toInt.toNat ∨ bt l3_x15 l6_x32.toInt.toNat = false from by first | exact Or.inl (by omega) | exact Or.inr (bt_no b_v2083 t_55)), rfl, hP, hD, hS, hl⟩
                  · have t_46 : ¬ l7_x42.toInt ≥ 12 := toI_nge c_46 rfl (by decide : (12 : Int32).toInt = 12)
                    refine lv_iload_n hx hb dX2_reach_49 rfl (lv_at hl 4 rfl) ?_
                    refine lv_iload hx hb dX2_reach_50 (lv_at hl 1 rfl) ?_
                    refine lv_ishr hx hb dX2_reach_52 ?_
                    refine lv_topi (fun v2094 hv2094 => ?_)
                    have b_v2094 : v2094 = l3_x15 >>> (l6_x32 &&& 31) := hv2094
                    clear hv2094
                    refine lv_iconst (v := 1) hx hb dX2_reach_53 (by decide) ?_
                    refine lv_iand hx hb dX2_reach_54 ?_
                    refine lv_topi (fun v2095 hv2095 => ?_)
                    have b_v2095 : (bt l3_x15 l6_x32.toInt.toNat = true ∧ v2095.toInt = 1) ∨ (bt l3_x15 l6_x32.toInt.toNat = false ∧ v2095.toInt = 0) := by rw [hv2095]; exact sh_and1 b_v2094 rfl (by omega) (by omega)
                    clear hv2095
                    refine lv_if_eq (tgt := 123) hx hb dX2_reach_55 (by decide) (fun c_55 => ?_) (fun c_55 => ?_)
                    · have t_55 : v2095.toInt = 0 := toI_eq c_55 rfl (by decide : (0 : Int32).toInt = 0)
                      have hl : lv_has _ _ ([(7, .int l7_x42), (6, .int l6_x32), (5, .int l5_x42), (4, .int l4_x15), (3, .int l3_x15), (0, .ref (hN 0)), (1, .int p1), (2, .int p2)]) := lv_sub hl [0, 1, 2, 3, 4, 5, 6, 7] rfl
                      exact join129 _ _ _ _ ⟨(show 12 ≤ l7_x42.toInt.toNat ∨ bt l3_x15 l6_x32.toInt.toNat = false from by first | exact Or.inl (by omega) | exact Or.inr (bt_no b_v2095 t_55)), rfl, hP, hD, hS, hl⟩
                    · have t_55 : ¬ v2095.toInt = 0 := toI_neq c_55 rfl (by decide : (0 : Int32).toInt = 0)
                      refine lv_aload_n hx hb dX2_reach_58 rfl (lv_at hl 5 rfl) ?_
                      refine va_get (D := (dC, dI)) (ci := 2) (v := .int iN_reached_x42) (C := RX2) (T := TX2) (N := 14) hx hb hts iwsMX2_reach_in2 hown hK hP 0 rfl rfl 5 (by decide) (hts (.fieldLink RX2 67 "OptimaWorks$NetDesk" "reached" "I") (by decide +kernel)) (fun _ h9 => h9) rfl dX2_reach_59 ?_
                      refine lv_iload hx hb dX2_reach_62 (lv_at hl 0 rfl) ?_
                      refine lv_ishr hx hb dX2_reach_64 ?_
                      refine lv_topi (fun v2096 hv2096 => ?_)
                      have b_v2096 : v2096 = iN_reached_x42 >>> (l7_x42 &&& 31) := hv2096
                      clear hv2096
                      refine lv_iconst (v := 1) hx hb dX2_reach_65 (by decide) ?_
                      refine lv_iand hx hb dX2_reach_66 ?_
                      refine lv_topi (fun v2097 hv2097 => ?_)
                      have b_v2097 : (bt iN_reached_x42 l7_x42.toInt.toNat = true ∧ v2097.toInt = 1) ∨ (bt iN_reached_x42 l7_x42.toInt.toNat = false ∧ v2097.toInt = 0) := by rw [hv2097]; exact sh_and1 b_v2096 rfl (by omega) (by omega)
                      clear hv2097
                      refine lv_if_ne (tgt := 117) hx hb dX2_reach_67 (by decide) (fun c_67 => ?_) (fun c_67 => ?_)
                      · have t_67 : v2097.toInt ≠ 0 := toI_ne c_67 rfl (by decide : (0 : Int32).toInt = 0)
                        refine lv_iinc (v := (iI (l7_x42.toInt + 1))) hx hb dX2_reach_117 hl (k := 0) rfl (iI_add2 (iI_of _) (by decide : (1 : Int32) = iI 1)) (by decide) rfl (fun ls (hl : lv_has ls _ ([(7, .int (iI (l7_x42.toInt + 1))), (6, .int l6_x32), (5, .int l5_x42), (4, .int l4_x15), (3, .int l3_x15), (0, .ref (hN 0)), (1, .int p1), (2, .int p2)])) => ?_)
                        refine lv_goto (tgt := 42) hx hb dX2_reach_120 (by decide) ?_
                        have hl : lv_has _ _ ([(7, .int (iI (l7_x42.toInt + 1))), (6, .int l6_x32), (5, .int l5_x42), (4, .int l4_x15), (3, .int l3_x15), (0, .ref (hN 0)), (1, .int p1), (2, .int p2)]) := lv_sub hl [0, 1, 2, 3, 4, 5, 6, 7] rfl
                        exact ihx42 iN_reached_x42 fN_before_x42 (iI (l7_x42.toInt + 1)) l5_x42 _ _ _ b_fN_before_x42 (iI_rng (Int.le_trans (by decide) (Int.add_le_add (b_l7_x42.1) (Int.le_refl _))) (by omega) (by decide) (by decide)) (show RB p1.toInt iN_reached_x42 fN_before_x42 from by first | assumption | exact RB.first rfl (by omega) (by omega) (by assumption) | exact RB.more hRB hSE (by assumption) (by assumption) (by assumption) (by assumption) (by omega) (by omega) (by omega) (by omega)) (show SubB l3_x15 iN_reached_x42 from by first | assumption | exact SubB.refl _ | exact SubB.zero _ | exact hSF | exact SubB.grow hSE (by assumption)) (show SubB l5_x42 iN_reached_x42 from by first | assumption | exact SubB.zero _ | exact SubB.both hSF (by assumption) (by assumption)) (show RQ3 p1.toInt.toNat fN_free fN_before_x42 iN_reached_x42 l3_x15 l5_x42 l4_x15.toInt l6_x32.toInt.toNat (iI (l7_x42.toInt + 1)).toInt.toNat from by rw [show (iI (l7_x42.toInt + 1)).toInt.toNat = l7_x42.toInt.toNat + 1 from by rw [iI_t (by omega) (by omega)]; omega]; first | (exact RQ3.seen hQ3 (Or.inl (bt_yes b_v2097 t_67))) | (have eIt : ((iI ((l6_x32.toInt * 12) + l7_x42.toInt))).toNatClampNeg = 12 * l6_x32.toInt.toNat + l7_x42.toInt.toNat := (by show (iI (l6_x32.toInt * 12 + l7_x42.toInt)).toInt.toNat = _; rw [iI_t (by omega) (by omega)]; omega); exact RQ3.seen hQ3 (Or.inr (by rw [← eIt, ← b_v2088]; omega)))) (by have e9 : ((iI (l7_x42.toInt + 1))).toInt = (l7_x42.toInt + 1) := (iI_t (Int.le_trans (by decide) (Int.add_le_add (b_l7_x42.1) (Int.le_refl _))) (Int.le_trans (Int.add_le_add (b_l7_x42.2) (Int.le_refl _)) (by decide))); omega) hP hD hS hl
                      · have t_67 : v2097.toInt = 0 := toI_nne c_67 rfl (by decide : (0 : Int32).toInt = 0)
                        refine lv_aload_n hx hb dX2_reach_70 rfl (lv_at hl 5 rfl) ?_
                        refine va_get (D := (dC, dI)) (ci := 2) (v := .ref (aN 4)) (C := RX2) (T := TX2) (N := 14) hx hb hts iwsMX2_reach_in2 hown hK hP 0 rfl rfl 6 (by decide) (hts (.fieldLink RX2 24 "OptimaWorks$NetDesk" "free" "[I") (by decide +kernel)) (fun _ h9 => h9) rfl dX2_reach_71 ?_
                        refine lv_iload hx hb dX2_reach_74 (lv_at hl 1 rfl) ?_
                        refine lv_bipush (v := 12) hx hb dX2_reach_76 (by decide) ?_
                        refine lv_imul hx hb dX2_reach_78 ?_
                        refine lv_topi (fun y2098 hy2098 => ?_)
                        obtain rfl : (iI (l6_x32.toInt * 12)) = y2098 := (hy2098.trans (iI_mul2 (iI_of _) (by decide : (12 : Int32) = iI 12))).symm
                        refine lv_iload hx hb dX2_reach_79 (lv_at hl 0 rfl) ?_
                        refine lv_iadd hx hb dX2_reach_81 ?_
                        refine lv_topi (fun y2099 hy2099 => ?_)
                        obtain rfl : (iI ((l6_x32.toInt * 12) + l7_x42.toInt)) = y2099 := (hy2099.trans (iI_add2 rfl (iI_of _))).symm
                        refine va_iald (cA := kN 4) (n := 144) (f := fN_free) hx hb hK hP 5 4 rfl rfl (vp_iI (Int.le_trans (by decide) (Int.add_le_add (Int.mul_le_mul_of_nonneg_right (b_l6_x32.1) (by decide)) (b_l7_x42.1))) (by omega) (by decide)) dX2_reach_82 ?_
                        refine lv_topi (fun v2100 hv2100 => ?_)
                        have b_v2100 : v2100 = fN_free ((iI ((l6_x32.toInt * 12) + l7_x42.toInt))).toNatClampNeg := hv2100
                        clear hv2100
                        refine lv_if_le (tgt := 117) hx hb dX2_reach_83 (by decide) (fun c_83 => ?_) (fun c_83 => ?_)
                        · have t_83 : v2100.toInt ≤ 0 := toI_le c_83 rfl (by decide : (0 : Int32).toInt = 0)
                          refine lv_iinc (v := (iI (l7_x42.toInt + 1))) hx hb dX2_reach_117 hl (k := 0) rfl (iI_add2 (iI_of _) (by decide : (1 : Int32) = iI 1)) (by decide) rfl (fun ls (hl : lv_has ls _ ([(7, .int (iI (l7_x42.toInt + 1))), (6, .int l6_x32), (5, .int l5_x42), (4, .int l4_x15), (3, .int l3_x15), (0, .ref (hN 0)), (1, .int p1), (2, .int p2)])) => ?_)
                          refine lv_goto (tgt := 42) hx hb dX2_reach_120 (by decide) ?_
                          have hl : lv_has _ _ ([(7, .int (iI (l7_x42.toInt + 1))), (6, .int l6_x32), (5, .int l5_x42), (4, .int l4_x15), (3, .int l3_x15), (0, .ref (hN 0)), (1, .int p1), (2, .int p2)]) := lv_sub hl [0, 1, 2, 3, 4, 5, 6, 7] rfl
                          exact ihx42 iN_reached_x42 fN_before_x42 (iI (l7_x42.toInt + 1)) l5_x42 _ _ _ b_fN_before_x42 (iI_rng (Int.le_trans (by decide) (Int.add_le_add (b_l7_x42.1) (Int.le_refl _))) (by omega) (by decide) (by decide)) (show RB p1.toInt iN_reached_x42 fN_before_x42 from by first | assumption | exact RB.first rfl (by omega) (by omega) (by assumption) | exact RB.more hRB hSE (by assumption) (by assumption) (by assumption) (by assumption) (by omega) (by omega) (by omega) (by omega)) (show SubB l3_x15 iN_reached_x42 from by first | assumption | exact SubB.refl _ | exact SubB.zero _ | exact hSF | exact SubB.grow hSE (by assumption)) (show SubB l5_x42 iN_reached_x42 from by first | assumption | exact SubB.zero _ | exact SubB.both hSF (by assumption) (by assumption)) (show RQ3 p1.toInt.toNat fN_free fN_before_x42 iN_reached_x42 l3_x15 l5_x42 l4_x15.toInt l6_x32.toInt.toNat (iI (l7_x42.toInt + 1)).toInt.toNat from by rw [show (iI (l7_x42.toInt + 1)).toInt.toNat = l7_x42.toInt.toNat + 1 from by rw [iI_t (by omega) (by omega)]; omega]; first | (exact RQ3.seen hQ3 (Or.inl (bt_yes b_v2097 t_67))) | (have eIt : ((iI ((l6_x32.toInt * 12) + l7_x42.toInt))).toNatClampNeg = 12 * l6_x32.toInt.toNat + l7_x42.toInt.toNat := (by show (iI (l6_x32.toInt * 12 + l7_x42.toInt)).toInt.toNat = _; rw [iI_t (by omega) (by omega)]; omega); exact RQ3.seen hQ3 (Or.inr (by rw [← eIt, ← b_v2100]; omega)))) (by have e9 : ((iI (l7_x42.toInt + 1))).toInt = (l7_x42.toInt + 1) := (iI_t (Int.le_trans (by decide) (Int.add_le_add (b_l7_x42.1) (Int.le_refl _))) (Int.le_trans (Int.add_le_add (b_l7_x42.2) (Int.le_refl _)) (by decide))); omega) hP hD hS hl
                        · have t_83 : ¬ v2100.toInt ≤ 0 := toI_nle c_83 rfl (by decide : (0 : Int32).toInt = 0)
                          have hbi : bt l3_x15 l6_x32.toInt.toNat = true := by rcases b_v2095 with ⟨h9, _⟩ | ⟨_, h9⟩; exact h9; omega
                          have hbj : bt iN_reached_x42 l7_x42.toInt.toNat = false := by rcases b_v2097 with ⟨_, h9⟩ | ⟨h9, _⟩; omega; exact h9
                          refine lv_aload_n hx hb dX2_reach_86 rfl (lv_at hl 5 rfl) ?_
                          refine va_get (D := (dC, dI)) (ci := 2) (v := .ref (aN 5)) (C := RX2) (T := TX2) (N := 14) hx hb hts iwsMX2_reach_in2 hown hK hP 0 rfl rfl 7 (by decide) (hts (.fieldLink RX2 27 "OptimaWorks$NetDesk" "before" "[I") (by decide +kernel)) (fun _ h9 => h9) rfl dX2_reach_87 ?_
                          refine lv_iload hx hb dX2_reach_90 (lv_at hl 0 rfl) ?_
                          refine lv_iload hx hb dX2_reach_92 (lv_at hl 1 rfl) ?_
                          refine va_iast (cA := kN 5) (n := 12) (f := fN_before_x42) hx hb hK hP hD hS 6 5 rfl rfl (vp_in_iff.mpr ⟨b_l7_x42.1, (Int.lt_of_lt_of_le (Int.not_le.mp t_46) (by decide))⟩) dX2_reach_94 (fun H locs hP hD hS => ?_)
                          obtain ⟨u2101, hu2101⟩ : ∃ f9, f9 = upd fN_before_x42 (l7_x42).toNatClampNeg l6_x32 := ⟨_, rfl⟩
                          have hP : va_P (dC, dI) vwCl (WN hN aN kN iN_arcs fN_from fN_to fN_room fN_cost iN_reached_x42 fN_free u2101 fN_flow fN_length fN_stop iN_stops fN_price fN_rest) H := by rw [hu2101]; exact hP
                          have hD : va_D A (WN hN aN kN iN_arcs fN_from fN_to fN_room fN_cost iN_reached_x42 fN_free u2101 fN_flow fN_length fN_stop iN_stops fN_price fN_rest) := by rw [hu2101]; exact hD
                          have b_u2101 : ∀ q : Nat, 0 ≤ (u2101 q).toInt ∧ (u2101 q).toInt ≤ 79 := by rw [hu2101]; exact upd_r b_fN_before_x42 (⟨b_l6_x32.1, Int.le_trans b_l6_x32.2 (by decide)⟩)
                          have b1_u2101 : u2101 = upd fN_before_x42 (l7_x42).toNatClampNeg l6_x32 := hu2101
                          clear hu2101
                          refine lv_aload_n hx hb dX2_reach_95 rfl (lv_at hl 5 rfl) ?_
                          refine lv_dup hx hb dX2_reach_96 rfl ?_
                          refine va_get (D := (dC, dI)) (ci := 2) (v := .int iN_reached_x42) (C := RX2) (T := TX2) (N := 14) hx hb hts iwsMX2_reach_in2 hown hK hP 0 rfl rfl 5 (by decide) (hts (.fieldLink RX2 67 "OptimaWorks$NetDesk" "reached" "I") (by decide +kernel)) (fun _ h9 => h9) rfl dX2_reach_97 ?_
                          refine lv_iconst (v := 1) hx hb dX2_reach_100 (by decide) ?_
                          refine lv_iload hx hb dX2_reach_101 (lv_at hl 0 rfl) ?_
                          refine lv_ishl hx hb dX2_reach_103 ?_
                          refine lv_topi (fun v2102 hv2102 => ?_)
                          have b_v2102 : v2102 = (1 : Int32) <<< (l7_x42 &&& 31) := hv2102
                          clear hv2102
                          refine lv_ior hx hb dX2_reach_104 ?_
                          refine lv_topi (fun v2103 hv2103 => ?_)
                          have b_v2103 : v2103 = iN_reached_x42 ||| (1 : Int32) <<< (l7_x42 &&& 31) := by rw [hv2103]; exact by rw [b_v2102]
                          clear hv2103
                          refine va_put (D := (dC, dI)) (ci := 2) (v := .int v2103) (ty := .int) (C := RX2) (T := TX2) (N := 14) hx hb hts iwsMX2_reach_in2 tyX2 tyX2_ok nmX2 hown hK hP hD hS 0 rfl rfl 5 (by decide) (hts (.fieldLink RX2 67 "OptimaWorks$NetDesk" "reached" "I") (by decide +kernel)) (fun _ h9 => h9) rfl (by decide +kernel) rfl rfl (Nat.le_of_ble_eq_true rfl) dX2_reach_105 (fun H locs hP hD hS => ?_)
                          have hP : va_P (dC, dI) vwCl (WN hN aN kN iN_arcs fN_from fN_to fN_room fN_cost v2103 fN_free u2101 fN_flow fN_length fN_stop iN_stops fN_price fN_rest) H := hP
                          have hD : va_D A (WN hN aN kN iN_arcs fN_from fN_to fN_room fN_cost v2103 fN_free u2101 fN_flow fN_length fN_stop iN_stops fN_price fN_rest) := hD
                          refine lv_iload hx hb dX2_reach_108 (lv_at hl 2 rfl) ?_
                          refine lv_iconst (v := 1) hx hb dX2_reach_110 (by decide) ?_
                          refine lv_iload hx hb dX2_reach_111 (lv_at hl 0 rfl) ?_
                          refine lv_ishl hx hb dX2_reach_113 ?_
                          refine lv_topi (fun v2104 hv2104 => ?_)
                          have b_v2104 : v2104 = (1 : Int32) <<< (l7_x42 &&& 31) := hv2104
                          clear hv2104
                          refine lv_ior hx hb dX2_reach_114 ?_
                          refine lv_topi (fun v2105 hv2105 => ?_)
                          have b_v2105 : v2105 = l5_x42 ||| (1 : Int32) <<< (l7_x42 &&& 31) := by rw [hv2105]; exact by rw [b_v2104]
                          clear hv2105
                          refine lv_istore hx hb dX2_reach_115 hl (by decide) rfl (fun ls (hl : lv_has ls _ ([(5, .int v2105), (7, .int l7_x42), (6, .int l6_x32), (4, .int l4_x15), (3, .int l3_x15), (0, .ref (hN 0)), (1, .int p1), (2, .int p2)])) => ?_)
                          refine lv_iinc (v := (iI (l7_x42.toInt + 1))) hx hb dX2_reach_117 hl (k := 1) rfl (iI_add2 (iI_of _) (by decide : (1 : Int32) = iI 1)) (by decide) rfl (fun ls (hl : lv_has ls _ ([(7, .int (iI (l7_x42.toInt + 1))), (5, .int v2105), (6, .int l6_x32), (4, .int l4_x15), (3, .int l3_x15), (0, .ref (hN 0)), (1, .int p1), (2, .int p2)])) => ?_)
                          refine lv_goto (tgt := 42) hx hb dX2_reach_120 (by decide) ?_
                          have hl : lv_has _ _ ([(7, .int (iI (l7_x42.toInt + 1))), (6, .int l6_x32), (5, .int v2105), (4, .int l4_x15), (3, .int l3_x15), (0, .ref (hN 0)), (1, .int p1), (2, .int p2)]) := lv_sub hl [0, 2, 1, 3, 4, 5, 6, 7] rfl
                          exact ihx42 v2103 u2101 (iI (l7_x42.toInt + 1)) v2105 _ _ _ b_u2101 (iI_rng (Int.le_trans (by decide) (Int.add_le_add (b_l7_x42.1) (Int.le_refl _))) (by omega) (by decide) (by decide)) (show RB p1.toInt v2103 u2101 from by first | assumption | exact RB.first rfl (by omega) (by omega) (by assumption) | exact RB.more hRB hSE (by assumption) (by assumption) (by assumption) (by assumption) (by omega) (by omega) (by omega) (by omega)) (show SubB l3_x15 v2103 from by first | assumption | exact SubB.refl _ | exact SubB.zero _ | exact hSF | exact SubB.grow hSE (by assumption)) (show SubB v2105 v2103 from by first | assumption | exact SubB.zero _ | exact SubB.both hSF (by assumption) (by assumption)) (show RQ3 p1.toInt.toNat fN_free u2101 v2103 l3_x15 v2105 l4_x15.toInt l6_x32.toInt.toNat (iI (l7_x42.toInt + 1)).toInt.toNat from by rw [show (iI (l7_x42.toInt + 1)).toInt.toNat = l7_x42.toInt.toNat + 1 from by rw [iI_t (by omega) (by omega)]; omega]; (have eIt : ((iI ((l6_x32.toInt * 12) + l7_x42.toInt))).toNatClampNeg = 12 * l6_x32.toInt.toNat + l7_x42.toInt.toNat := (by show (iI (l6_x32.toInt * 12 + l7_x42.toInt)).toInt.toNat = _; rw [iI_t (by omega) (by omega)]; omega); exact RQ3.add hQ3 (by omega) (by omega) (x := l6_x32) (y := l7_x42) (by omega) (by omega) hbi hSE hbj (by rw [← eIt, ← b_v2100]; omega) b1_u2101 b_v2103 b_v2105)) (by have e9 : ((iI (l7_x42.toInt + 1))).toInt = (l7_x42.toInt + 1) := (iI_t (Int.le_trans (by decide) (Int.add_le_add (b_l7_x42.1) (Int.le_refl _))) (Int.le_trans (Int.add_le_add (b_l7_x42.2) (Int.le_refl _)) (by decide))); omega) hP hD hS hl
                · rintro H locs ls stk ⟨hX3, rfl, hP, hD, hS, hl⟩
                  refine lv_iinc (v := (iI (l6_x32.toInt + 1))) hx hb dX2_reach_123 hl (k := 1) rfl (iI_add2 (iI_of _) (by decide : (1 : Int32) = iI 1)) (by decide) rfl (fun ls (hl : lv_has ls _ ([(6, .int (iI (l6_x32.toInt + 1))), (7, .int l7_x42), (5, .int l5_x42), (4, .int l4_x15), (3, .int l3_x15), (0, .ref (hN 0)), (1, .int p1), (2, .int p2)])) => ?_)
                  refine lv_goto (tgt := 32) hx hb dX2_reach_126 (by decide) ?_
                  have hl : lv_has _ _ ([(6, .int (iI (l6_x32.toInt + 1))), (5, .int l5_x42), (4, .int l4_x15), (3, .int l3_x15), (0, .ref (hN 0)), (1, .int p1), (2, .int p2)]) := lv_sub hl [0, 2, 3, 4, 5, 6, 7] rfl
                  exact ihx32 iN_reached_x42 fN_before_x42 (iI (l6_x32.toInt + 1)) l5_x42 _ _ _ b_fN_before_x42 (iI_rng (Int.le_trans (by decide) (Int.add_le_add (b_l6_x32.1) (Int.le_refl _))) (by omega) (by decide) (by decide)) (show RB p1.toInt iN_reached_x42 fN_before_x42 from by first | assumption | exact RB.first rfl (by omega) (by omega) (by assumption) | exact RB.more hRB hSE (by assumption) (by assumption) (by assumption) (by assumption) (by omega) (by omega) (by omega) (by omega)) (show SubB l3_x15 iN_reached_x42 from by first | assumption | exact SubB.refl _ | exact SubB.zero _ | exact hSF | exact SubB.grow hSE (by assumption)) (show SubB l5_x42 iN_reached_x42 from by first | assumption | exact SubB.zero _ | exact SubB.both hSF (by assumption) (by assumption)) (show RQ2 p1.toInt.toNat fN_free fN_before_x42 iN_reached_x42 l3_x15 l5_x42 l4_x15.toInt (iI (l6_x32.toInt + 1)).toInt.toNat from by rw [show (iI (l6_x32.toInt + 1)).toInt.toNat = l6_x32.toInt.toNat + 1 from by rw [iI_t (by omega) (by omega)]; omega]; exact RQ3.exit hQ3 hX3) (by have e9 : ((iI (l6_x32.toInt + 1))).toInt = (l6_x32.toInt + 1) := (iI_t (Int.le_trans (by decide) (Int.add_le_add (b_l6_x32.1) (Int.le_refl _))) (Int.le_trans (Int.add_le_add (b_l6_x32.2) (Int.le_refl _)) (by decide))); omega) hP hD hS hl
    · rintro H locs ls stk ⟨hE1, rfl, hP, hD, hS, hl⟩
      refine lv_aload_n hx hb dX2_reach_138 rfl (lv_at hl 2 rfl) ?_
      refine va_get (D := (dC, dI)) (ci := 2) (v := .int iN_reached_x15) (C := RX2) (T := TX2) (N := 14) hx hb hts iwsMX2_reach_in2 hown hK hP 0 rfl rfl 5 (by decide) (hts (.fieldLink RX2 67 "OptimaWorks$NetDesk" "reached" "I") (by decide +kernel)) (fun _ h9 => h9) rfl dX2_reach_139 ?_
      refine lv_iload_n hx hb dX2_reach_142 rfl (lv_at hl 4 rfl) ?_
      refine lv_ishr hx hb dX2_reach_143 ?_
      refine lv_topi (fun v2106 hv2106 => ?_)
      have b_v2106 : v2106 = iN_reached_x15 >>> (p2 &&& 31) := hv2106
      clear hv2106
      refine lv_iconst (v := 1) hx hb dX2_reach_144 (by decide) ?_
      refine lv_iand hx hb dX2_reach_145 ?_
      refine lv_topi (fun v2107 hv2107 => ?_)
      have b_v2107 : (bt iN_reached_x15 p2.toInt.toNat = true ∧ v2107.toInt = 1) ∨ (bt iN_reached_x15 p2.toInt.toNat = false ∧ v2107.toInt = 0) := by rw [hv2107]; exact sh_and1 b_v2106 rfl (by omega) (by omega)
      clear hv2107
      refine W.cut (pc := 154) (fun H locs ls stk => ∃ (k0_j130 : Int32), (0 ≤ k0_j130.toInt ∧ k0_j130.toInt ≤ 1) ∧ (k0_j130.toInt ≠ 0 → bt iN_reached_x15 p2.toInt.toNat = true) ∧ (k0_j130.toInt = 0 → bt iN_reached_x15 p2.toInt.toNat = false) ∧  stk = [.int k0_j130] ∧ va_P (dC, dI) vwCl (WN hN aN kN iN_arcs fN_from fN_to fN_room fN_cost iN_reached_x15 fN_free fN_before_x15 fN_flow fN_length fN_stop iN_stops fN_price fN_rest) H ∧ va_D A (WN hN aN kN iN_arcs fN_from fN_to fN_room fN_cost iN_reached_x15 fN_free fN_before_x15 fN_flow fN_length fN_stop iN_stops fN_price fN_rest) ∧ va_S A s.heap H locs ∧ lv_has ls 8 [(4, .int l4_x15), (3, .int l3_x15), (0, .ref (hN 0)), (1, .int p1), (2, .int p2)]) (fun join130 => ?_) ?_
      · refine lv_if_eq (tgt := 153) hx hb dX2_reach_146 (by decide) (fun c_146 => ?_) (fun c_146 => ?_)
        · have t_146 : v2107.toInt = 0 := toI_eq c_146 rfl (by decide : (0 : Int32).toInt = 0)
          refine lv_iconst (v := 0) hx hb dX2_reach_153 (by decide) ?_
          have hl : lv_has _ _ ([(4, .int l4_x15), (3, .int l3_x15), (0, .ref (hN 0)), (1, .int p1), (2, .int p2)]) := lv_sub hl [0, 1, 2, 3, 4] rfl
          exact join130 _ _ _ _ ⟨0, (show 0 ≤ (0 : Int32).toInt ∧ (0 : Int32).toInt ≤ 1 from by decide), (show (0 : Int32).toInt ≠ 0 → bt iN_reached_x15 p2.toInt.toNat = true from by first | (intro h9; exact absurd (by decide) h9) | (intro h9; exact bt_yes (by assumption) t_146)), (show (0 : Int32).toInt = 0 → bt iN_reached_x15 p2.toInt.toNat = false from by first | (intro h9; exact absurd h9 (by decide)) | (intro h9; exact bt_no (by assumption) t_146)), rfl, hP, hD, hS, hl⟩
        · have t_146 : ¬ v2107.toInt = 0 := toI_neq c_146 rfl (by decide : (0 : Int32).toInt = 0)
          refine lv_iconst (v := 1) hx hb dX2_reach_149 (by decide) ?_
          refine lv_goto (tgt := 154) hx hb dX2_reach_150 (by decide) ?_
          have hl : lv_has _ _ ([(4, .int l4_x15), (3, .int l3_x15), (0, .ref (hN 0)), (1, .int p1), (2, .int p2)]) := lv_sub hl [0, 1, 2, 3, 4] rfl
          exact join130 _ _ _ _ ⟨1, (show 0 ≤ (1 : Int32).toInt ∧ (1 : Int32).toInt ≤ 1 from by decide), (show (1 : Int32).toInt ≠ 0 → bt iN_reached_x15 p2.toInt.toNat = true from by first | (intro h9; exact absurd (by decide) h9) | (intro h9; exact bt_yes (by assumption) t_146)), (show (1 : Int32).toInt = 0 → bt iN_reached_x15 p2.toInt.toNat = false from by first | (intro h9; exact absurd h9 (by decide)) | (intro h9; exact bt_no (by assumption) t_146)), rfl, hP, hD, hS, hl⟩
      · rintro H locs ls stk ⟨k0_j130, b_k0_j130, hjr, hjn, rfl, hP, hD, hS, hl⟩
        refine W.widen (k := 0) (n := 0) (by decide +kernel) (by decide +kernel) ?_
        exact W.zret (v := k0_j130) hx hb hr (by rcases z01 (x := k0_j130) (b_k0_j130) with h9 | h9 <;> rw [h9] <;> rfl) (fun t9_ ht hW => ⟨⟨k0_j130, (iN_reached_x15, fN_before_x15), rfl, ⟨b_fN_before_x15, (b_k0_j130), (by (try dsimp only); exact (hRB)), (by (try dsimp only); exact (hjr)), (by (try dsimp only); exact (RQ1.done hQ1 hE1)), (by (try dsimp only); exact (hjn))⟩, by rw [ht]; exact hP, hD⟩, hS.F ht⟩) hS.2.2 dX2_reach_154

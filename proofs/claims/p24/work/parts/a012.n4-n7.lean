section
theorem dX2_reach_0 : decode cX2_reach 0 = .ok (.aload_n 0, 1) := dk_42 (by decide +kernel)
theorem dX2_reach_1 : decode cX2_reach 1 = .ok (.iconst 1, 1) := dk_4 (by decide +kernel)
theorem dX2_reach_2 : decode cX2_reach 2 = .ok (.iload_n 1, 1) := dk_27 (by decide +kernel)
theorem dX2_reach_3 : decode cX2_reach 3 = .ok (.ishl, 1) := dk_120 (by decide +kernel)
theorem dX2_reach_4 : decode cX2_reach 4 = .ok (.putfield 67, 3) := dk_181 (by decide +kernel)
theorem dX2_reach_7 : decode cX2_reach 7 = .ok (.aload_n 0, 1) := dk_42 (by decide +kernel)
theorem dX2_reach_8 : decode cX2_reach 8 = .ok (.getfield 67, 3) := dk_180 (by decide +kernel)
theorem dX2_reach_11 : decode cX2_reach 11 = .ok (.istore_n 3, 1) := dk_62 (by decide +kernel)
theorem dX2_reach_12 : decode cX2_reach 12 = .ok (.iconst 0, 1) := dk_3 (by decide +kernel)
theorem dX2_reach_13 : decode cX2_reach 13 = .ok (.istore 4, 2) := dk_54 (by decide +kernel)
theorem dX2_reach_15 : decode cX2_reach 15 = .ok (.iload 4, 2) := dk_21 (by decide +kernel)
theorem dX2_reach_17 : decode cX2_reach 17 = .ok (.bipush 12, 2) := dk_16 (by decide +kernel)
theorem dX2_reach_19 : decode cX2_reach 19 = .ok (.if_icmp .ge 119, 3) := dk_162 (by decide +kernel)
theorem dX2_reach_22 : decode cX2_reach 22 = .ok (.iload_n 3, 1) := dk_29 (by decide +kernel)
theorem dX2_reach_23 : decode cX2_reach 23 = .ok (.ifCond .eq 115, 3) := dk_153 (by decide +kernel)
theorem dX2_reach_26 : decode cX2_reach 26 = .ok (.iconst 0, 1) := dk_3 (by decide +kernel)
theorem dX2_reach_27 : decode cX2_reach 27 = .ok (.istore 5, 2) := dk_54 (by decide +kernel)
theorem dX2_reach_29 : decode cX2_reach 29 = .ok (.iconst 0, 1) := dk_3 (by decide +kernel)
theorem dX2_reach_30 : decode cX2_reach 30 = .ok (.istore 6, 2) := dk_54 (by decide +kernel)
theorem dX2_reach_32 : decode cX2_reach 32 = .ok (.iload 6, 2) := dk_21 (by decide +kernel)
theorem dX2_reach_34 : decode cX2_reach 34 = .ok (.bipush 12, 2) := dk_16 (by decide +kernel)
theorem dX2_reach_36 : decode cX2_reach 36 = .ok (.if_icmp .ge 93, 3) := dk_162 (by decide +kernel)
theorem dX2_reach_39 : decode cX2_reach 39 = .ok (.iconst 0, 1) := dk_3 (by decide +kernel)
theorem dX2_reach_40 : decode cX2_reach 40 = .ok (.istore 7, 2) := dk_54 (by decide +kernel)
theorem dX2_reach_42 : decode cX2_reach 42 = .ok (.iload 7, 2) := dk_21 (by decide +kernel)
theorem dX2_reach_44 : decode cX2_reach 44 = .ok (.bipush 12, 2) := dk_16 (by decide +kernel)
theorem dX2_reach_46 : decode cX2_reach 46 = .ok (.if_icmp .ge 77, 3) := dk_162 (by decide +kernel)
theorem dX2_reach_49 : decode cX2_reach 49 = .ok (.iload_n 3, 1) := dk_29 (by decide +kernel)
theorem dX2_reach_50 : decode cX2_reach 50 = .ok (.iload 6, 2) := dk_21 (by decide +kernel)
theorem dX2_reach_52 : decode cX2_reach 52 = .ok (.ishr, 1) := dk_122 (by decide +kernel)
theorem dX2_reach_53 : decode cX2_reach 53 = .ok (.iconst 1, 1) := dk_4 (by decide +kernel)
theorem dX2_reach_54 : decode cX2_reach 54 = .ok (.iand, 1) := dk_126 (by decide +kernel)
theorem dX2_reach_55 : decode cX2_reach 55 = .ok (.ifCond .eq 68, 3) := dk_153 (by decide +kernel)
theorem dX2_reach_58 : decode cX2_reach 58 = .ok (.aload_n 0, 1) := dk_42 (by decide +kernel)
theorem dX2_reach_59 : decode cX2_reach 59 = .ok (.getfield 67, 3) := dk_180 (by decide +kernel)
theorem dX2_reach_62 : decode cX2_reach 62 = .ok (.iload 7, 2) := dk_21 (by decide +kernel)
theorem dX2_reach_64 : decode cX2_reach 64 = .ok (.ishr, 1) := dk_122 (by decide +kernel)
theorem dX2_reach_65 : decode cX2_reach 65 = .ok (.iconst 1, 1) := dk_4 (by decide +kernel)
theorem dX2_reach_66 : decode cX2_reach 66 = .ok (.iand, 1) := dk_126 (by decide +kernel)
theorem dX2_reach_67 : decode cX2_reach 67 = .ok (.ifCond .ne 50, 3) := dk_154 (by decide +kernel)
theorem dX2_reach_70 : decode cX2_reach 70 = .ok (.aload_n 0, 1) := dk_42 (by decide +kernel)
theorem dX2_reach_71 : decode cX2_reach 71 = .ok (.getfield 24, 3) := dk_180 (by decide +kernel)
theorem dX2_reach_74 : decode cX2_reach 74 = .ok (.iload 6, 2) := dk_21 (by decide +kernel)
theorem dX2_reach_76 : decode cX2_reach 76 = .ok (.bipush 12, 2) := dk_16 (by decide +kernel)
theorem dX2_reach_78 : decode cX2_reach 78 = .ok (.imul, 1) := dk_104 (by decide +kernel)
theorem dX2_reach_79 : decode cX2_reach 79 = .ok (.iload 7, 2) := dk_21 (by decide +kernel)
theorem dX2_reach_81 : decode cX2_reach 81 = .ok (.iadd, 1) := dk_96 (by decide +kernel)
theorem dX2_reach_82 : decode cX2_reach 82 = .ok (.iaload, 1) := dk_46 (by decide +kernel)
theorem dX2_reach_83 : decode cX2_reach 83 = .ok (.ifCond .le 34, 3) := dk_158 (by decide +kernel)
theorem dX2_reach_86 : decode cX2_reach 86 = .ok (.aload_n 0, 1) := dk_42 (by decide +kernel)
theorem dX2_reach_87 : decode cX2_reach 87 = .ok (.getfield 27, 3) := dk_180 (by decide +kernel)
theorem dX2_reach_90 : decode cX2_reach 90 = .ok (.iload 7, 2) := dk_21 (by decide +kernel)
theorem dX2_reach_92 : decode cX2_reach 92 = .ok (.iload 6, 2) := dk_21 (by decide +kernel)
theorem dX2_reach_94 : decode cX2_reach 94 = .ok (.iastore, 1) := dk_79 (by decide +kernel)
theorem dX2_reach_95 : decode cX2_reach 95 = .ok (.aload_n 0, 1) := dk_42 (by decide +kernel)
theorem dX2_reach_96 : decode cX2_reach 96 = .ok (.dup, 1) := dk_89 (by decide +kernel)
theorem dX2_reach_97 : decode cX2_reach 97 = .ok (.getfield 67, 3) := dk_180 (by decide +kernel)
theorem dX2_reach_100 : decode cX2_reach 100 = .ok (.iconst 1, 1) := dk_4 (by decide +kernel)
theorem dX2_reach_101 : decode cX2_reach 101 = .ok (.iload 7, 2) := dk_21 (by decide +kernel)
theorem dX2_reach_103 : decode cX2_reach 103 = .ok (.ishl, 1) := dk_120 (by decide +kernel)
theorem dX2_reach_104 : decode cX2_reach 104 = .ok (.ior, 1) := dk_128 (by decide +kernel)
theorem dX2_reach_105 : decode cX2_reach 105 = .ok (.putfield 67, 3) := dk_181 (by decide +kernel)
theorem dX2_reach_108 : decode cX2_reach 108 = .ok (.iload 5, 2) := dk_21 (by decide +kernel)
theorem dX2_reach_110 : decode cX2_reach 110 = .ok (.iconst 1, 1) := dk_4 (by decide +kernel)
theorem dX2_reach_111 : decode cX2_reach 111 = .ok (.iload 7, 2) := dk_21 (by decide +kernel)
theorem dX2_reach_113 : decode cX2_reach 113 = .ok (.ishl, 1) := dk_120 (by decide +kernel)
theorem dX2_reach_114 : decode cX2_reach 114 = .ok (.ior, 1) := dk_128 (by decide +kernel)
theorem dX2_reach_115 : decode cX2_reach 115 = .ok (.istore 5, 2) := dk_54 (by decide +kernel)
theorem dX2_reach_117 : decode cX2_reach 117 = .ok (.iinc 7 1, 3) := dk_132 (by decide +kernel)
theorem dX2_reach_120 : decode cX2_reach 120 = .ok (.goto (-78), 3) := dk_167 (by decide +kernel)
theorem dX2_reach_123 : decode cX2_reach 123 = .ok (.iinc 6 1, 3) := dk_132 (by decide +kernel)
theorem dX2_reach_126 : decode cX2_reach 126 = .ok (.goto (-94), 3) := dk_167 (by decide +kernel)
theorem dX2_reach_129 : decode cX2_reach 129 = .ok (.iload 5, 2) := dk_21 (by decide +kernel)
theorem dX2_reach_131 : decode cX2_reach 131 = .ok (.istore_n 3, 1) := dk_62 (by decide +kernel)
theorem dX2_reach_132 : decode cX2_reach 132 = .ok (.iinc 4 1, 3) := dk_132 (by decide +kernel)
theorem dX2_reach_135 : decode cX2_reach 135 = .ok (.goto (-120), 3) := dk_167 (by decide +kernel)
theorem dX2_reach_138 : decode cX2_reach 138 = .ok (.aload_n 0, 1) := dk_42 (by decide +kernel)
theorem dX2_reach_139 : decode cX2_reach 139 = .ok (.getfield 67, 3) := dk_180 (by decide +kernel)
theorem dX2_reach_142 : decode cX2_reach 142 = .ok (.iload_n 2, 1) := dk_28 (by decide +kernel)
theorem dX2_reach_143 : decode cX2_reach 143 = .ok (.ishr, 1) := dk_122 (by decide +kernel)
theorem dX2_reach_144 : decode cX2_reach 144 = .ok (.iconst 1, 1) := dk_4 (by decide +kernel)
theorem dX2_reach_145 : decode cX2_reach 145 = .ok (.iand, 1) := dk_126 (by decide +kernel)
theorem dX2_reach_146 : decode cX2_reach 146 = .ok (.ifCond .eq 7, 3) := dk_153 (by decide +kernel)
theorem dX2_reach_149 : decode cX2_reach 149 = .ok (.iconst 1, 1) := dk_4 (by decide +kernel)
theorem dX2_reach_150 : decode cX2_reach 150 = .ok (.goto 4, 3) := dk_167 (by decide +kernel)
theorem dX2_reach_153 : decode cX2_reach 153 = .ok (.iconst 0, 1) := dk_3 (by decide +kernel)
theorem dX2_reach_154 : decode cX2_reach 154 = .ok (.ireturn, 1) := dk_172 (by decide +kernel)
def wsMX2_reach : List Cond := .code yX2_reach cX2_reach 8 (some .boolean) :: ([.fieldLink RX2 67 "OptimaWorks$NetDesk" "reached" "I", .fieldLink RX2 24 "OptimaWorks$NetDesk" "free" "[I", .fieldLink RX2 27 "OptimaWorks$NetDesk" "before" "[I"] ++ wsX20)
theorem iwsMX2_reach_in2 : ∀ w ∈ wsX20, w ∈ wsMX2_reach := fun _ h => List.mem_cons_of_mem _ (List.mem_append_right _ h)
theorem gdwsMX2_reach : wsMX2_reach.all goodWord = true := gdC rfl (gdA (by decide +kernel : ([.fieldLink RX2 67 "OptimaWorks$NetDesk" "reached" "I", .fieldLink RX2 24 "OptimaWorks$NetDesk" "free" "[I", .fieldLink RX2 27 "OptimaWorks$NetDesk" "before" "[I"] : List Cond).all goodWord = true) gdwsX20)
theorem hm_m_X2_reach_0 : (.fieldLink RX2 67 "OptimaWorks$NetDesk" "reached" "I" : Cond) ∈ wsMX2_reach := by decide +kernel
set_option maxHeartbeats 4000000 in
set_option maxRecDepth 100000 in
/-- what can be reached -/
theorem m_X2_reach (l : Launch) (dC : Nat → ClassId) (dI : Nat → Nat → Nat) (hN : Nat → Nat) (aN : Nat → Nat) (kN : Nat → ClassId) (iN_arcs : Int32) (fN_from : Nat → Int32) (fN_to : Nat → Int32) (fN_room : Nat → Int32) (fN_cost : Nat → Int32) (iN_reached : Int32) (fN_free : Nat → Int32) (fN_before : Nat → Int32) (fN_flow : Nat → Int32) (fN_length : Nat → Int32) (fN_stop : Nat → Int32) (iN_stops : Int32) (fN_price : Nat → Int32) (fN_rest : Nat → Int32) (p1 : Int32) (p2 : Int32) (b_iN_arcs : 0 ≤ iN_arcs.toInt ∧ iN_arcs.toInt ≤ 40) (b_fN_from : ∀ q : Nat, 0 ≤ (fN_from q).toInt ∧ (fN_from q).toInt ≤ 11) (b_fN_to : ∀ q : Nat, 0 ≤ (fN_to q).toInt ∧ (fN_to q).toInt ≤ 11) (b_fN_before : ∀ q : Nat, 0 ≤ (fN_before q).toInt ∧ (fN_before q).toInt ≤ 79) (b_fN_stop : ∀ q : Nat, 0 ≤ (fN_stop q).toInt ∧ (fN_stop q).toInt ≤ 11) (b_iN_stops : 0 ≤ iN_stops.toInt ∧ iN_stops.toInt ≤ 8) (b_p1 : 0 ≤ p1.toInt ∧ p1.toInt ≤ 11) (b_p2 : 0 ≤ p2.toInt ∧ p2.toInt ≤ 11) (sz : Nat) : Met l yX2_reach wsMX2_reach ({ frames := 0, cells := 0, slots := 0, locals := 0 }) (va_Pc [.ref (hN 0), .int p1, .int p2] (fun U => U.heap.size = sz ∧ va_P (dC, dI) vwCl (WN hN aN kN iN_arcs fN_from fN_to fN_room fN_cost iN_reached fN_free fN_before fN_flow fN_length fN_stop iN_stops fN_price fN_rest) U.heap ∧ va_K (dC, dI) vwCl (tN kN) U ∧ va_D (fun _ => True) (WN hN aN kN iN_arcs fN_from fN_to fN_room fN_cost iN_reached fN_free fN_before fN_flow fN_length fN_stop iN_stops fN_price fN_rest))) (va_Qi (fun (r : Int32) (u : (Int32) × (Nat → Int32)) => (∀ q : Nat, 0 ≤ ((u.2) q).toInt ∧ ((u.2) q).toInt ≤ 79) ∧ (0 ≤ r.toInt ∧ r.toInt ≤ 1) ∧ (RB p1.toInt (u.1) (u.2)) ∧ (r.toInt ≠ 0 → bt (u.1) p2.toInt.toNat = true) ∧ (RE p1.toInt.toNat fN_free (u.2) (u.1)) ∧ (r.toInt = 0 → bt (u.1) p2.toInt.toNat = false)) (fun (u : (Int32) × (Nat → Int32)) t => va_P (dC, dI) vwCl (WN hN aN kN iN_arcs fN_from fN_to fN_room fN_cost (u.1) fN_free (u.2) fN_flow fN_length fN_stop iN_stops fN_price fN_rest) t.heap ∧ va_D (va_A (WN hN aN kN iN_arcs fN_from fN_to fN_room fN_cost iN_reached fN_free fN_before fN_flow fN_length fN_stop iN_stops fN_price fN_rest) sz) (WN hN aN kN iN_arcs fN_from fN_to fN_room fN_cost (u.1) fN_free (u.2) fN_flow fN_length fN_stop iN_stops fN_price fN_rest)) (va_A (WN hN aN kN iN_arcs fN_from fN_to fN_room fN_cost iN_reached fN_free fN_before fN_flow fN_length fN_stop iN_stops fN_price fN_rest) sz)) 0 0 (va_A (WN hN aN kN iN_arcs fN_from fN_to fN_room fN_cost iN_reached fN_free fN_before fN_flow fN_length fN_stop iN_stops fN_price fN_rest) sz) := by
  refine Met.ofW (cc := cX2_reach) (maxL := 8) (ret := (some .boolean)) (by decide) rfl ?_
  intro p e s m args below meth c s₁ B hml hv
  obtain ⟨rfl, hsz, hP, hK, hD0⟩ := hv
  have hx := B.exec
  have hb := B.bytes
  have hr := B.returns
  have hts := atoms_spec (ws := wsMX2_reach) B.pre
  have hown : s.vm.findClass RX2 = some m.cls := findClass_of_methodNamed B.named
  have hlocks := B.notSynchronized
  subst hsz
  have hD := hD0.self (sz := s.heap.size)
  generalize hAe : va_A (WN hN aN kN iN_arcs fN_from fN_to fN_room fN_cost iN_reached fN_free fN_before fN_flow fN_length fN_stop iN_stops fN_price fN_rest) s.heap.size = A at hD ⊢
  have hA : ∀ q : Nat, s.heap.size ≤ q → A q := fun q h => by rw [← hAe]; exact Or.inr h
  have hS : va_S A s.heap s.heap [] := va_S.rf
  have hl := lv_entry ([.ref (hN 0), .int p1, .int p2]) (n := 8) (Nat.le_of_ble_eq_true rfl)
  rw [lg_entry_eq]
  generalize (lg_sl ([.ref (hN 0), .int p1, .int p2]) ++ List.replicate (8 - (lg_sl ([.ref (hN 0), .int p1, .int p2])).length) Slot.unset).toArray = ls at hl ⊢
  have hl : lv_has ls 8 [(0, .ref (hN 0)), (1, .int p1), (2, .int p2)] := hl
  refine lv_aload_n hx hb dX2_reach_0 rfl (lv_at hl 0 rfl) ?_
  refine lv_iconst (v := 1) hx hb dX2_reach_1 (by decide) ?_
  refine lv_iload_n hx hb dX2_reach_2 rfl (lv_at hl 1 rfl) ?_
  refine lv_ishl hx hb dX2_reach_3 ?_
  refine lv_topi (fun v1 hv1 => ?_)
  have b_v1 : v1 = (1 : Int32) <<< (p1 &&& 31) := hv1
  clear hv1
  refine va_put (D := (dC, dI)) (ci := 2) (v := .int v1) (ty := .int) (C := RX2) (T := TX2) (N := 14) hx hb hts iwsMX2_reach_in2 tyX2 tyX2_ok nmX2 hown hK hP hD hS 0 rfl rfl 5 (by decide) (hts _ hm_m_X2_reach_0) (fun _ h9 => h9) rfl (by decide +kernel) rfl rfl (Nat.le_of_ble_eq_true rfl) dX2_reach_4 (fun H locs hP hD hS => ?_)
  have hP : va_P (dC, dI) vwCl (WN hN aN kN iN_arcs fN_from fN_to fN_room fN_cost v1 fN_free fN_before fN_flow fN_length fN_stop iN_stops fN_price fN_rest) H := hP
  have hD := fz_sd hP (hD) rfl
  refine lv_aload_n hx hb dX2_reach_7 rfl (lv_at hl 0 rfl) ?_
  refine va_get (D := (dC, dI)) (ci := 2) (v := .int v1) (C := RX2) (T := TX2) (N := 14) hx hb hts iwsMX2_reach_in2 hown hK hP 0 rfl rfl 5 (by decide) (hts _ hm_m_X2_reach_0) (fun _ h9 => h9) rfl dX2_reach_8 ?_
  refine lv_istore_n hx hb dX2_reach_11 rfl hl (by decide) rfl (fun ls (hl : lv_has ls _ ([(3, .int v1), (0, .ref (hN 0)), (1, .int p1), (2, .int p2)])) => ?_)
  refine lv_iconst (v := 0) hx hb dX2_reach_12 (by decide) ?_
  refine lv_istore hx hb dX2_reach_13 hl (by decide) rfl (fun ls (hl : lv_has ls _ ([(4, .int 0), (3, .int v1), (0, .ref (hN 0)), (1, .int p1), (2, .int p2)])) => ?_)
  have hl : lv_has _ _ ([(4, .int 0), (3, .int v1), (0, .ref (hN 0)), (1, .int p1), (2, .int p2)]) := lv_sub hl [0, 1, 2, 3, 4] rfl
  refine (fun (loop : ∀ (n9 : Nat) (iN_reached_x15 : Int32) (fN_before_x15 : Nat → Int32) (l4_x15 : Int32) (l3_x15 : Int32) (H : Heap) (locs : List Loc) (ls : Array Slot), (∀ q : Nat, 0 ≤ (fN_before_x15 q).toInt ∧ (fN_before_x15 q).toInt ≤ 79) → (0 ≤ l4_x15.toInt ∧ l4_x15.toInt ≤ 12) → (RB p1.toInt iN_reached_x15 fN_before_x15) → (SubB l3_x15 iN_reached_x15) → (RQ1 p1.toInt.toNat fN_free fN_before_x15 iN_reached_x15 l3_x15 l4_x15.toInt) → (12 - l4_x15.toInt < ((n9 : Nat) : Int)) → va_P (dC, dI) vwCl (WN hN aN kN iN_arcs fN_from fN_to fN_room fN_cost iN_reached_x15 fN_free fN_before_x15 fN_flow fN_length fN_stop iN_stops fN_price fN_rest) H → va_D A (WN hN aN kN iN_arcs fN_from fN_to fN_room fN_cost iN_reached_x15 fN_free fN_before_x15 fN_flow fN_length fN_stop iN_stops fN_price fN_rest) → va_S A s.heap H locs → lv_has ls 8 [(4, .int l4_x15), (3, .int l3_x15), (0, .ref (hN 0)), (1, .int p1), (2, .int p2)] → W p l e _ s m _ below meth c H locs 0 0 _ (F0 m 15 ls [])) => loop (13) v1 fN_before 0 v1 _ _ _ b_fN_before (show 0 ≤ (0 : Int32).toInt ∧ (0 : Int32).toInt ≤ 12 from by decide) (show RB p1.toInt v1 fN_before from by first | assumption | exact RB.first rfl (by omega) (by omega) (by assumption) | exact RB.more hRB hSE (by assumption) (by assumption) (by assumption) (by assumption) (by omega) (by omega) (by omega) (by omega)) (show SubB v1 v1 from by first | assumption | exact SubB.refl _ | exact SubB.zero _ | exact hSF | exact SubB.grow hSE (by assumption)) (show RQ1 p1.toInt.toNat fN_free fN_before v1 v1 (0 : Int32).toInt from RQ1.first (p := p1) (by omega) (by omega) rfl (by assumption) rfl (by decide)) ((by have e9 : (0 : Int32).toInt = 0 := (by decide : (0 : Int32).toInt = 0); omega)) hP hD hS hl) ?_
  intro n9
  induction n9 with
  | zero => intro iN_reached_x15 fN_before_x15 l4_x15 l3_x15 H locs ls b_fN_before_x15 b_l4_x15 hRB hSE hQ1 hf9; exact False.elim (by omega)
  | succ n9 ihx15 =>
    intro iN_reached_x15 fN_before_x15 l4_x15 l3_x15 H locs ls b_fN_before_x15 b_l4_x15 hRB hSE hQ1 hfx15 hP hD hS hl
    refine lv_iload hx hb dX2_reach_15 (lv_at hl 0 rfl) ?_
    refine lv_bipush (v := 12) hx hb dX2_reach_17 (by decide) ?_
    refine W.cut (pc := 138) (fun H locs ls stk => (12 ≤ l4_x15.toInt ∨ l3_x15.toInt = 0) ∧  stk = [] ∧ va_P (dC, dI) vwCl (WN hN aN kN iN_arcs fN_from fN_to fN_room fN_cost iN_reached_x15 fN_free fN_before_x15 fN_flow fN_length fN_stop iN_stops fN_price fN_rest) H ∧ va_D A (WN hN aN kN iN_arcs fN_from fN_to fN_room fN_cost iN_reached_x15 fN_free fN_before_x15 fN_flow fN_length fN_stop iN_stops fN_price fN_rest) ∧ va_S A s.heap H locs ∧ lv_has ls 8 [(4, .int l4_x15), (3, .int l3_x15), (0, .ref (hN 0)), (1, .int p1), (2, .int p2)]) (fun join119 => ?_) ?_
    · refine lv_icmp_ge (tgt := 138) hx hb dX2_reach_19 (by decide) (fun c_19 => ?_) (fun c_19 => ?_)
      · have t_19 : l4_x15.toInt ≥ 12 := toI_ge c_19 rfl (by decide : (12 : Int32).toInt = 12)
        have hl : lv_has _ _ ([(4, .int l4_x15), (3, .int l3_x15), (0, .ref (hN 0)), (1, .int p1), (2, .int p2)]) := lv_sub hl [0, 1, 2, 3, 4] rfl
        exact join119 _ _ _ _ ⟨(show 12 ≤ l4_x15.toInt ∨ l3_x15.toInt = 0 from by first | exact Or.inl (by omega) | exact Or.inr t_23), rfl, hP, hD, hS, hl⟩
      · have t_19 : ¬ l4_x15.toInt ≥ 12 := toI_nge c_19 rfl (by decide : (12 : Int32).toInt = 12)
        refine lv_iload_n hx hb dX2_reach_22 rfl (lv_at hl 1 rfl) ?_
        refine lv_if_eq (tgt := 138) hx hb dX2_reach_23 (by decide) (fun c_23 => ?_) (fun c_23 => ?_)
        · have t_23 : l3_x15.toInt = 0 := toI_eq c_23 rfl (by decide : (0 : Int32).toInt = 0)
          have hl : lv_has _ _ ([(4, .int l4_x15), (3, .int l3_x15), (0, .ref (hN 0)), (1, .int p1), (2, .int p2)]) := lv_sub hl [0, 1, 2, 3, 4] rfl
          exact join119 _ _ _ _ ⟨(show 12 ≤ l4_x15.toInt ∨ l3_x15.toInt = 0 from by first | exact Or.inl (by omega) | exact Or.inr t_23), rfl, hP, hD, hS, hl⟩
        · have t_23 : ¬ l3_x15.toInt = 0 := toI_neq c_23 rfl (by decide : (0 : Int32).toInt = 0)
          refine lv_iconst (v := 0) hx hb dX2_reach_26 (by decide) ?_
          refine lv_istore hx hb dX2_reach_27 hl (by decide) rfl (fun ls (hl : lv_has ls _ ([(5, .int 0), (4, .int l4_x15), (3, .int l3_x15), (0, .ref (hN 0)), (1, .int p1), (2, .int p2)])) => ?_)
          refine lv_iconst (v := 0) hx hb dX2_reach_29 (by decide) ?_
          refine lv_istore hx hb dX2_reach_30 hl (by decide) rfl (fun ls (hl : lv_has ls _ ([(6, .int 0), (5, .int 0), (4, .int l4_x15), (3, .int l3_x15), (0, .ref (hN 0)), (1, .int p1), (2, .int p2)])) => ?_)
          have hl : lv_has _ _ ([(6, .int 0), (5, .int 0), (4, .int l4_x15), (3, .int l3_x15), (0, .ref (hN 0)), (1, .int p1), (2, .int p2)]) := lv_sub hl [0, 1, 2, 3, 4, 5, 6] rfl
          refine (fun (loop : ∀ (n9 : Nat) (iN_reached_x32 : Int32) (fN_before_x32 : Nat → Int32) (l6_x32 : Int32) (l5_x32 : Int32) (H : Heap) (locs : List Loc) (ls : Array Slot), (∀ q : Nat, 0 ≤ (fN_before_x32 q).toInt ∧ (fN_before_x32 q).toInt ≤ 79) → (0 ≤ l6_x32.toInt ∧ l6_x32.toInt ≤ 12) → (RB p1.toInt iN_reached_x32 fN_before_x32) → (SubB l3_x15 iN_reached_x32) → (SubB l5_x32 iN_reached_x32) → (RQ2 p1.toInt.toNat fN_free fN_before_x32 iN_reached_x32 l3_x15 l5_x32 l4_x15.toInt l6_x32.toInt.toNat) → (12 - l6_x32.toInt < ((n9 : Nat) : Int)) → va_P (dC, dI) vwCl (WN hN aN kN iN_arcs fN_from fN_to fN_room fN_cost iN_reached_x32 fN_free fN_before_x32 fN_flow fN_length fN_stop iN_stops fN_price fN_rest) H → va_D A (WN hN aN kN iN_arcs fN_from fN_to fN_room fN_cost iN_reached_x32 fN_free fN_before_x32 fN_flow fN_length fN_stop iN_stops fN_price fN_rest) → va_S A s.heap H locs → lv_has ls 8 [(6, .int l6_x32), (5, .int l5_x32), (4, .int l4_x15), (3, .int l3_x15), (0, .ref (hN 0)), (1, .int p1), (2, .int p2)] → W p l e _ s m _ below meth c H locs 0 0 _ (F0 m 32 ls [])) => loop (13) iN_reached_x15 fN_before_x15 0 0 _ _ _ b_fN_before_x15 (show 0 ≤ (0 : Int32).toInt ∧ (0 : Int32).toInt ≤ 12 from by decide) (show RB p1.toInt iN_reached_x15 fN_before_x15 from by first | assumption | exact RB.first rfl (by omega) (by omega) (by assumption) | exact RB.more hRB hSE (by assumption) (by assumption) (by assumption) (by assumption) (by omega) (by omega) (by omega) (by omega)) (show SubB l3_x15 iN_reached_x15 from by first | assumption | exact SubB.refl _ | exact SubB.zero _ | exact hSF | exact SubB.grow hSE (by assumption)) (show SubB (0 : Int32) iN_reached_x15 from by first | assumption | exact SubB.zero _ | exact SubB.both hSF (by assumption) (by assumption)) (show RQ2 p1.toInt.toNat fN_free fN_before_x15 iN_reached_x15 l3_x15 (0 : Int32) l4_x15.toInt (0 : Int32).toInt.toNat from RQ2.start hQ1 t_23 rfl (by decide)) ((by have e9 : (0 : Int32).toInt = 0 := (by decide : (0 : Int32).toInt = 0); omega)) hP hD hS hl) ?_
          intro n9
          induction n9 with
          | zero => intro iN_reached_x32 fN_before_x32 l6_x32 l5_x32 H locs ls b_fN_before_x32 b_l6_x32 hRB hSE hSF hQ2 hf9; exact False.elim (by omega)
          | succ n9 ihx32 =>
            intro iN_reached_x32 fN_before_x32 l6_x32 l5_x32 H locs ls b_fN_before_x32 b_l6_x32 hRB hSE hSF hQ2 hfx32 hP hD hS hl
            refine lv_iload hx hb dX2_reach_32 (lv_at hl 0 rfl) ?_
            refine lv_bipush (v := 12) hx hb dX2_reach_34 (by decide) ?_
            refine lv_icmp_ge (tgt := 129) hx hb dX2_reach_36 (by decide) (fun c_36 => ?_) (fun c_36 => ?_)
            · have t_36 : l6_x32.toInt ≥ 12 := toI_ge c_36 rfl (by decide : (12 : Int32).toInt = 12)
              refine lv_iload hx hb dX2_reach_129 (lv_at hl 1 rfl) ?_
              refine lv_istore_n hx hb dX2_reach_131 rfl hl (by decide) rfl (fun ls (hl : lv_has ls _ ([(3, .int l5_x32), (6, .int l6_x32), (5, .int l5_x32), (4, .int l4_x15), (0, .ref (hN 0)), (1, .int p1), (2, .int p2)])) => ?_)
              refine lv_iinc (v := (iI (l4_x15.toInt + 1))) hx hb dX2_reach_132 hl (k := 3) rfl (iI_add2 (iI_of _) (by decide : (1 : Int32) = iI 1)) (by decide) rfl (fun ls (hl : lv_has ls _ ([(4, .int (iI (l4_x15.toInt + 1))), (3, .int l5_x32), (6, .int l6_x32), (5, .int l5_x32), (0, .ref (hN 0)), (1, .int p1), (2, .int p2)])) => ?_)
              refine lv_goto (tgt := 15) hx hb dX2_reach_135 (by decide) ?_
              have hl : lv_has _ _ ([(4, .int (iI (l4_x15.toInt + 1))), (3, .int l5_x32), (0, .ref (hN 0)), (1, .int p1), (2, .int p2)]) := lv_sub hl [0, 1, 4, 5, 6] rfl
              exact ihx15 iN_reached_x32 fN_before_x32 (iI (l4_x15.toInt + 1)) l5_x32 _ _ _ b_fN_before_x32 (iI_rng (Int.le_trans (by decide) (Int.add_le_add (b_l4_x15.1) (Int.le_refl _))) (by omega) (by decide) (by decide)) (show RB p1.toInt iN_reached_x32 fN_before_x32 from by first | assumption | exact RB.first rfl (by omega) (by omega) (by assumption) | exact RB.more hRB hSE (by assumption) (by assumption) (by assumption) (by assumption) (by omega) (by omega) (by omega) (by omega)) (show SubB l5_x32 iN_reached_x32 from by first | assumption | exact SubB.refl _ | exact SubB.zero _ | exact hSF | exact SubB.grow hSE (by assumption)) (show RQ1 p1.toInt.toNat fN_free fN_before_x32 iN_reached_x32 l5_x32 (iI (l4_x15.toInt + 1)).toInt from by rw [iI_t (by omega) (by omega)]; exact RQ2.exit hQ2 (by omega) rfl) (by have e9 : ((iI (l4_x15.toInt + 1))).toInt = (l4_x15.toInt + 1) := (iI_t (Int.le_trans (by decide) (Int.add_le_add (b_l4_x15.1) (Int.le_refl _))) (Int.le_trans (Int.add_le_add (b_l4_x15.2) (Int.le_refl _)) (by decide))); omega) hP hD hS hl
            · have t_36 : ¬ l6_x32.toInt ≥ 12 := toI_nge c_36 rfl (by decide : (12 : Int32).toInt = 12)
              refine lv_iconst (v := 0) hx hb dX2_reach_39 (by decide) ?_
              refine lv_istore hx hb dX2_reach_40 hl (by decide) rfl (fun ls (hl : lv_has ls _ ([(7, .int 0), (6, .int l6_x32), (5, .int l5_x32), (4, .int l4_x15), (3, .int l3_x15), (0, .ref (hN 0)), (1, .int p1), (2, .int p2)])) => ?_)
              have hl : lv_has _ _ ([(7, .int 0), (6, .int l6_x32), (5, .int l5_x32), (4, .int l4_x15), (3, .int l3_x15), (0, .ref (hN 0)), (1, .int p1), (2, .int p2)]) := lv_sub hl [0, 1, 2, 3, 4, 5, 6, 7] rfl
              refine (fun (loop : ∀ (n9 : Nat) (iN_reached_x42 : Int32) (fN_before_x42 : Nat → Int32) (l7_x42 : Int32) (l5_x42 : Int32) (H : Heap) (locs : List Loc) (ls : Array Slot), (∀ q : Nat, 0 ≤ (fN_before_x42 q).toInt ∧ (fN_before_x42 q).toInt ≤ 79) → (0 ≤ l7_x42.toInt ∧ l7_x42.toInt ≤ 12) → (RB p1.toInt iN_reached_x42 fN_before_x42) → (SubB l3_x15 iN_reached_x42) → (SubB l5_x42 iN_reached_x42) → (RQ3 p1.toInt.toNat fN_free fN_before_x42 iN_reached_x42 l3_x15 l5_x42 l4_x15.toInt l6_x32.toInt.toNat l7_x42.toInt.toNat) → (12 - l7_x42.toInt < ((n9 : Nat) : Int)) → va_P (dC, dI) vwCl (WN hN aN kN iN_arcs fN_from fN_to fN_room fN_cost iN_reached_x42 fN_free fN_before_x42 fN_flow fN_length fN_stop iN_stops fN_price fN_rest) H → va_D A (WN hN aN kN iN_arcs fN_from fN_to fN_room fN_cost iN_reached_x42 fN_free fN_before_x42 fN_flow fN_length fN_stop iN_stops fN_price fN_rest) → va_S A s.heap H locs → lv_has ls 8 [(7, .int l7_x42), (6, .int l6_x32), (5, .int l5_x42), (4, .int l4_x15), (3, .int l3_x15), (0, .ref (hN 0)), (1, .int p1), (2, .int p2)] → W p l e _ s m _ below meth c H locs 0 0 _ (F0 m 42 ls [])) => loop (13) iN_reached_x32 fN_before_x32 0 l5_x32 _ _ _ b_fN_before_x32 (show 0 ≤ (0 : Int32).toInt ∧ (0 : Int32).toInt ≤ 12 from by decide) (show RB p1.toInt iN_reached_x32 fN_before_x32 from by first | assumption | exact RB.first rfl (by omega) (by omega) (by assumption) | exact RB.more hRB hSE (by assumption) (by assumption) (by assumption) (by assumption) (by omega) (by omega) (by omega) (by omega)) (show SubB l3_x15 iN_reached_x32 from by first | assumption | exact SubB.refl _ | exact SubB.zero _ | exact hSF | exact SubB.grow hSE (by assumption)) (show SubB l5_x32 iN_reached_x32 from by first | assumption | exact SubB.zero _ | exact SubB.both hSF (by assumption) (by assumption)) (show RQ3 p1.toInt.toNat fN_free fN_before_x32 iN_reached_x32 l3_x15 l5_x32 l4_x15.toInt l6_x32.toInt.toNat (0 : Int32).toInt.toNat from RQ3.start hQ2 (by decide)) ((by have e9 : (0 : Int32).toInt = 0 := (by decide : (0 : Int32).toInt = 0); omega)) hP hD hS hl) ?_
              intro n9
              induction n9 with
              | zero => intro iN_reached_x42 fN_before_x42 l7_x42 l5_x42 H locs ls b_fN_before_x42 b_l7_x42 hRB hSE hSF hQ3 hf9; exact False.elim (by omega)
              | succ n9 ihx42 =>
                intro iN_reached_x42 fN_before_x42 l7_x42 l5_x42 H locs ls b_fN_before_x42 b_l7_x42 hRB hSE hSF hQ3 hfx42 hP hD hS hl
                refine lv_iload hx hb dX2_reach_42 (lv_at hl 0 rfl) ?_
                refine lv_bipush (v := 12) hx hb dX2_reach_44 (by decide) ?_
                refine W.cut (pc := 123) (fun H locs ls stk => (12 ≤ l7_x42.toInt.toNat ∨ bt l3_x15 l6_x32.toInt.toNat = false) ∧  stk = [] ∧ va_P (dC, dI) vwCl (WN hN aN kN iN_arcs fN_from fN_to fN_room fN_cost iN_reached_x42 fN_free fN_before_x42 fN_flow fN_length fN_stop iN_stops fN_price fN_rest) H ∧ va_D A (WN hN aN kN iN_arcs fN_from fN_to fN_room fN_cost iN_reached_x42 fN_free fN_before_x42 fN_flow fN_length fN_stop iN_stops fN_price fN_rest) ∧ va_S A s.heap H locs ∧ lv_has ls 8 [(7, .int l7_x42), (6, .int l6_x32), (5, .int l5_x42), (4, .int l4_x15), (3, .int l3_x15), (0, .ref (hN 0)), (1, .int p1), (2, .int p2)]) (fun join129 => ?_) ?_
                · refine lv_icmp_ge (tgt := 123) hx hb dX2_reach_46 (by decide) (fun c_46 => ?_) (fun c_46 => ?_)
                  · have t_46 : l7_x42.toInt ≥ 12 := toI_ge c_46 rfl (by decide : (12 : Int32).toInt = 12)
                    have hl : lv_has _ _ ([(7, .int l7_x42), (6, .int l6_x32), (5, .int l5_x42), (4, .int l4_x15), (3, .int l3_x15), (0, .ref (hN 0)), (1, .int p1), (2, .int p2)]) := lv_sub hl [0, 1, 2, 3, 4, 5, 6, 7] rfl
                    exact join129 _ _ _ _ ⟨(show 12 ≤ l7_x42.toInt.toNat ∨ bt l3_x15 l6_x32.toInt.toNat = false from by first | exact Or.inl (by omega) | exact Or.inr (bt_no b_v2083 t_55)), rfl, hP, hD, hS, hl⟩
                  · have t_46 : ¬ l7_x42.toInt ≥ 12 := toI_nge c_46 rfl (by decide : (12 : Int32).toInt = 12)
                    refine lv_iload_n hx hb dX2_reach_49 rfl (lv_at hl 4 rfl) ?_
                    refine lv_iload hx hb dX2_reach_50 (lv_at hl 1 rfl) ?_
                    refine lv_ishr hx hb dX2_reach_52 ?_
                    refine lv_topi (fun v2094 hv2094 => ?_)
                    have b_v2094 : v2094 = l3_x15 >>> (l6_x32 &&& 31) := hv2094
                    clear hv2094
                    refine lv_iconst (v := 1) hx hb dX2_reach_53 (by decide) ?_
                    refine lv_iand hx hb dX2_reach_54 ?_
                    refine lv_topi (fun v2095 hv2095 => ?_)
                    have b_v2095 : (bt l3_x15 l6_x32.toInt.toNat = true ∧ v2095.toInt = 1) ∨ (bt l3_x15 l6_x32.toInt.toNat = false ∧ v2095.toInt = 0) := by rw [hv2095]; exact sh_and1 b_v2094 rfl (by omega) (by omega)
                    clear hv2095
                    refine lv_if_eq (tgt := 123) hx hb dX2_reach_55 (by decide) (fun c_55 => ?_) (fun c_55 => ?_)
                    · have t_55 : v2095.toInt = 0 := toI_eq c_55 rfl (by decide : (0 : Int32).toInt = 0)
                      have hl : lv_has _ _ ([(7, .int l7_x42), (6, .int l6_x32), (5, .int l5_x42), (4, .int l4_x15), (3, .int l3_x15), (0, .ref (hN 0)), (1, .int p1), (2, .int p2)]) := lv_sub hl [0, 1, 2, 3, 4, 5, 6, 7] rfl
                      exact join129 _ _ _ _ ⟨(show 12 ≤ l7_x42.toInt.toNat ∨ bt l3_x15 l6_x32.toInt.toNat = false from by first | exact Or.inl (by omega) | exact Or.inr (bt_no b_v2095 t_55)), rfl, hP, hD, hS, hl⟩
                    · have t_55 : ¬ v2095.toInt = 0 := toI_neq c_55 rfl (by decide : (0 : Int32).toInt = 0)
                      refine lv_aload_n hx hb dX2_reach_58 rfl (lv_at hl 5 rfl) ?_
                      refine va_get (D := (dC, dI)) (ci := 2) (v := .int iN_reached_x42) (C := RX2) (T := TX2) (N := 14) hx hb hts iwsMX2_reach_in2 hown hK hP 0 rfl rfl 5 (by decide) (hts _ hm_m_X2_reach_0) (fun _ h9 => h9) rfl dX2_reach_59 ?_
                      refine lv_iload hx hb dX2_reach_62 (lv_at hl 0 rfl) ?_
                      refine lv_ishr hx hb dX2_reach_64 ?_
                      refine lv_topi (fun v2096 hv2096 => ?_)
                      have b_v2096 : v2096 = iN_reached_x42 >>> (l7_x42 &&& 31) := hv2096
                      clear hv2096
                      refine lv_iconst (v := 1) hx hb dX2_reach_65 (by decide) ?_
                      refine lv_iand hx hb dX2_reach_66 ?_
                      refine lv_topi (fun v2097 hv2097 => ?_)
                      have b_v2097 : (bt iN_reached_x42 l7_x42.toInt.toNat = true ∧ v2097.toInt = 1) ∨ (bt iN_reached_x42 l7_x42.toInt.toNat = false ∧ v2097.toInt = 0) := by rw [hv2097]; exact sh_and1 b_v2096 rfl (by omega) (by omega)
                      clear hv2097
                      refine lv_if_ne (tgt := 117) hx hb dX2_reach_67 (by decide) (fun c_67 => ?_) (fun c_67 => ?_)
                      · have t_67 : v2097.toInt ≠ 0 := toI_ne c_67 rfl (by decide : (0 : Int32).toInt = 0)
                        refine lv_iinc (v := (iI (l7_x42.toInt + 1))) hx hb dX2_reach_117 hl (k := 0) rfl (iI_add2 (iI_of _) (by decide : (1 : Int32) = iI 1)) (by decide) rfl (fun ls (hl : lv_has ls _ ([(7, .int (iI (l7_x42.toInt + 1))), (6, .int l6_x32), (5, .int l5_x42), (4, .int l4_x15), (3, .int l3_x15), (0, .ref (hN 0)), (1, .int p1), (2, .int p2)])) => ?_)
                        refine lv_goto (tgt := 42) hx hb dX2_reach_120 (by decide) ?_
                        have hl : lv_has _ _ ([(7, .int (iI (l7_x42.toInt + 1))), (6, .int l6_x32), (5, .int l5_x42), (4, .int l4_x15), (3, .int l3_x15), (0, .ref (hN 0)), (1, .int p1), (2, .int p2)]) := lv_sub hl [0, 1, 2, 3, 4, 5, 6, 7] rfl
                        exact ihx42 iN_reached_x42 fN_before_x42 (iI (l7_x42.toInt + 1)) l5_x42 _ _ _ b_fN_before_x42 (iI_rng (Int.le_trans (by decide) (Int.add_le_add (b_l7_x42.1) (Int.le_refl _))) (by omega) (by decide) (by decide)) (show RB p1.toInt iN_reached_x42 fN_before_x42 from by first | assumption | exact RB.first rfl (by omega) (by omega) (by assumption) | exact RB.more hRB hSE (by assumption) (by assumption) (by assumption) (by assumption) (by omega) (by omega) (by omega) (by omega)) (show SubB l3_x15 iN_reached_x42 from by first | assumption | exact SubB.refl _ | exact SubB.zero _ | exact hSF | exact SubB.grow hSE (by assumption)) (show SubB l5_x42 iN_reached_x42 from by first | assumption | exact SubB.zero _ | exact SubB.both hSF (by assumption) (by assumption)) (show RQ3 p1.toInt.toNat fN_free fN_before_x42 iN_reached_x42 l3_x15 l5_x42 l4_x15.toInt l6_x32.toInt.toNat (iI (l7_x42.toInt + 1)).toInt.toNat from by rw [show (iI (l7_x42.toInt + 1)).toInt.toNat = l7_x42.toInt.toNat + 1 from by rw [iI_t (by omega) (by omega)]; omega]; first | (exact RQ3.seen hQ3 (Or.inl (bt_yes b_v2097 t_67))) | (have eIt : ((iI ((l6_x32.toInt * 12) + l7_x42.toInt))).toNatClampNeg = 12 * l6_x32.toInt.toNat + l7_x42.toInt.toNat := (by show (iI (l6_x32.toInt * 12 + l7_x42.toInt)).toInt.toNat = _; rw [iI_t (by omega) (by omega)]; omega); exact RQ3.seen hQ3 (Or.inr (by rw [← eIt, ← b_v2088]; omega)))) (by have e9 : ((iI (l7_x42.toInt + 1))).toInt = (l7_x42.toInt + 1) := (iI_t (Int.le_trans (by decide) (Int.add_le_add (b_l7_x42.1) (Int.le_refl _))) (Int.le_trans (Int.add_le_add (b_l7_x42.2) (Int.le_refl _)) (by decide))); omega) hP hD hS hl
                      · have t_67 : v2097.toInt = 0 := toI_nne c_67 rfl (by decide : (0 : Int32).toInt = 0)
                        refine lv_aload_n hx hb dX2_reach_70 rfl (lv_at hl 5 rfl) ?_
                        refine va_get (D := (dC, dI)) (ci := 2) (v := .ref (aN 4)) (C := RX2) (T := TX2) (N := 14) hx hb hts iwsMX2_reach_in2 hown hK hP 0 rfl rfl 6 (by decide) (hts (.fieldLink RX2 24 "OptimaWorks$NetDesk" "free" "[I") (by decide +kernel)) (fun _ h9 => h9) rfl dX2_reach_71 ?_
                        refine lv_iload hx hb dX2_reach_74 (lv_at hl 1 rfl) ?_
                        refine lv_bipush (v := 12) hx hb dX2_reach_76 (by decide) ?_
                        refine lv_imul hx hb dX2_reach_78 ?_
                        refine lv_topi (fun y2098 hy2098 => ?_)
                        obtain rfl : (iI (l6_x32.toInt * 12)) = y2098 := (hy2098.trans (iI_mul2 (iI_of _) (by decide : (12 : Int32) = iI 12))).symm
                        refine lv_iload hx hb dX2_reach_79 (lv_at hl 0 rfl) ?_
                        refine lv_iadd hx hb dX2_reach_81 ?_
                        refine lv_topi (fun y2099 hy2099 => ?_)
                        obtain rfl : (iI ((l6_x32.toInt * 12) + l7_x42.toInt)) = y2099 := (hy2099.trans (iI_add2 rfl (iI_of _))).symm
                        refine va_iald (cA := kN 4) (n := 144) (f := fN_free) hx hb hK hP 5 4 rfl rfl (vp_iI (Int.le_trans (by decide) (Int.add_le_add (Int.mul_le_mul_of_nonneg_right (b_l6_x32.1) (by decide)) (b_l7_x42.1))) (by omega) (by decide)) dX2_reach_82 ?_
                        refine lv_topi (fun v2100 hv2100 => ?_)
                        have b_v2100 : v2100 = fN_free ((iI ((l6_x32.toInt * 12) + l7_x42.toInt))).toNatClampNeg := hv2100
                        clear hv2100
                        refine lv_if_le (tgt := 117) hx hb dX2_reach_83 (by decide) (fun c_83 => ?_) (fun c_83 => ?_)
                        · have t_83 : v2100.toInt ≤ 0 := toI_le c_83 rfl (by decide : (0 : Int32).toInt = 0)
                          refine lv_iinc (v := (iI (l7_x42.toInt + 1))) hx hb dX2_reach_117 hl (k := 0) rfl (iI_add2 (iI_of _) (by decide : (1 : Int32) = iI 1)) (by decide) rfl (fun ls (hl : lv_has ls _ ([(7, .int (iI (l7_x42.toInt + 1))), (6, .int l6_x32), (5, .int l5_x42), (4, .int l4_x15), (3, .int l3_x15), (0, .ref (hN 0)), (1, .int p1), (2, .int p2)])) => ?_)
                          refine lv_goto (tgt := 42) hx hb dX2_reach_120 (by decide) ?_
                          have hl : lv_has _ _ ([(7, .int (iI (l7_x42.toInt + 1))), (6, .int l6_x32), (5, .int l5_x42), (4, .int l4_x15), (3, .int l3_x15), (0, .ref (hN 0)), (1, .int p1), (2, .int p2)]) := lv_sub hl [0, 1, 2, 3, 4, 5, 6, 7] rfl
                          exact ihx42 iN_reached_x42 fN_before_x42 (iI (l7_x42.toInt + 1)) l5_x42 _ _ _ b_fN_before_x42 (iI_rng (Int.le_trans (by decide) (Int.add_le_add (b_l7_x42.1) (Int.le_refl _))) (by omega) (by decide) (by decide)) (show RB p1.toInt iN_reached_x42 fN_before_x42 from by first | assumption | exact RB.first rfl (by omega) (by omega) (by assumption) | exact RB.more hRB hSE (by assumption) (by assumption) (by assumption) (by assumption) (by omega) (by omega) (by omega) (by omega)) (show SubB l3_x15 iN_reached_x42 from by first | assumption | exact SubB.refl _ | exact SubB.zero _ | exact hSF | exact SubB.grow hSE (by assumption)) (show SubB l5_x42 iN_reached_x42 from by first | assumption | exact SubB.zero _ | exact SubB.both hSF (by assumption) (by assumption)) (show RQ3 p1.toInt.toNat fN_free fN_before_x42 iN_reached_x42 l3_x15 l5_x42 l4_x15.toInt l6_x32.toInt.toNat (iI (l7_x42.toInt + 1)).toInt.toNat from by rw [show (iI (l7_x42.toInt + 1)).toInt.toNat = l7_x42.toInt.toNat + 1 from by rw [iI_t (by omega) (by omega)]; omega]; first | (exact RQ3.seen hQ3 (Or.inl (bt_yes b_v2097 t_67))) | (have eIt : ((iI ((l6_x32.toInt * 12) + l7_x42.toInt))).toNatClampNeg = 12 * l6_x32.toInt.toNat + l7_x42.toInt.toNat := (by show (iI (l6_x32.toInt * 12 + l7_x42.toInt)).toInt.toNat = _; rw [iI_t (by omega) (by omega)]; omega); exact RQ3.seen hQ3 (Or.inr (by rw [← eIt, ← b_v2100]; omega)))) (by have e9 : ((iI (l7_x42.toInt + 1))).toInt = (l7_x42.toInt + 1) := (iI_t (Int.le_trans (by decide) (Int.add_le_add (b_l7_x42.1) (Int.le_refl _))) (Int.le_trans (Int.add_le_add (b_l7_x42.2) (Int.le_refl _)) (by decide))); omega) hP hD hS hl
                        · have t_83 : ¬ v2100.toInt ≤ 0 := toI_nle c_83 rfl (by decide : (0 : Int32).toInt = 0)
                          have hbi : bt l3_x15 l6_x32.toInt.toNat = true := by rcases b_v2095 with ⟨h9, _⟩ | ⟨_, h9⟩; exact h9; omega
                          have hbj : bt iN_reached_x42 l7_x42.toInt.toNat = false := by rcases b_v2097 with ⟨_, h9⟩ | ⟨h9, _⟩; omega; exact h9
                          refine lv_aload_n hx hb dX2_reach_86 rfl (lv_at hl 5 rfl) ?_
                          refine va_get (D := (dC, dI)) (ci := 2) (v := .ref (aN 5)) (C := RX2) (T := TX2) (N := 14) hx hb hts iwsMX2_reach_in2 hown hK hP 0 rfl rfl 7 (by decide) (hts (.fieldLink RX2 27 "OptimaWorks$NetDesk" "before" "[I") (by decide +kernel)) (fun _ h9 => h9) rfl dX2_reach_87 ?_
                          refine lv_iload hx hb dX2_reach_90 (lv_at hl 0 rfl) ?_
                          refine lv_iload hx hb dX2_reach_92 (lv_at hl 1 rfl) ?_
                          refine va_iast (cA := kN 5) (n := 12) (f := fN_before_x42) hx hb hK hP hD hS 6 5 rfl rfl (vp_in_iff.mpr ⟨b_l7_x42.1, (Int.lt_of_lt_of_le (Int.not_le.mp t_46) (by decide))⟩) dX2_reach_94 (fun H locs hP hD hS => ?_)
                          obtain ⟨u2101, hu2101⟩ : ∃ f9, f9 = upd fN_before_x42 (l7_x42).toNatClampNeg l6_x32 := ⟨_, rfl⟩
                          have hP : va_P (dC, dI) vwCl (WN hN aN kN iN_arcs fN_from fN_to fN_room fN_cost iN_reached_x42 fN_free u2101 fN_flow fN_length fN_stop iN_stops fN_price fN_rest) H := by rw [hu2101]; exact hP
                          have hD : va_D A (WN hN aN kN iN_arcs fN_from fN_to fN_room fN_cost iN_reached_x42 fN_free u2101 fN_flow fN_length fN_stop iN_stops fN_price fN_rest) := by rw [hu2101]; exact hD
                          have b_u2101 : ∀ q : Nat, 0 ≤ (u2101 q).toInt ∧ (u2101 q).toInt ≤ 79 := by rw [hu2101]; exact upd_r b_fN_before_x42 (⟨b_l6_x32.1, Int.le_trans b_l6_x32.2 (by decide)⟩)
                          have b1_u2101 : u2101 = upd fN_before_x42 (l7_x42).toNatClampNeg l6_x32 := hu2101
                          clear hu2101
                          refine lv_aload_n hx hb dX2_reach_95 rfl (lv_at hl 5 rfl) ?_
                          refine lv_dup hx hb dX2_reach_96 rfl ?_
                          refine va_get (D := (dC, dI)) (ci := 2) (v := .int iN_reached_x42) (C := RX2) (T := TX2) (N := 14) hx hb hts iwsMX2_reach_in2 hown hK hP 0 rfl rfl 5 (by decide) (hts _ hm_m_X2_reach_0) (fun _ h9 => h9) rfl dX2_reach_97 ?_
                          refine lv_iconst (v := 1) hx hb dX2_reach_100 (by decide) ?_
                          refine lv_iload hx hb dX2_reach_101 (lv_at hl 0 rfl) ?_
                          refine lv_ishl hx hb dX2_reach_103 ?_
                          refine lv_topi (fun v2102 hv2102 => ?_)
                          have b_v2102 : v2102 = (1 : Int32) <<< (l7_x42 &&& 31) := hv2102
                          clear hv2102
                          refine lv_ior hx hb dX2_reach_104 ?_
                          refine lv_topi (fun v2103 hv2103 => ?_)
                          have b_v2103 : v2103 = iN_reached_x42 ||| (1 : Int32) <<< (l7_x42 &&& 31) := by rw [hv2103]; exact by rw [b_v2102]
                          clear hv2103
                          refine va_put (D := (dC, dI)) (ci := 2) (v := .int v2103) (ty := .int) (C := RX2) (T := TX2) (N := 14) hx hb hts iwsMX2_reach_in2 tyX2 tyX2_ok nmX2 hown hK hP hD hS 0 rfl rfl 5 (by decide) (hts _ hm_m_X2_reach_0) (fun _ h9 => h9) rfl (by decide +kernel) rfl rfl (Nat.le_of_ble_eq_true rfl) dX2_reach_105 (fun H locs hP hD hS => ?_)
                          have hP : va_P (dC, dI) vwCl (WN hN aN kN iN_arcs fN_from fN_to fN_room fN_cost v2103 fN_free u2101 fN_flow fN_length fN_stop iN_stops fN_price fN_rest) H := hP
                          have hD := fz_sd hP (hD) rfl
                          refine lv_iload hx hb dX2_reach_108 (lv_at hl 2 rfl) ?_
                          refine lv_iconst (v := 1) hx hb dX2_reach_110 (by decide) ?_
                          refine lv_iload hx hb dX2_reach_111 (lv_at hl 0 rfl) ?_
                          refine lv_ishl hx hb dX2_reach_113 ?_
                          refine lv_topi (fun v2104 hv2104 => ?_)
                          have b_v2104 : v2104 = (1 : Int32) <<< (l7_x42 &&& 31) := hv2104
                          clear hv2104
                          refine lv_ior hx hb dX2_reach_114 ?_
                          refine lv_topi (fun v2105 hv2105 => ?_)
                          have b_v2105 : v2105 = l5_x42 ||| (1 : Int32) <<< (l7_x42 &&& 31) := by rw [hv2105]; exact by rw [b_v2104]
                          clear hv2105
                          refine lv_istore hx hb dX2_reach_115 hl (by decide) rfl (fun ls (hl : lv_has ls _ ([(5, .int v2105), (7, .int l7_x42), (6, .int l6_x32), (4, .int l4_x15), (3, .int l3_x15), (0, .ref (hN 0)), (1, .int p1), (2, .int p2)])) => ?_)
                          refine lv_iinc (v := (iI (l7_x42.toInt + 1))) hx hb dX2_reach_117 hl (k := 1) rfl (iI_add2 (iI_of _) (by decide : (1 : Int32) = iI 1)) (by decide) rfl (fun ls (hl : lv_has ls _ ([(7, .int (iI (l7_x42.toInt + 1))), (5, .int v2105), (6, .int l6_x32), (4, .int l4_x15), (3, .int l3_x15), (0, .ref (hN 0)), (1, .int p1), (2, .int p2)])) => ?_)
                          refine lv_goto (tgt := 42) hx hb dX2_reach_120 (by decide) ?_
                          have hl : lv_has _ _ ([(7, .int (iI (l7_x42.toInt + 1))), (6, .int l6_x32), (5, .int v2105), (4, .int l4_x15), (3, .int l3_x15), (0, .ref (hN 0)), (1, .int p1), (2, .int p2)]) := lv_sub hl [0, 2, 1, 3, 4, 5, 6, 7] rfl
                          exact ihx42 v2103 u2101 (iI (l7_x42.toInt + 1)) v2105 _ _ _ b_u2101 (iI_rng (Int.le_trans (by decide) (Int.add_le_add (b_l7_x42.1) (Int.le_refl _))) (by omega) (by decide) (by decide)) (show RB p1.toInt v2103 u2101 from by first | assumption | exact RB.first rfl (by omega) (by omega) (by assumption) | exact RB.more hRB hSE (by assumption) (by assumption) (by assumption) (by assumption) (by omega) (by omega) (by omega) (by omega)) (show SubB l3_x15 v2103 from by first | assumption | exact SubB.refl _ | exact SubB.zero _ | exact hSF | exact SubB.grow hSE (by assumption)) (show SubB v2105 v2103 from by first | assumption | exact SubB.zero _ | exact SubB.both hSF (by assumption) (by assumption)) (show RQ3 p1.toInt.toNat fN_free u2101 v2103 l3_x15 v2105 l4_x15.toInt l6_x32.toInt.toNat (iI (l7_x42.toInt + 1)).toInt.toNat from by rw [show (iI (l7_x42.toInt + 1)).toInt.toNat = l7_x42.toInt.toNat + 1 from by rw [iI_t (by omega) (by omega)]; omega]; (have eIt : ((iI ((l6_x32.toInt * 12) + l7_x42.toInt))).toNatClampNeg = 12 * l6_x32.toInt.toNat + l7_x42.toInt.toNat := (by show (iI (l6_x32.toInt * 12 + l7_x42.toInt)).toInt.toNat = _; rw [iI_t (by omega) (by omega)]; omega); exact RQ3.add hQ3 (by omega) (by omega) (x := l6_x32) (y := l7_x42) (by omega) (by omega) hbi hSE hbj (by rw [← eIt, ← b_v2100]; omega) b1_u2101 b_v2103 b_v2105)) (by have e9 : ((iI (l7_x42.toInt + 1))).toInt = (l7_x42.toInt + 1) := (iI_t (Int.le_trans (by decide) (Int.add_le_add (b_l7_x42.1) (Int.le_refl _))) (Int.le_trans (Int.add_le_add (b_l7_x42.2) (Int.le_refl _)) (by decide))); omega) hP hD hS hl
                · rintro H locs ls stk ⟨hX3, rfl, hP, hD, hS, hl⟩
                  refine lv_iinc (v := (iI (l6_x32.toInt + 1))) hx hb dX2_reach_123 hl (k := 1) rfl (iI_add2 (iI_of _) (by decide : (1 : Int32) = iI 1)) (by decide) rfl (fun ls (hl : lv_has ls _ ([(6, .int (iI (l6_x32.toInt + 1))), (7, .int l7_x42), (5, .int l5_x42), (4, .int l4_x15), (3, .int l3_x15), (0, .ref (hN 0)), (1, .int p1), (2, .int p2)])) => ?_)
                  refine lv_goto (tgt := 32) hx hb dX2_reach_126 (by decide) ?_
                  have hl : lv_has _ _ ([(6, .int (iI (l6_x32.toInt + 1))), (5, .int l5_x42), (4, .int l4_x15), (3, .int l3_x15), (0, .ref (hN 0)), (1, .int p1), (2, .int p2)]) := lv_sub hl [0, 2, 3, 4, 5, 6, 7] rfl
                  exact ihx32 iN_reached_x42 fN_before_x42 (iI (l6_x32.toInt + 1)) l5_x42 _ _ _ b_fN_before_x42 (iI_rng (Int.le_trans (by decide) (Int.add_le_add (b_l6_x32.1) (Int.le_refl _))) (by omega) (by decide) (by decide)) (show RB p1.toInt iN_reached_x42 fN_before_x42 from by first | assumption | exact RB.first rfl (by omega) (by omega) (by assumption) | exact RB.more hRB hSE (by assumption) (by assumption) (by assumption) (by assumption) (by omega) (by omega) (by omega) (by omega)) (show SubB l3_x15 iN_reached_x42 from by first | assumption | exact SubB.refl _ | exact SubB.zero _ | exact hSF | exact SubB.grow hSE (by assumption)) (show SubB l5_x42 iN_reached_x42 from by first | assumption | exact SubB.zero _ | exact SubB.both hSF (by assumption) (by assumption)) (show RQ2 p1.toInt.toNat fN_free fN_before_x42 iN_reached_x42 l3_x15 l5_x42 l4_x15.toInt (iI (l6_x32.toInt + 1)).toInt.toNat from by rw [show (iI (l6_x32.toInt + 1)).toInt.toNat = l6_x32.toInt.toNat + 1 from by rw [iI_t (by omega) (by omega)]; omega]; exact RQ3.exit hQ3 hX3) (by have e9 : ((iI (l6_x32.toInt + 1))).toInt = (l6_x32.toInt + 1) := (iI_t (Int.le_trans (by decide) (Int.add_le_add (b_l6_x32.1) (Int.le_refl _))) (Int.le_trans (Int.add_le_add (b_l6_x32.2) (Int.le_refl _)) (by decide))); omega) hP hD hS hl
    · rintro H locs ls stk ⟨hE1, rfl, hP, hD, hS, hl⟩
      refine lv_aload_n hx hb dX2_reach_138 rfl (lv_at hl 2 rfl) ?_
      refine va_get (D := (dC, dI)) (ci := 2) (v := .int iN_reached_x15) (C := RX2) (T := TX2) (N := 14) hx hb hts iwsMX2_reach_in2 hown hK hP 0 rfl rfl 5 (by decide) (hts _ hm_m_X2_reach_0) (fun _ h9 => h9) rfl dX2_reach_139 ?_
      refine lv_iload_n hx hb dX2_reach_142 rfl (lv_at hl 4 rfl) ?_
      refine lv_ishr hx hb dX2_reach_143 ?_
      refine lv_topi (fun v2106 hv2106 => ?_)
      have b_v2106 : v2106 = iN_reached_x15 >>> (p2 &&& 31) := hv2106
      clear hv2106
      refine lv_iconst (v := 1) hx hb dX2_reach_144 (by decide) ?_
      refine lv_iand hx hb dX2_reach_145 ?_
      refine lv_topi (fun v2107 hv2107 => ?_)
      have b_v2107 : (bt iN_reached_x15 p2.toInt.toNat = true ∧ v2107.toInt = 1) ∨ (bt iN_reached_x15 p2.toInt.toNat = false ∧ v2107.toInt = 0) := by rw [hv2107]; exact sh_and1 b_v2106 rfl (by omega) (by omega)
      clear hv2107
      refine W.cut (pc := 154) (fun H locs ls stk => ∃ (k0_j130 : Int32), (0 ≤ k0_j130.toInt ∧ k0_j130.toInt ≤ 1) ∧ (k0_j130.toInt ≠ 0 → bt iN_reached_x15 p2.toInt.toNat = true) ∧ (k0_j130.toInt = 0 → bt iN_reached_x15 p2.toInt.toNat = false) ∧  stk = [.int k0_j130] ∧ va_P (dC, dI) vwCl (WN hN aN kN iN_arcs fN_from fN_to fN_room fN_cost iN_reached_x15 fN_free fN_before_x15 fN_flow fN_length fN_stop iN_stops fN_price fN_rest) H ∧ va_D A (WN hN aN kN iN_arcs fN_from fN_to fN_room fN_cost iN_reached_x15 fN_free fN_before_x15 fN_flow fN_length fN_stop iN_stops fN_price fN_rest) ∧ va_S A s.heap H locs ∧ lv_has ls 8 [(4, .int l4_x15), (3, .int l3_x15), (0, .ref (hN 0)), (1, .int p1), (2, .int p2)]) (fun join130 => ?_) ?_
      · refine lv_if_eq (tgt := 153) hx hb dX2_reach_146 (by decide) (fun c_146 => ?_) (fun c_146 => ?_)
        · have t_146 : v2107.toInt = 0 := toI_eq c_146 rfl (by decide : (0 : Int32).toInt = 0)
          refine lv_iconst (v := 0) hx hb dX2_reach_153 (by decide) ?_
          have hl : lv_has _ _ ([(4, .int l4_x15), (3, .int l3_x15), (0, .ref (hN 0)), (1, .int p1), (2, .int p2)]) := lv_sub hl [0, 1, 2, 3, 4] rfl
          exact join130 _ _ _ _ ⟨0, (show 0 ≤ (0 : Int32).toInt ∧ (0 : Int32).toInt ≤ 1 from by decide), (show (0 : Int32).toInt ≠ 0 → bt iN_reached_x15 p2.toInt.toNat = true from by first | (intro h9; exact absurd (by decide) h9) | (intro h9; exact bt_yes (by assumption) t_146)), (show (0 : Int32).toInt = 0 → bt iN_reached_x15 p2.toInt.toNat = false from by first | (intro h9; exact absurd h9 (by decide)) | (intro h9; exact bt_no (by assumption) t_146)), rfl, hP, hD, hS, hl⟩
        · have t_146 : ¬ v2107.toInt = 0 := toI_neq c_146 rfl (by decide : (0 : Int32).toInt = 0)
          refine lv_iconst (v := 1) hx hb dX2_reach_149 (by decide) ?_
          refine lv_goto (tgt := 154) hx hb dX2_reach_150 (by decide) ?_
          have hl : lv_has _ _ ([(4, .int l4_x15), (3, .int l3_x15), (0, .ref (hN 0)), (1, .int p1), (2, .int p2)]) := lv_sub hl [0, 1, 2, 3, 4] rfl
          exact join130 _ _ _ _ ⟨1, (show 0 ≤ (1 : Int32).toInt ∧ (1 : Int32).toInt ≤ 1 from by decide), (show (1 : Int32).toInt ≠ 0 → bt iN_reached_x15 p2.toInt.toNat = true from by first | (intro h9; exact absurd (by decide) h9) | (intro h9; exact bt_yes (by assumption) t_146)), (show (1 : Int32).toInt = 0 → bt iN_reached_x15 p2.toInt.toNat = false from by first | (intro h9; exact absurd h9 (by decide)) | (intro h9; exact bt_no (by assumption) t_146)), rfl, hP, hD, hS, hl⟩
      · rintro H locs ls stk ⟨k0_j130, b_k0_j130, hjr, hjn, rfl, hP, hD, hS, hl⟩
        refine W.widen (k := 0) (n := 0) (by decide +kernel) (by decide +kernel) ?_
        exact W.zret (v := k0_j130) hx hb hr (by rcases z01 (x := k0_j130) (b_k0_j130) with h9 | h9 <;> rw [h9] <;> rfl) (fun t9_ ht hW => ⟨⟨k0_j130, (iN_reached_x15, fN_before_x15), rfl, ⟨b_fN_before_x15, (b_k0_j130), (by (try dsimp only); exact (hRB)), (by (try dsimp only); exact (hjr)), (by (try dsimp only); exact (RQ1.done hQ1 hE1)), (by (try dsimp only); exact (hjn))⟩, by rw [ht]; exact hP, hD⟩, hS.F ht⟩) hS.2.2 dX2_reach_154
end
section
theorem hd_yX2_reach_RX2 : yX2_reach.cls = RX2 ∧ yX2_reach.cls ≠ "java/lang/invoke/MethodHandle" ∧ yX2_reach.cls ≠ "java/lang/invoke/VarHandle" ∧ (parseMethodDescriptor yX2_reach.desc).map (fun d => d.parameters.length) = some 2 := by decide +kernel
theorem dX2_fill_0 : decode cX2_fill 0 = .ok (.aload_n 0, 1) := dk_42 (by decide +kernel)
theorem dX2_fill_1 : decode cX2_fill 1 = .ok (.getfield 24, 3) := dk_180 (by decide +kernel)
theorem dX2_fill_4 : decode cX2_fill 4 = .ok (.iconst 0, 1) := dk_3 (by decide +kernel)
theorem dX2_fill_5 : decode cX2_fill 5 = .ok (.invokestatic 49, 3) := dk_184 (by decide +kernel)
theorem dX2_fill_8 : decode cX2_fill 8 = .ok (.iconst 0, 1) := dk_3 (by decide +kernel)
theorem dX2_fill_9 : decode cX2_fill 9 = .ok (.istore_n 3, 1) := dk_62 (by decide +kernel)
theorem dX2_fill_10 : decode cX2_fill 10 = .ok (.iload_n 3, 1) := dk_29 (by decide +kernel)
theorem dX2_fill_11 : decode cX2_fill 11 = .ok (.aload_n 0, 1) := dk_42 (by decide +kernel)
theorem dX2_fill_12 : decode cX2_fill 12 = .ok (.getfield 45, 3) := dk_180 (by decide +kernel)
theorem dX2_fill_15 : decode cX2_fill 15 = .ok (.if_icmp .ge 39, 3) := dk_162 (by decide +kernel)
theorem dX2_fill_18 : decode cX2_fill 18 = .ok (.aload_n 0, 1) := dk_42 (by decide +kernel)
theorem dX2_fill_19 : decode cX2_fill 19 = .ok (.getfield 24, 3) := dk_180 (by decide +kernel)
theorem dX2_fill_22 : decode cX2_fill 22 = .ok (.aload_n 0, 1) := dk_42 (by decide +kernel)
theorem dX2_fill_23 : decode cX2_fill 23 = .ok (.getfield 11, 3) := dk_180 (by decide +kernel)
theorem dX2_fill_26 : decode cX2_fill 26 = .ok (.iload_n 3, 1) := dk_29 (by decide +kernel)
theorem dX2_fill_27 : decode cX2_fill 27 = .ok (.iaload, 1) := dk_46 (by decide +kernel)
theorem dX2_fill_28 : decode cX2_fill 28 = .ok (.bipush 12, 2) := dk_16 (by decide +kernel)
theorem dX2_fill_30 : decode cX2_fill 30 = .ok (.imul, 1) := dk_104 (by decide +kernel)
theorem dX2_fill_31 : decode cX2_fill 31 = .ok (.aload_n 0, 1) := dk_42 (by decide +kernel)
theorem dX2_fill_32 : decode cX2_fill 32 = .ok (.getfield 15, 3) := dk_180 (by decide +kernel)
theorem dX2_fill_35 : decode cX2_fill 35 = .ok (.iload_n 3, 1) := dk_29 (by decide +kernel)
theorem dX2_fill_36 : decode cX2_fill 36 = .ok (.iaload, 1) := dk_46 (by decide +kernel)
theorem dX2_fill_37 : decode cX2_fill 37 = .ok (.iadd, 1) := dk_96 (by decide +kernel)
theorem dX2_fill_38 : decode cX2_fill 38 = .ok (.dup2, 1) := dk_92 (by decide +kernel)
theorem dX2_fill_39 : decode cX2_fill 39 = .ok (.iaload, 1) := dk_46 (by decide +kernel)
theorem dX2_fill_40 : decode cX2_fill 40 = .ok (.aload_n 0, 1) := dk_42 (by decide +kernel)
theorem dX2_fill_41 : decode cX2_fill 41 = .ok (.getfield 18, 3) := dk_180 (by decide +kernel)
theorem dX2_fill_44 : decode cX2_fill 44 = .ok (.iload_n 3, 1) := dk_29 (by decide +kernel)
theorem dX2_fill_45 : decode cX2_fill 45 = .ok (.iaload, 1) := dk_46 (by decide +kernel)
theorem dX2_fill_46 : decode cX2_fill 46 = .ok (.iadd, 1) := dk_96 (by decide +kernel)
theorem dX2_fill_47 : decode cX2_fill 47 = .ok (.iastore, 1) := dk_79 (by decide +kernel)
theorem dX2_fill_48 : decode cX2_fill 48 = .ok (.iinc 3 1, 3) := dk_132 (by decide +kernel)
theorem dX2_fill_51 : decode cX2_fill 51 = .ok (.goto (-41), 3) := dk_167 (by decide +kernel)
theorem dX2_fill_54 : decode cX2_fill 54 = .ok (.iconst 0, 1) := dk_3 (by decide +kernel)
theorem dX2_fill_55 : decode cX2_fill 55 = .ok (.istore_n 3, 1) := dk_62 (by decide +kernel)
theorem dX2_fill_56 : decode cX2_fill 56 = .ok (.iconst 0, 1) := dk_3 (by decide +kernel)
theorem dX2_fill_57 : decode cX2_fill 57 = .ok (.istore 4, 2) := dk_54 (by decide +kernel)
theorem dX2_fill_59 : decode cX2_fill 59 = .ok (.iload 4, 2) := dk_21 (by decide +kernel)
theorem dX2_fill_61 : decode cX2_fill 61 = .ok (.ldc 55, 2) := dk_18 (by decide +kernel)
theorem dX2_fill_63 : decode cX2_fill 63 = .ok (.if_icmp .ge 166, 3) := dk_162 (by decide +kernel)
theorem dX2_fill_66 : decode cX2_fill 66 = .ok (.aload_n 0, 1) := dk_42 (by decide +kernel)
theorem dX2_fill_67 : decode cX2_fill 67 = .ok (.iload_n 1, 1) := dk_27 (by decide +kernel)
theorem dX2_fill_68 : decode cX2_fill 68 = .ok (.iload_n 2, 1) := dk_28 (by decide +kernel)
theorem dX2_fill_69 : decode cX2_fill 69 = .ok (.invokevirtual 56, 3) := dk_182 (by decide +kernel)
theorem dX2_fill_72 : decode cX2_fill 72 = .ok (.ifCond .eq 157, 3) := dk_153 (by decide +kernel)
theorem dX2_fill_75 : decode cX2_fill 75 = .ok (.ldc 60, 2) := dk_18 (by decide +kernel)
theorem dX2_fill_77 : decode cX2_fill 77 = .ok (.istore 5, 2) := dk_54 (by decide +kernel)
theorem dX2_fill_79 : decode cX2_fill 79 = .ok (.iload_n 2, 1) := dk_28 (by decide +kernel)
theorem dX2_fill_80 : decode cX2_fill 80 = .ok (.istore 6, 2) := dk_54 (by decide +kernel)
theorem dX2_fill_82 : decode cX2_fill 82 = .ok (.iconst 0, 1) := dk_3 (by decide +kernel)
theorem dX2_fill_83 : decode cX2_fill 83 = .ok (.istore 7, 2) := dk_54 (by decide +kernel)
theorem dX2_fill_85 : decode cX2_fill 85 = .ok (.iload 6, 2) := dk_21 (by decide +kernel)
theorem dX2_fill_87 : decode cX2_fill 87 = .ok (.iload_n 1, 1) := dk_27 (by decide +kernel)
theorem dX2_fill_88 : decode cX2_fill 88 = .ok (.if_icmp .eq 50, 3) := dk_159 (by decide +kernel)
theorem dX2_fill_91 : decode cX2_fill 91 = .ok (.iload 7, 2) := dk_21 (by decide +kernel)
theorem dX2_fill_93 : decode cX2_fill 93 = .ok (.bipush 12, 2) := dk_16 (by decide +kernel)
theorem dX2_fill_95 : decode cX2_fill 95 = .ok (.if_icmp .ge 43, 3) := dk_162 (by decide +kernel)
theorem dX2_fill_98 : decode cX2_fill 98 = .ok (.iload 5, 2) := dk_21 (by decide +kernel)
theorem dX2_fill_100 : decode cX2_fill 100 = .ok (.aload_n 0, 1) := dk_42 (by decide +kernel)
theorem dX2_fill_101 : decode cX2_fill 101 = .ok (.getfield 24, 3) := dk_180 (by decide +kernel)
theorem dX2_fill_104 : decode cX2_fill 104 = .ok (.aload_n 0, 1) := dk_42 (by decide +kernel)
theorem dX2_fill_105 : decode cX2_fill 105 = .ok (.getfield 27, 3) := dk_180 (by decide +kernel)
theorem dX2_fill_108 : decode cX2_fill 108 = .ok (.iload 6, 2) := dk_21 (by decide +kernel)
theorem dX2_fill_110 : decode cX2_fill 110 = .ok (.iaload, 1) := dk_46 (by decide +kernel)
theorem dX2_fill_111 : decode cX2_fill 111 = .ok (.bipush 12, 2) := dk_16 (by decide +kernel)
theorem dX2_fill_113 : decode cX2_fill 113 = .ok (.imul, 1) := dk_104 (by decide +kernel)
theorem dX2_fill_114 : decode cX2_fill 114 = .ok (.iload 6, 2) := dk_21 (by decide +kernel)
theorem dX2_fill_116 : decode cX2_fill 116 = .ok (.iadd, 1) := dk_96 (by decide +kernel)
theorem dX2_fill_117 : decode cX2_fill 117 = .ok (.iaload, 1) := dk_46 (by decide +kernel)
theorem dX2_fill_118 : decode cX2_fill 118 = .ok (.invokestatic 61, 3) := dk_184 (by decide +kernel)
theorem dX2_fill_121 : decode cX2_fill 121 = .ok (.istore 5, 2) := dk_54 (by decide +kernel)
theorem dX2_fill_123 : decode cX2_fill 123 = .ok (.aload_n 0, 1) := dk_42 (by decide +kernel)
theorem dX2_fill_124 : decode cX2_fill 124 = .ok (.getfield 27, 3) := dk_180 (by decide +kernel)
theorem dX2_fill_127 : decode cX2_fill 127 = .ok (.iload 6, 2) := dk_21 (by decide +kernel)
theorem dX2_fill_129 : decode cX2_fill 129 = .ok (.iaload, 1) := dk_46 (by decide +kernel)
theorem dX2_fill_130 : decode cX2_fill 130 = .ok (.istore 6, 2) := dk_54 (by decide +kernel)
theorem dX2_fill_132 : decode cX2_fill 132 = .ok (.iinc 7 1, 3) := dk_132 (by decide +kernel)
theorem dX2_fill_135 : decode cX2_fill 135 = .ok (.goto (-50), 3) := dk_167 (by decide +kernel)
theorem dX2_fill_138 : decode cX2_fill 138 = .ok (.iload_n 2, 1) := dk_28 (by decide +kernel)
theorem dX2_fill_139 : decode cX2_fill 139 = .ok (.istore 6, 2) := dk_54 (by decide +kernel)
theorem dX2_fill_141 : decode cX2_fill 141 = .ok (.iconst 0, 1) := dk_3 (by decide +kernel)
theorem dX2_fill_142 : decode cX2_fill 142 = .ok (.istore 7, 2) := dk_54 (by decide +kernel)
theorem dX2_fill_144 : decode cX2_fill 144 = .ok (.iload 6, 2) := dk_21 (by decide +kernel)
theorem dX2_fill_146 : decode cX2_fill 146 = .ok (.iload_n 1, 1) := dk_27 (by decide +kernel)
theorem dX2_fill_147 : decode cX2_fill 147 = .ok (.if_icmp .eq 71, 3) := dk_159 (by decide +kernel)
theorem dX2_fill_150 : decode cX2_fill 150 = .ok (.iload 7, 2) := dk_21 (by decide +kernel)
theorem dX2_fill_152 : decode cX2_fill 152 = .ok (.bipush 12, 2) := dk_16 (by decide +kernel)
theorem dX2_fill_154 : decode cX2_fill 154 = .ok (.if_icmp .ge 64, 3) := dk_162 (by decide +kernel)
theorem dX2_fill_157 : decode cX2_fill 157 = .ok (.aload_n 0, 1) := dk_42 (by decide +kernel)
theorem dX2_fill_158 : decode cX2_fill 158 = .ok (.getfield 24, 3) := dk_180 (by decide +kernel)
theorem dX2_fill_161 : decode cX2_fill 161 = .ok (.aload_n 0, 1) := dk_42 (by decide +kernel)
theorem dX2_fill_162 : decode cX2_fill 162 = .ok (.getfield 27, 3) := dk_180 (by decide +kernel)
theorem dX2_fill_165 : decode cX2_fill 165 = .ok (.iload 6, 2) := dk_21 (by decide +kernel)
theorem dX2_fill_167 : decode cX2_fill 167 = .ok (.iaload, 1) := dk_46 (by decide +kernel)
theorem dX2_fill_168 : decode cX2_fill 168 = .ok (.bipush 12, 2) := dk_16 (by decide +kernel)
theorem dX2_fill_170 : decode cX2_fill 170 = .ok (.imul, 1) := dk_104 (by decide +kernel)
theorem dX2_fill_171 : decode cX2_fill 171 = .ok (.iload 6, 2) := dk_21 (by decide +kernel)
theorem dX2_fill_173 : decode cX2_fill 173 = .ok (.iadd, 1) := dk_96 (by decide +kernel)
theorem dX2_fill_174 : decode cX2_fill 174 = .ok (.dup2, 1) := dk_92 (by decide +kernel)
theorem dX2_fill_175 : decode cX2_fill 175 = .ok (.iaload, 1) := dk_46 (by decide +kernel)
theorem dX2_fill_176 : decode cX2_fill 176 = .ok (.iload 5, 2) := dk_21 (by decide +kernel)
theorem dX2_fill_178 : decode cX2_fill 178 = .ok (.isub, 1) := dk_100 (by decide +kernel)
theorem dX2_fill_179 : decode cX2_fill 179 = .ok (.iastore, 1) := dk_79 (by decide +kernel)
theorem dX2_fill_180 : decode cX2_fill 180 = .ok (.aload_n 0, 1) := dk_42 (by decide +kernel)
theorem dX2_fill_181 : decode cX2_fill 181 = .ok (.getfield 24, 3) := dk_180 (by decide +kernel)
theorem dX2_fill_184 : decode cX2_fill 184 = .ok (.iload 6, 2) := dk_21 (by decide +kernel)
theorem dX2_fill_186 : decode cX2_fill 186 = .ok (.bipush 12, 2) := dk_16 (by decide +kernel)
theorem dX2_fill_188 : decode cX2_fill 188 = .ok (.imul, 1) := dk_104 (by decide +kernel)
theorem dX2_fill_189 : decode cX2_fill 189 = .ok (.aload_n 0, 1) := dk_42 (by decide +kernel)
theorem dX2_fill_190 : decode cX2_fill 190 = .ok (.getfield 27, 3) := dk_180 (by decide +kernel)
theorem dX2_fill_193 : decode cX2_fill 193 = .ok (.iload 6, 2) := dk_21 (by decide +kernel)
theorem dX2_fill_195 : decode cX2_fill 195 = .ok (.iaload, 1) := dk_46 (by decide +kernel)
theorem dX2_fill_196 : decode cX2_fill 196 = .ok (.iadd, 1) := dk_96 (by decide +kernel)
theorem dX2_fill_197 : decode cX2_fill 197 = .ok (.dup2, 1) := dk_92 (by decide +kernel)
theorem dX2_fill_198 : decode cX2_fill 198 = .ok (.iaload, 1) := dk_46 (by decide +kernel)
theorem dX2_fill_199 : decode cX2_fill 199 = .ok (.iload 5, 2) := dk_21 (by decide +kernel)
theorem dX2_fill_201 : decode cX2_fill 201 = .ok (.iadd, 1) := dk_96 (by decide +kernel)
theorem dX2_fill_202 : decode cX2_fill 202 = .ok (.iastore, 1) := dk_79 (by decide +kernel)
theorem dX2_fill_203 : decode cX2_fill 203 = .ok (.aload_n 0, 1) := dk_42 (by decide +kernel)
theorem dX2_fill_204 : decode cX2_fill 204 = .ok (.getfield 27, 3) := dk_180 (by decide +kernel)
theorem dX2_fill_207 : decode cX2_fill 207 = .ok (.iload 6, 2) := dk_21 (by decide +kernel)
theorem dX2_fill_209 : decode cX2_fill 209 = .ok (.iaload, 1) := dk_46 (by decide +kernel)
theorem dX2_fill_210 : decode cX2_fill 210 = .ok (.istore 6, 2) := dk_54 (by decide +kernel)
theorem dX2_fill_212 : decode cX2_fill 212 = .ok (.iinc 7 1, 3) := dk_132 (by decide +kernel)
theorem dX2_fill_215 : decode cX2_fill 215 = .ok (.goto (-71), 3) := dk_167 (by decide +kernel)
theorem dX2_fill_218 : decode cX2_fill 218 = .ok (.iload_n 3, 1) := dk_29 (by decide +kernel)
theorem dX2_fill_219 : decode cX2_fill 219 = .ok (.iload 5, 2) := dk_21 (by decide +kernel)
theorem dX2_fill_221 : decode cX2_fill 221 = .ok (.iadd, 1) := dk_96 (by decide +kernel)
theorem dX2_fill_222 : decode cX2_fill 222 = .ok (.istore_n 3, 1) := dk_62 (by decide +kernel)
theorem dX2_fill_223 : decode cX2_fill 223 = .ok (.iinc 4 1, 3) := dk_132 (by decide +kernel)
theorem dX2_fill_226 : decode cX2_fill 226 = .ok (.goto (-167), 3) := dk_167 (by decide +kernel)
theorem dX2_fill_229 : decode cX2_fill 229 = .ok (.iload_n 3, 1) := dk_29 (by decide +kernel)
theorem dX2_fill_230 : decode cX2_fill 230 = .ok (.ireturn, 1) := dk_172 (by decide +kernel)
def wsMX2_fill : List Cond := .code yX2_fill cX2_fill 8 (some .int) :: ([.fieldLink RX2 24 "OptimaWorks$NetDesk" "free" "[I", .fieldLink RX2 45 "OptimaWorks$NetDesk" "arcs" "I", .fieldLink RX2 11 "OptimaWorks$NetDesk" "from" "[I", .fieldLink RX2 15 "OptimaWorks$NetDesk" "to" "[I", .fieldLink RX2 18 "OptimaWorks$NetDesk" "room" "[I", .constant RX2 55 1000000, .constant RX2 60 536870912, .fieldLink RX2 27 "OptimaWorks$NetDesk" "before" "[I", .methodLink RX2 61 Lib.Math.min.name, .static Lib.Math.min.name, .initialized "java/lang/Math", .code Lib.Math.min.name Lib.Math.min.code 2 (some .int)] ++ wsX20 ++ (va_wsS RX2 49 yJ7_fill_53178 wsMJ7_fill_53178) ++ (wsV RX2 56 RX2 yX2_reach wsMX2_reach))
theorem iwsMX2_fill_in2 : ∀ w ∈ wsX20, w ∈ wsMX2_fill := fun _ h => List.mem_cons_of_mem _ (List.mem_append_left _ (List.mem_append_left _ (List.mem_append_right _ h)))
theorem gwsMX2_fill_0 : GoodIn wsMX2_fill (va_wsS RX2 49 yJ7_fill_53178 wsMJ7_fill_53178) := goodIn_sub (fun _ h => List.mem_cons_of_mem _ (List.mem_append_left _ (List.mem_append_right _ h))) (gdS (by decide +kernel) gdwsMJ7_fill_53178)
theorem gwsMX2_fill_1 : GoodIn wsMX2_fill (wsV RX2 56 RX2 yX2_reach wsMX2_reach) := goodIn_sub (fun _ h => List.mem_cons_of_mem _ (List.mem_append_right _ h)) (gdV (by decide +kernel) gdwsMX2_reach)
theorem gdwsMX2_fill : wsMX2_fill.all goodWord = true := gdC rfl (gdA (gdA (gdA (by decide +kernel : ([.fieldLink RX2 24 "OptimaWorks$NetDesk" "free" "[I", .fieldLink RX2 45 "OptimaWorks$NetDesk" "arcs" "I", .fieldLink RX2 11 "OptimaWorks$NetDesk" "from" "[I", .fieldLink RX2 15 "OptimaWorks$NetDesk" "to" "[I", .fieldLink RX2 18 "OptimaWorks$NetDesk" "room" "[I", .constant RX2 55 1000000, .constant RX2 60 536870912, .fieldLink RX2 27 "OptimaWorks$NetDesk" "before" "[I", .methodLink RX2 61 Lib.Math.min.name, .static Lib.Math.min.name, .initialized "java/lang/Math", .code Lib.Math.min.name Lib.Math.min.code 2 (some .int)] : List Cond).all goodWord = true) gdwsX20) (gdS (by decide +kernel) gdwsMJ7_fill_53178)) (gdV (by decide +kernel) gdwsMX2_reach))
theorem hm_m_X2_fill_0 : (.fieldLink RX2 24 "OptimaWorks$NetDesk" "free" "[I" : Cond) ∈ wsMX2_fill := by decide +kernel
theorem hm_m_X2_fill_1 : (.fieldLink RX2 27 "OptimaWorks$NetDesk" "before" "[I" : Cond) ∈ wsMX2_fill := by decide +kernel
set_option maxHeartbeats 4000000 in
set_option maxRecDepth 100000 in
/-- a greatest flow -/
theorem m_X2_fill (l : Launch) (dC : Nat → ClassId) (dI : Nat → Nat → Nat) (hN : Nat → Nat) (aN : Nat → Nat) (kN : Nat → ClassId) (iN_arcs : Int32) (fN_from : Nat → Int32) (fN_to : Nat → Int32) (fN_room : Nat → Int32) (fN_cost : Nat → Int32) (iN_reached : Int32) (fN_free : Nat → Int32) (fN_before : Nat → Int32) (fN_flow : Nat → Int32) (fN_length : Nat → Int32) (fN_stop : Nat → Int32) (iN_stops : Int32) (fN_price : Nat → Int32) (fN_rest : Nat → Int32) (p1 : Int32) (p2 : Int32) (b_iN_arcs : 0 ≤ iN_arcs.toInt ∧ iN_arcs.toInt ≤ 40) (b_fN_from : ∀ q : Nat, 0 ≤ (fN_from q).toInt ∧ (fN_from q).toInt ≤ 11) (b_fN_to : ∀ q : Nat, 0 ≤ (fN_to q).toInt ∧ (fN_to q).toInt ≤ 11) (b_fN_before : ∀ q : Nat, 0 ≤ (fN_before q).toInt ∧ (fN_before q).toInt ≤ 79) (b_fN_stop : ∀ q : Nat, 0 ≤ (fN_stop q).toInt ∧ (fN_stop q).toInt ≤ 11) (b_iN_stops : 0 ≤ iN_stops.toInt ∧ iN_stops.toInt ≤ 8) (b_p1 : 0 ≤ p1.toInt ∧ p1.toInt ≤ 11) (b_p2 : 0 ≤ p2.toInt ∧ p2.toInt ≤ 11) (hVal : tVal (iN_arcs.toInt, fN_from, fN_to, fN_room, fN_cost)) (hRm : tRm (iN_arcs.toInt, fN_from, fN_to, fN_room, fN_cost)) (hne : p1.toInt ≠ p2.toInt) (sz : Nat) : Met l yX2_fill wsMX2_fill ({ frames := 1, cells := 0, slots := 0, locals := 27 }) (va_Pc [.ref (hN 0), .int p1, .int p2] (fun U => U.heap.size = sz ∧ va_P (dC, dI) vwCl (WN hN aN kN iN_arcs fN_from fN_to fN_room fN_cost iN_reached fN_free fN_before fN_flow fN_length fN_stop iN_stops fN_price fN_rest) U.heap ∧ va_K (dC, dI) vwCl (tN kN) U ∧ va_D (fun _ => True) (WN hN aN kN iN_arcs fN_from fN_to fN_room fN_cost iN_reached fN_free fN_before fN_flow fN_length fN_stop iN_stops fN_price fN_rest))) (va_Qi (fun (r : Int32) (u : (Int32) × (Nat → Int32) × (Nat → Int32)) => (∀ q : Nat, 0 ≤ ((u.2.2) q).toInt ∧ ((u.2.2) q).toInt ≤ 79) ∧ (mxF (iN_arcs.toInt, fN_from, fN_to, fN_room, fN_cost) p1.toInt.toNat p2.toInt.toNat r.toInt) ∧ (mxC (iN_arcs.toInt, fN_from, fN_to, fN_room, fN_cost) p1.toInt.toNat p2.toInt.toNat (u.1))) (fun (u : (Int32) × (Nat → Int32) × (Nat → Int32)) t => va_P (dC, dI) vwCl (WN hN aN kN iN_arcs fN_from fN_to fN_room fN_cost (u.1) (u.2.1) (u.2.2) fN_flow fN_length fN_stop iN_stops fN_price fN_rest) t.heap ∧ va_D (va_A (WN hN aN kN iN_arcs fN_from fN_to fN_room fN_cost iN_reached fN_free fN_before fN_flow fN_length fN_stop iN_stops fN_price fN_rest) sz) (WN hN aN kN iN_arcs fN_from fN_to fN_room fN_cost (u.1) (u.2.1) (u.2.2) fN_flow fN_length fN_stop iN_stops fN_price fN_rest)) (va_A (WN hN aN kN iN_arcs fN_from fN_to fN_room fN_cost iN_reached fN_free fN_before fN_flow fN_length fN_stop iN_stops fN_price fN_rest) sz)) 0 0 (va_A (WN hN aN kN iN_arcs fN_from fN_to fN_room fN_cost iN_reached fN_free fN_before fN_flow fN_length fN_stop iN_stops fN_price fN_rest) sz) := by
  refine Met.ofW (cc := cX2_fill) (maxL := 8) (ret := (some .int)) (by decide) rfl ?_
  intro p e s m args below meth c s₁ B hml hv
  obtain ⟨rfl, hsz, hP, hK, hD0⟩ := hv
  have hx := B.exec
  have hb := B.bytes
  have hr := B.returns
  have hts := atoms_spec (ws := wsMX2_fill) B.pre
  have hown : s.vm.findClass RX2 = some m.cls := findClass_of_methodNamed B.named
  have hlocks := B.notSynchronized
  subst hsz
  have hD := hD0.self (sz := s.heap.size)
  generalize hAe : va_A (WN hN aN kN iN_arcs fN_from fN_to fN_room fN_cost iN_reached fN_free fN_before fN_flow fN_length fN_stop iN_stops fN_price fN_rest) s.heap.size = A at hD ⊢
  have hA : ∀ q : Nat, s.heap.size ≤ q → A q := fun q h => by rw [← hAe]; exact Or.inr h
  have hS : va_S A s.heap s.heap [] := va_S.rf
  have hl := lv_entry ([.ref (hN 0), .int p1, .int p2]) (n := 8) (Nat.le_of_ble_eq_true rfl)
  rw [lg_entry_eq]
  generalize (lg_sl ([.ref (hN 0), .int p1, .int p2]) ++ List.replicate (8 - (lg_sl ([.ref (hN 0), .int p1, .int p2])).length) Slot.unset).toArray = ls at hl ⊢
  have hl : lv_has ls 8 [(0, .ref (hN 0)), (1, .int p1), (2, .int p2)] := hl
  refine lv_aload_n hx hb dX2_fill_0 rfl (lv_at hl 0 rfl) ?_
  refine va_get (D := (dC, dI)) (ci := 2) (v := .ref (aN 4)) (C := RX2) (T := TX2) (N := 14) hx hb hts iwsMX2_fill_in2 hown hK hP 0 rfl rfl 6 (by decide) (hts _ hm_m_X2_fill_0) (fun _ h9 => h9) rfl dX2_fill_1 ?_
  refine lv_iconst (v := 0) hx hb dX2_fill_4 (by decide) ?_
  have hPc : va_P (dC, dI) vwCl (WY (fun _ => 0) (fun _ => aN 4) (fun _ => kN 4) 144 fN_free) _ := hP.sub [5] rfl
  have hDc : va_D _ (WY (fun _ => 0) (fun _ => aN 4) (fun _ => kN 4) 144 fN_free) := hD.sub [5] (by decide) rfl
  have hKc : va_K (dC, dI) vwCl (tY (fun _ => kN 4)) _ := hK.sub [4] rfl
  have hFc := va_free (wc := WY (fun _ => 0) (fun _ => aN 4) (fun _ => kN 4) 144 fN_free) hD hS hA [5] rfl
  refine va_callv (va_runS (As := [.ref (aN 4), .int 0]) (rest := []) ⟨hx, hb, hml, hown, hts⟩ (m_J7_fill_53178 l dC dI (fun _ => 0) (fun _ => aN 4) (fun _ => kN 4) 144 fN_free 0 (by first | assumption | exact ⟨by omega, by omega⟩) s.heap.size) (va_cwS 2 hts gwsMX2_fill_0 rfl rfl rfl (by decide +kernel) ⟨by decide +kernel, by decide +kernel⟩) ⟨fun a U g mk q => by obtain ⟨q0, q1, qP, qK, qD⟩ := q; exact ⟨q0, q1, qP, va_K.moved (u := U) (U := U.calling g mk a) (Vm.Alike.refl U.vm) qK, qD⟩, fun U hU9 hW => ⟨rfl, by rw [hU9], by rw [hU9]; exact hPc, va_K.moved hW.alike hKc, hDc.weaken (fun _ _ _ _ => trivial)⟩⟩ rfl rfl hl.1 rfl (lv_room (Nat.le_of_ble_eq_true rfl)) dX2_fill_5 (by decide +kernel)) hS (fun q _ h => hFc q h) hFc (fun fY_1 t9_ H locs ht hvm hw9 hB9 hz1 hk1 hS => ?_)
  have f1_0 := hw9
  try dsimp only at f1_0
  obtain ⟨hP, hD⟩ := va_join (wr := [(hN 0, .inr (2, [.int iN_arcs, .ref (aN 0), .ref (aN 1), .ref (aN 2), .ref (aN 3), .int iN_reached, .ref (aN 4), .ref (aN 5), .ref (aN 6), .ref (aN 7), .ref (aN 8), .int iN_stops, .ref (aN 9), .ref (aN 10)])), (aN 0, .inl (kN 0, 40, .inl fN_from)), (aN 1, .inl (kN 1, 40, .inl fN_to)), (aN 2, .inl (kN 2, 40, .inl fN_room)), (aN 3, .inl (kN 3, 40, .inl fN_cost)), (aN 5, .inl (kN 5, 12, .inl fN_before)), (aN 6, .inl (kN 6, 40, .inl fN_flow)), (aN 7, .inl (kN 7, 12, .inl fN_length)), (aN 8, .inl (kN 8, 8, .inl fN_stop)), (aN 9, .inl (kN 9, 64, .inl fN_price)), (aN 10, .inl (kN 10, 1024, .inl fN_rest))]) (w1 := WY (fun _ => 0) (fun _ => aN 4) (fun _ => kN 4) 144 fY_1) hP hD [5] [0, 1, 2, 3, 4, 6, 7, 8, 9, 10, 11] rfl rfl (by decide) (by decide) hk1 hFc (fz_P ht hB9.1) hB9.2
  have hP : va_P (dC, dI) vwCl (WN hN aN kN iN_arcs fN_from fN_to fN_room fN_cost iN_reached fY_1 fN_before fN_flow fN_length fN_stop iN_stops fN_price fN_rest) H := hP.sub [0, 1, 2, 3, 4, 11, 5, 6, 7, 8, 9, 10] rfl
  have hD : va_D A (WN hN aN kN iN_arcs fN_from fN_to fN_room fN_cost iN_reached fY_1 fN_before fN_flow fN_length fN_stop iN_stops fN_price fN_rest) := hD.sub [0, 1, 2, 3, 4, 11, 5, 6, 7, 8, 9, 10] (by decide) rfl
  have hfil := f1_0
  refine lv_iconst (v := 0) hx hb dX2_fill_8 (by decide) ?_
  refine lv_istore_n hx hb dX2_fill_9 rfl hl (by decide) rfl (fun ls (hl : lv_has ls _ ([(3, .int 0), (0, .ref (hN 0)), (1, .int p1), (2, .int p2)])) => ?_)
  have hl : lv_has _ _ ([(3, .int 0), (0, .ref (hN 0)), (1, .int p1), (2, .int p2)]) := lv_sub hl [0, 1, 2, 3] rfl
  refine (fun (loop : ∀ (n9 : Nat) (fN_free_x10 : Nat → Int32) (l3_x10 : Int32) (H : Heap) (locs : List Loc) (ls : Array Slot), (0 ≤ l3_x10.toInt ∧ l3_x10.toInt ≤ 40) → (mG (iN_arcs.toInt, fN_from, fN_to, fN_room, fN_cost) fN_free_x10 l3_x10.toInt.toNat) → (l3_x10.toInt ≤ iN_arcs.toInt) → (40 - l3_x10.toInt < ((n9 : Nat) : Int)) → va_P (dC, dI) vwCl (WN hN aN kN iN_arcs fN_from fN_to fN_room fN_cost iN_reached fN_free_x10 fN_before fN_flow fN_length fN_stop iN_stops fN_price fN_rest) H → va_D A (WN hN aN kN iN_arcs fN_from fN_to fN_room fN_cost iN_reached fN_free_x10 fN_before fN_flow fN_length fN_stop iN_stops fN_price fN_rest) → va_S A s.heap H locs → lv_has ls 8 [(3, .int l3_x10), (0, .ref (hN 0)), (1, .int p1), (2, .int p2)] → W p l e _ s m _ below meth c H locs 0 0 _ (F0 m 10 ls [])) => loop (41) fY_1 0 _ _ _ (show 0 ≤ (0 : Int32).toInt ∧ (0 : Int32).toInt ≤ 40 from by decide) (show mG (iN_arcs.toInt, fN_from, fN_to, fN_room, fN_cost) fY_1 (0 : Int32).toInt.toNat from mG.start (by decide) hfil) (show (0 : Int32).toInt ≤ iN_arcs.toInt from by have h7 : (0 : Int32).toInt = 0 := (by decide); omega) ((by have e9 : (0 : Int32).toInt = 0 := (by decide : (0 : Int32).toInt = 0); omega)) hP hD hS hl) ?_
  intro n9
  induction n9 with
  | zero => intro fN_free_x10 l3_x10 H locs ls b_l3_x10 hG hla hf9; exact False.elim (by omega)
  | succ n9 ihx10 =>
    intro fN_free_x10 l3_x10 H locs ls b_l3_x10 hG hla hfx10 hP hD hS hl
    refine lv_iload_n hx hb dX2_fill_10 rfl (lv_at hl 0 rfl) ?_
    refine lv_aload_n hx hb dX2_fill_11 rfl (lv_at hl 1 rfl) ?_
    refine va_get (D := (dC, dI)) (ci := 2) (v := .int iN_arcs) (C := RX2) (T := TX2) (N := 14) hx hb hts iwsMX2_fill_in2 hown hK hP 0 rfl rfl 0 (by decide) (hts (.fieldLink RX2 45 "OptimaWorks$NetDesk" "arcs" "I") (by decide +kernel)) (fun _ h9 => h9) rfl dX2_fill_12 ?_
    refine lv_icmp_ge (tgt := 54) hx hb dX2_fill_15 (by decide) (fun c_15 => ?_) (fun c_15 => ?_)
    · have t_15 : l3_x10.toInt ≥ iN_arcs.toInt := toI_ge c_15 rfl rfl
      refine lv_iconst (v := 0) hx hb dX2_fill_54 (by decide) ?_
      refine lv_istore_n hx hb dX2_fill_55 rfl hl (by decide) rfl (fun ls (hl : lv_has ls _ ([(3, .int 0), (0, .ref (hN 0)), (1, .int p1), (2, .int p2)])) => ?_)
      refine lv_iconst (v := 0) hx hb dX2_fill_56 (by decide) ?_
      refine lv_istore hx hb dX2_fill_57 hl (by decide) rfl (fun ls (hl : lv_has ls _ ([(4, .int 0), (3, .int 0), (0, .ref (hN 0)), (1, .int p1), (2, .int p2)])) => ?_)
      have hl : lv_has _ _ ([(4, .int 0), (3, .int 0), (0, .ref (hN 0)), (1, .int p1), (2, .int p2)]) := lv_sub hl [0, 1, 2, 3, 4] rfl
      refine (fun (loop : ∀ (n9 : Nat) (iN_reached_x59 : Int32) (fN_free_x59 : Nat → Int32) (fN_before_x59 : Nat → Int32) (l4_x59 : Int32) (l3_x59 : Int32) (H : Heap) (locs : List Loc) (ls : Array Slot), (∀ q : Nat, 0 ≤ (fN_before_x59 q).toInt ∧ (fN_before_x59 q).toInt ≤ 79) → (0 ≤ l4_x59.toInt ∧ l4_x59.toInt ≤ 1000000) → (mI (iN_arcs.toInt, fN_from, fN_to, fN_room, fN_cost) p1.toInt.toNat p2.toInt.toNat fN_free_x59 l3_x59.toInt) → (0 ≤ l3_x59.toInt ∧ l4_x59.toInt ≤ l3_x59.toInt) → (1000000 - l4_x59.toInt < ((n9 : Nat) : Int)) → va_P (dC, dI) vwCl (WN hN aN kN iN_arcs fN_from fN_to fN_room fN_cost iN_reached_x59 fN_free_x59 fN_before_x59 fN_flow fN_length fN_stop iN_stops fN_price fN_rest) H → va_D A (WN hN aN kN iN_arcs fN_from fN_to fN_room fN_cost iN_reached_x59 fN_free_x59 fN_before_x59 fN_flow fN_length fN_stop iN_stops fN_price fN_rest) → va_S A s.heap H locs → lv_has ls 8 [(4, .int l4_x59), (3, .int l3_x59), (0, .ref (hN 0)), (1, .int p1), (2, .int p2)] → W p l e _ s m _ below meth c H locs 0 0 _ (F0 m 59 ls [])) => loop (1000001) iN_reached fN_free_x10 fN_before 0 0 _ _ _ b_fN_before (show 0 ≤ (0 : Int32).toInt ∧ (0 : Int32).toInt ≤ 1000000 from by decide) (show mI (iN_arcs.toInt, fN_from, fN_to, fN_room, fN_cost) p1.toInt.toNat p2.toInt.toNat fN_free_x10 (0 : Int32).toInt from by rw [show (0 : Int32).toInt = 0 from by decide]; exact mG.done hG (by (try dsimp only); omega)) (show 0 ≤ (0 : Int32).toInt ∧ (0 : Int32).toInt ≤ (0 : Int32).toInt from by decide) ((by have e9 : (0 : Int32).toInt = 0 := (by decide : (0 : Int32).toInt = 0); omega)) hP hD hS hl) ?_
      intro n9
      induction n9 with
      | zero => intro iN_reached_x59 fN_free_x59 fN_before_x59 l4_x59 l3_x59 H locs ls b_fN_before_x59 b_l4_x59 hMI hsm hf9; exact False.elim (by omega)
      | succ n9 ihx59 =>
        intro iN_reached_x59 fN_free_x59 fN_before_x59 l4_x59 l3_x59 H locs ls b_fN_before_x59 b_l4_x59 hMI hsm hfx59 hP hD hS hl
        refine lv_iload hx hb dX2_fill_59 (lv_at hl 0 rfl) ?_
        refine lv_ldc (v := 1000000) hx hb hown (hts (.constant RX2 55 1000000) (by decide +kernel)) dX2_fill_61 ?_
        refine W.cut (pc := 229) (fun H locs ls stk => ∃ (iN_reached_j12 : Int32) (fN_before_j12 : Nat → Int32), (∀ q : Nat, 0 ≤ (fN_before_j12 q).toInt ∧ (fN_before_j12 q).toInt ≤ 79) ∧ (mxF (iN_arcs.toInt, fN_from, fN_to, fN_room, fN_cost) p1.toInt.toNat p2.toInt.toNat l3_x59.toInt ∧ mxC (iN_arcs.toInt, fN_from, fN_to, fN_room, fN_cost) p1.toInt.toNat p2.toInt.toNat iN_reached_j12) ∧  stk = [] ∧ va_P (dC, dI) vwCl (WN hN aN kN iN_arcs fN_from fN_to fN_room fN_cost iN_reached_j12 fN_free_x59 fN_before_j12 fN_flow fN_length fN_stop iN_stops fN_price fN_rest) H ∧ va_D A (WN hN aN kN iN_arcs fN_from fN_to fN_room fN_cost iN_reached_j12 fN_free_x59 fN_before_j12 fN_flow fN_length fN_stop iN_stops fN_price fN_rest) ∧ va_S A s.heap H locs ∧ lv_has ls 8 [(4, .int l4_x59), (3, .int l3_x59), (0, .ref (hN 0)), (1, .int p1), (2, .int p2)]) (fun join12 => ?_) ?_
        · refine lv_icmp_ge (tgt := 229) hx hb dX2_fill_63 (by decide) (fun c_63 => ?_) (fun c_63 => ?_)
          · have t_63 : l4_x59.toInt ≥ 1000000 := toI_ge c_63 rfl (by decide : (1000000 : Int32).toInt = 1000000)
            have hl : lv_has _ _ ([(4, .int l4_x59), (3, .int l3_x59), (0, .ref (hN 0)), (1, .int p1), (2, .int p2)]) := lv_sub hl [0, 1, 2, 3, 4] rfl
            exact join12 _ _ _ _ ⟨iN_reached_x59, fN_before_x59, b_fN_before_x59, (show mxF (iN_arcs.toInt, fN_from, fN_to, fN_room, fN_cost) p1.toInt.toNat p2.toInt.toNat l3_x59.toInt ∧ mxC (iN_arcs.toInt, fN_from, fN_to, fN_room, fN_cost) p1.toInt.toNat p2.toInt.toNat iN_reached_x59 from by first | (exfalso; have h9 := mI.lim hMI hRm (by (try dsimp only); omega) (by (try dsimp only); omega) (by omega); omega) | exact RE.max hMI hRE (hbn t_72) (by omega)), rfl, hP, hD, hS, hl⟩
          · have t_63 : ¬ l4_x59.toInt ≥ 1000000 := toI_nge c_63 rfl (by decide : (1000000 : Int32).toInt = 1000000)
            refine lv_aload_n hx hb dX2_fill_66 rfl (lv_at hl 2 rfl) ?_
            refine lv_iload_n hx hb dX2_fill_67 rfl (lv_at hl 3 rfl) ?_
            refine lv_iload_n hx hb dX2_fill_68 rfl (lv_at hl 4 rfl) ?_
            have hFc := allFree hD hS hA
            refine va_calli (va_runV (As := [.int p1, .int p2]) (rest := []) ⟨hx, hb, hml, hown, hts⟩ (m_X2_reach l dC dI hN aN kN iN_arcs fN_from fN_to fN_room fN_cost iN_reached_x59 fN_free_x59 fN_before_x59 fN_flow fN_length fN_stop iN_stops fN_price fN_rest p1 p2 (b_iN_arcs) b_fN_from b_fN_to b_fN_before_x59 b_fN_stop (b_iN_stops) (b_p1) (b_p2) H.size) (cwV 2 hts gwsMX2_fill_1 rfl rfl rfl hd_yX2_reach_RX2 (by decide +kernel)) (fz_pre (va_recv hK hP (ci := 2) (q0 := 0) rfl rfl) hP hK hD) rfl rfl hl.1 rfl (lv_room (Nat.le_of_ble_eq_true rfl)) dX2_fill_69 (by decide +kernel)) hS (fun q _ h => hFc q h) hFc (fun r4799 u t9_ H locs ht hvm hw9 hB9 hz1 hk1 hS => ?_)
            revert u hw9 hB9
            refine fz_p2 ?_
            intro iN_reached_4799 fN_before_4799 hw9 hB9
            try dsimp only at hw9 hB9
            revert hw9
            refine fz_a6 ?_
            intro b_fN_before_4799 b_r4799 f4799_0 f4799_1 f4799_2 f4799_3
            have hP : va_P (dC, dI) vwCl (WN hN aN kN iN_arcs fN_from fN_to fN_room fN_cost iN_reached_4799 fN_free_x59 fN_before_4799 fN_flow fN_length fN_stop iN_stops fN_price fN_rest) H := fz_P ht hB9.1
            have hD := fz_sd hP (hB9.2.weaken (fun _ q _ h => hFc q.1 h)) rfl
            have hRB := f4799_0
            have hbt := f4799_1
            have hRE := f4799_2
            have hbn := f4799_3
            refine lv_if_eq (tgt := 229) hx hb dX2_fill_72 (by decide) (fun c_72 => ?_) (fun c_72 => ?_)
            · have t_72 : r4799.toInt = 0 := toI_eq c_72 rfl (by decide : (0 : Int32).toInt = 0)
              have hl : lv_has _ _ ([(4, .int l4_x59), (3, .int l3_x59), (0, .ref (hN 0)), (1, .int p1), (2, .int p2)]) := lv_sub hl [0, 1, 2, 3, 4] rfl
              exact join12 _ _ _ _ ⟨iN_reached_4799, fN_before_4799, b_fN_before_4799, (show mxF (iN_arcs.toInt, fN_from, fN_to, fN_room, fN_cost) p1.toInt.toNat p2.toInt.toNat l3_x59.toInt ∧ mxC (iN_arcs.toInt, fN_from, fN_to, fN_room, fN_cost) p1.toInt.toNat p2.toInt.toNat iN_reached_4799 from by first | (exfalso; have h9 := mI.lim hMI hRm (by (try dsimp only); omega) (by (try dsimp only); omega) (by omega); omega) | exact RE.max hMI hRE (hbn t_72) (by omega)), rfl, hP, hD, hS, hl⟩
            · have t_72 : ¬ r4799.toInt = 0 := toI_neq c_72 rfl (by decide : (0 : Int32).toInt = 0)
              obtain ⟨⟨lev, hL⟩, hCl⟩ := hRE
              have hv40 := mI.lim hMI hRm (by (try dsimp only); omega) (by (try dsimp only); omega) (by omega)
              refine lv_ldc (v := 536870912) hx hb hown (hts (.constant RX2 60 536870912) (by decide +kernel)) dX2_fill_75 ?_
              refine lv_istore hx hb dX2_fill_77 hl (by decide) rfl (fun ls (hl : lv_has ls _ ([(5, .int 536870912), (4, .int l4_x59), (3, .int l3_x59), (0, .ref (hN 0)), (1, .int p1), (2, .int p2)])) => ?_)
              refine lv_iload_n hx hb dX2_fill_79 rfl (lv_at hl 5 rfl) ?_
              refine lv_istore hx hb dX2_fill_80 hl (by decide) rfl (fun ls (hl : lv_has ls _ ([(6, .int p2), (5, .int 536870912), (4, .int l4_x59), (3, .int l3_x59), (0, .ref (hN 0)), (1, .int p1), (2, .int p2)])) => ?_)
              refine lv_iconst (v := 0) hx hb dX2_fill_82 (by decide) ?_
              refine lv_istore hx hb dX2_fill_83 hl (by decide) rfl (fun ls (hl : lv_has ls _ ([(7, .int 0), (6, .int p2), (5, .int 536870912), (4, .int l4_x59), (3, .int l3_x59), (0, .ref (hN 0)), (1, .int p1), (2, .int p2)])) => ?_)
              have hl : lv_has _ _ ([(7, .int 0), (6, .int p2), (5, .int 536870912), (4, .int l4_x59), (3, .int l3_x59), (0, .ref (hN 0)), (1, .int p1), (2, .int p2)]) := lv_sub hl [0, 1, 2, 3, 4, 5, 6, 7] rfl
              refine (fun (loop : ∀ (n9 : Nat) (l7_x85 : Int32) (l6_x85 : Int32) (l5_x85 : Int32) (H : Heap) (locs : List Loc) (ls : Array Slot), (0 ≤ l7_x85.toInt ∧ l7_x85.toInt ≤ 12) → (0 ≤ l6_x85.toInt ∧ l6_x85.toInt ≤ 11) → (bt iN_reached_4799 l6_x85.toInt.toNat = true) → (Wk1 p2.toInt.toNat fN_free_x59 fN_before_4799 iN_reached_4799 lev l7_x85.toInt.toNat l6_x85.toInt.toNat l5_x85.toInt) → (12 - l7_x85.toInt < ((n9 : Nat) : Int)) → va_P (dC, dI) vwCl (WN hN aN kN iN_arcs fN_from fN_to fN_room fN_cost iN_reached_4799 fN_free_x59 fN_before_4799 fN_flow fN_length fN_stop iN_stops fN_price fN_rest) H → va_D A (WN hN aN kN iN_arcs fN_from fN_to fN_room fN_cost iN_reached_4799 fN_free_x59 fN_before_4799 fN_flow fN_length fN_stop iN_stops fN_price fN_rest) → va_S A s.heap H locs → lv_has ls 8 [(7, .int l7_x85), (6, .int l6_x85), (5, .int l5_x85), (4, .int l4_x59), (3, .int l3_x59), (0, .ref (hN 0)), (1, .int p1), (2, .int p2)] → W p l e _ s m _ below meth c H locs 0 0 _ (F0 m 85 ls [])) => loop (13) 0 p2 536870912 _ _ _ (show 0 ≤ (0 : Int32).toInt ∧ (0 : Int32).toInt ≤ 12 from by decide) (b_p2) (show bt iN_reached_4799 p2.toInt.toNat = true from hbt t_72) (show Wk1 p2.toInt.toNat fN_free_x59 fN_before_4799 iN_reached_4799 lev (0 : Int32).toInt.toNat p2.toInt.toNat (536870912 : Int32).toInt from Wk1.start hL (by omega) (hbt t_72) (by decide) rfl (by decide)) ((by have e9 : (0 : Int32).toInt = 0 := (by decide : (0 : Int32).toInt = 0); omega)) hP hD hS hl) ?_
              intro n9
              induction n9 with
              | zero => intro l7_x85 l6_x85 l5_x85 H locs ls b_l7_x85 b_l6_x85 hnd hW1 hf9; exact False.elim (by omega)
              | succ n9 ihx85 =>
                intro l7_x85 l6_x85 l5_x85 H locs ls b_l7_x85 b_l6_x85 hnd hW1 hfx85 hP hD hS hl
                refine lv_iload hx hb dX2_fill_85 (lv_at hl 1 rfl) ?_
                refine lv_iload_n hx hb dX2_fill_87 rfl (lv_at hl 6 rfl) ?_
                refine lv_icmp_eq (tgt := 138) hx hb dX2_fill_88 (by decide) (fun c_88 => ?_) (fun c_88 => ?_)
                · have t_88 : l6_x85.toInt = p1.toInt := toI_eq c_88 rfl rfl
                  have hms : l6_x85.toInt.toNat = p1.toInt.toNat := (by rw [t_88])
                  have hw1 := hW1.2.2.2.2.1
                  have hw80 := hW1.w80 hL (hbt t_72) (by omega) hMI hRm (by (try dsimp only); omega) (by (try dsimp only); omega) hsm.1 hv40 hms (by omega)
                  refine lv_iload_n hx hb dX2_fill_138 rfl (lv_at hl 7 rfl) ?_
                  refine lv_istore hx hb dX2_fill_139 hl (by decide) rfl (fun ls (hl : lv_has ls _ ([(6, .int p2), (7, .int l7_x85), (5, .int l5_x85), (4, .int l4_x59), (3, .int l3_x59), (0, .ref (hN 0)), (1, .int p1), (2, .int p2)])) => ?_)
                  refine lv_iconst (v := 0) hx hb dX2_fill_141 (by decide) ?_
                  refine lv_istore hx hb dX2_fill_142 hl (by decide) rfl (fun ls (hl : lv_has ls _ ([(7, .int 0), (6, .int p2), (5, .int l5_x85), (4, .int l4_x59), (3, .int l3_x59), (0, .ref (hN 0)), (1, .int p1), (2, .int p2)])) => ?_)
                  have hl : lv_has _ _ ([(7, .int 0), (6, .int p2), (5, .int l5_x85), (4, .int l4_x59), (3, .int l3_x59), (0, .ref (hN 0)), (1, .int p1), (2, .int p2)]) := lv_sub hl [0, 1, 2, 3, 4, 5, 6, 7] rfl
                  refine (fun (loop : ∀ (n9 : Nat) (fN_free_x144 : Nat → Int32) (l7_x144 : Int32) (l6_x144 : Int32) (H : Heap) (locs : List Loc) (ls : Array Slot), (0 ≤ l7_x144.toInt ∧ l7_x144.toInt ≤ 12) → (0 ≤ l6_x144.toInt ∧ l6_x144.toInt ≤ 11) → (bt iN_reached_4799 l6_x144.toInt.toNat = true) → (Wk2 p2.toInt.toNat fN_free_x59 fN_before_4799 fN_free_x144 iN_reached_4799 lev l5_x85.toInt l7_x85.toInt.toNat l7_x144.toInt.toNat l6_x144.toInt.toNat) → (12 - l7_x144.toInt < ((n9 : Nat) : Int)) → va_P (dC, dI) vwCl (WN hN aN kN iN_arcs fN_from fN_to fN_room fN_cost iN_reached_4799 fN_free_x144 fN_before_4799 fN_flow fN_length fN_stop iN_stops fN_price fN_rest) H → va_D A (WN hN aN kN iN_arcs fN_from fN_to fN_room fN_cost iN_reached_4799 fN_free_x144 fN_before_4799 fN_flow fN_length fN_stop iN_stops fN_price fN_rest) → va_S A s.heap H locs → lv_has ls 8 [(7, .int l7_x144), (6, .int l6_x144), (5, .int l5_x85), (4, .int l4_x59), (3, .int l3_x59), (0, .ref (hN 0)), (1, .int p1), (2, .int p2)] → W p l e _ s m _ below meth c H locs 0 0 _ (F0 m 144 ls [])) => loop (13) fN_free_x59 0 p2 _ _ _ (show 0 ≤ (0 : Int32).toInt ∧ (0 : Int32).toInt ≤ 12 from by decide) (b_p2) (show bt iN_reached_4799 p2.toInt.toNat = true from hbt t_72) (show Wk2 p2.toInt.toNat fN_free_x59 fN_before_4799 fN_free_x59 iN_reached_4799 lev l5_x85.toInt l7_x85.toInt.toNat (0 : Int32).toInt.toNat p2.toInt.toNat from Wk2.start hL (by omega) (hbt t_72) hMI.1 (by decide) rfl) ((by have e9 : (0 : Int32).toInt = 0 := (by decide : (0 : Int32).toInt = 0); omega)) hP hD hS hl) ?_
                  intro n9
                  induction n9 with
                  | zero => intro fN_free_x144 l7_x144 l6_x144 H locs ls b_l7_x144 b_l6_x144 hnd hW2 hf9; exact False.elim (by omega)
                  | succ n9 ihx144 =>
                    intro fN_free_x144 l7_x144 l6_x144 H locs ls b_l7_x144 b_l6_x144 hnd hW2 hfx144 hP hD hS hl
                    refine lv_iload hx hb dX2_fill_144 (lv_at hl 1 rfl) ?_
                    refine lv_iload_n hx hb dX2_fill_146 rfl (lv_at hl 6 rfl) ?_
                    refine lv_icmp_eq (tgt := 218) hx hb dX2_fill_147 (by decide) (fun c_147 => ?_) (fun c_147 => ?_)
                    · have t_147 : l6_x144.toInt = p1.toInt := toI_eq c_147 rfl rfl
                      refine lv_iload_n hx hb dX2_fill_218 rfl (lv_at hl 4 rfl) ?_
                      refine lv_iload hx hb dX2_fill_219 (lv_at hl 2 rfl) ?_
                      refine lv_iadd hx hb dX2_fill_221 ?_
                      refine lv_topi (fun y5059 hy5059 => ?_)
                      obtain rfl : (iI (l3_x59.toInt + l5_x85.toInt)) = y5059 := (hy5059.trans (iI_add2 (iI_of _) (iI_of _))).symm
                      refine lv_istore_n hx hb dX2_fill_222 rfl hl (by decide) rfl (fun ls (hl : lv_has ls _ ([(3, .int (iI (l3_x59.toInt + l5_x85.toInt))), (7, .int l7_x144), (6, .int l6_x144), (5, .int l5_x85), (4, .int l4_x59), (0, .ref (hN 0)), (1, .int p1), (2, .int p2)])) => ?_)
                      refine lv_iinc (v := (iI (l4_x59.toInt + 1))) hx hb dX2_fill_223 hl (k := 4) rfl (iI_add2 (iI_of _) (by decide : (1 : Int32) = iI 1)) (by decide) rfl (fun ls (hl : lv_has ls _ ([(4, .int (iI (l4_x59.toInt + 1))), (3, .int (iI (l3_x59.toInt + l5_x85.toInt))), (7, .int l7_x144), (6, .int l6_x144), (5, .int l5_x85), (0, .ref (hN 0)), (1, .int p1), (2, .int p2)])) => ?_)
                      refine lv_goto (tgt := 59) hx hb dX2_fill_226 (by decide) ?_
                      have hl : lv_has _ _ ([(4, .int (iI (l4_x59.toInt + 1))), (3, .int (iI (l3_x59.toInt + l5_x85.toInt))), (0, .ref (hN 0)), (1, .int p1), (2, .int p2)]) := lv_sub hl [0, 1, 5, 6, 7] rfl
                      exact ihx59 iN_reached_4799 fN_free_x144 fN_before_4799 (iI (l4_x59.toInt + 1)) (iI (l3_x59.toInt + l5_x85.toInt)) _ _ _ b_fN_before_4799 (iI_rng (Int.le_trans (by decide) (Int.add_le_add (b_l4_x59.1) (Int.le_refl _))) (by omega) (by decide) (by decide)) (show mI (iN_arcs.toInt, fN_from, fN_to, fN_room, fN_cost) p1.toInt.toNat p2.toInt.toNat fN_free_x144 (iI (l3_x59.toInt + l5_x85.toInt)).toInt from Wk2.done hW2 hMI (by omega) (iI_t (by omega) (by omega))) (show 0 ≤ (iI (l3_x59.toInt + l5_x85.toInt)).toInt ∧ (iI (l4_x59.toInt + 1)).toInt ≤ (iI (l3_x59.toInt + l5_x85.toInt)).toInt from by rw [iI_t (by omega) (by omega), iI_t (by omega) (by omega)]; omega) (by have e9 : ((iI (l4_x59.toInt + 1))).toInt = (l4_x59.toInt + 1) := (iI_t (Int.le_trans (by decide) (Int.add_le_add (b_l4_x59.1) (Int.le_refl _))) (Int.le_trans (Int.add_le_add (b_l4_x59.2) (Int.le_refl _)) (by decide))); omega) hP hD hS hl
                    · have t_147 : ¬ l6_x144.toInt = p1.toInt := toI_neq c_147 rfl rfl
                      have hst9 := hW2.2.2.2.1
                      refine lv_iload hx hb dX2_fill_150 (lv_at hl 0 rfl) ?_
                      refine lv_bipush (v := 12) hx hb dX2_fill_152 (by decide) ?_
                      refine lv_icmp_ge (tgt := 218) hx hb dX2_fill_154 (by decide) (fun c9 => False.elim (by have t9 : l7_x144.toInt ≥ 12 := toI_ge c9 rfl (by decide : (12 : Int32).toInt = 12); omega)) (fun c_154 => ?_)
                      have t_154 : ¬ l7_x144.toInt ≥ 12 := toI_nge c_154 rfl (by decide : (12 : Int32).toInt = 12)
                      refine lv_aload_n hx hb dX2_fill_157 rfl (lv_at hl 5 rfl) ?_
                      refine va_get (D := (dC, dI)) (ci := 2) (v := .ref (aN 4)) (C := RX2) (T := TX2) (N := 14) hx hb hts iwsMX2_fill_in2 hown hK hP 0 rfl rfl 6 (by decide) (hts _ hm_m_X2_fill_0) (fun _ h9 => h9) rfl dX2_fill_158 ?_
                      refine lv_aload_n hx hb dX2_fill_161 rfl (lv_at hl 5 rfl) ?_
                      refine va_get (D := (dC, dI)) (ci := 2) (v := .ref (aN 5)) (C := RX2) (T := TX2) (N := 14) hx hb hts iwsMX2_fill_in2 hown hK hP 0 rfl rfl 7 (by decide) (hts _ hm_m_X2_fill_1) (fun _ h9 => h9) rfl dX2_fill_162 ?_
                      refine lv_iload hx hb dX2_fill_165 (lv_at hl 1 rfl) ?_
                      refine va_iald (cA := kN 5) (n := 12) (f := fN_before_4799) hx hb hK hP 6 5 rfl rfl (vp_in_iff.mpr ⟨b_l6_x144.1, (Int.lt_of_le_of_lt (b_l6_x144.2) (by decide))⟩) dX2_fill_167 ?_
                      refine lv_topi (fun v5060 hv5060 => ?_)
                      have b_v5060 : 0 ≤ v5060.toInt ∧ v5060.toInt ≤ 11 ∧ bt iN_reached_4799 v5060.toInt.toNat = true := by rw [hv5060]; exact RB.at hRB (by omega) (by omega) hnd t_147
                      have b1_v5060 : v5060 = fN_before_4799 (l6_x144).toNatClampNeg := hv5060
                      clear hv5060
                      refine lv_bipush (v := 12) hx hb dX2_fill_168 (by decide) ?_
                      refine lv_imul hx hb dX2_fill_170 ?_
                      refine lv_topi (fun y5061 hy5061 => ?_)
                      obtain rfl : (iI (v5060.toInt * 12)) = y5061 := (hy5061.trans (iI_mul2 (iI_of _) (by decide : (12 : Int32) = iI 12))).symm
                      refine lv_iload hx hb dX2_fill_171 (lv_at hl 1 rfl) ?_
                      refine lv_iadd hx hb dX2_fill_173 ?_
                      refine lv_topi (fun y5062 hy5062 => ?_)
                      obtain rfl : (iI ((v5060.toInt * 12) + l6_x144.toInt)) = y5062 := (hy5062.trans (iI_add2 rfl (iI_of _))).symm
                      refine lv_dup2_11 hx hb dX2_fill_174 rfl rfl ?_
                      refine va_iald (cA := kN 4) (n := 144) (f := fN_free_x144) hx hb hK hP 5 4 rfl rfl (vp_iI (by omega) (by omega) (by decide)) dX2_fill_175 ?_
                      refine lv_topi (fun v5063 hv5063 => ?_)
                      have b_v5063 : v5063 = fN_free_x144 ((iI ((v5060.toInt * 12) + l6_x144.toInt))).toNatClampNeg := hv5063
                      clear hv5063
                      refine lv_iload hx hb dX2_fill_176 (lv_at hl 2 rfl) ?_
                      refine lv_isub hx hb dX2_fill_178 ?_
                      refine lv_topi (fun y5064 hy5064 => ?_)
                      obtain rfl : (iI (v5063.toInt - l5_x85.toInt)) = y5064 := (hy5064.trans (iI_sub2 (iI_of _) (iI_of _))).symm
                      refine va_iast (cA := kN 4) (n := 144) (f := fN_free_x144) hx hb hK hP hD hS 5 4 rfl rfl (vp_iI (by omega) (by omega) (by decide)) dX2_fill_179 (fun H locs hP hD hS => ?_)
                      obtain ⟨u5065, hu5065⟩ : ∃ f9, f9 = upd fN_free_x144 ((iI ((v5060.toInt * 12) + l6_x144.toInt))).toNatClampNeg (iI (v5063.toInt - l5_x85.toInt)) := ⟨_, rfl⟩
                      have hP : va_P (dC, dI) vwCl (WN hN aN kN iN_arcs fN_from fN_to fN_room fN_cost iN_reached_4799 u5065 fN_before_4799 fN_flow fN_length fN_stop iN_stops fN_price fN_rest) H := by rw [hu5065]; exact hP
                      have hD : va_D A (WN hN aN kN iN_arcs fN_from fN_to fN_room fN_cost iN_reached_4799 u5065 fN_before_4799 fN_flow fN_length fN_stop iN_stops fN_price fN_rest) := by rw [hu5065]; exact hD
                      have b_u5065 : u5065 = upd fN_free_x144 ((iI ((v5060.toInt * 12) + l6_x144.toInt))).toNatClampNeg (iI (v5063.toInt - l5_x85.toInt)) := hu5065
                      clear hu5065
                      refine lv_aload_n hx hb dX2_fill_180 rfl (lv_at hl 5 rfl) ?_
                      refine va_get (D := (dC, dI)) (ci := 2) (v := .ref (aN 4)) (C := RX2) (T := TX2) (N := 14) hx hb hts iwsMX2_fill_in2 hown hK hP 0 rfl rfl 6 (by decide) (hts _ hm_m_X2_fill_0) (fun _ h9 => h9) rfl dX2_fill_181 ?_
                      refine lv_iload hx hb dX2_fill_184 (lv_at hl 1 rfl) ?_
                      refine lv_bipush (v := 12) hx hb dX2_fill_186 (by decide) ?_
                      refine lv_imul hx hb dX2_fill_188 ?_
                      refine lv_topi (fun y5066 hy5066 => ?_)
                      obtain rfl : (iI (l6_x144.toInt * 12)) = y5066 := (hy5066.trans (iI_mul2 (iI_of _) (by decide : (12 : Int32) = iI 12))).symm
                      refine lv_aload_n hx hb dX2_fill_189 rfl (lv_at hl 5 rfl) ?_
                      refine va_get (D := (dC, dI)) (ci := 2) (v := .ref (aN 5)) (C := RX2) (T := TX2) (N := 14) hx hb hts iwsMX2_fill_in2 hown hK hP 0 rfl rfl 7 (by decide) (hts _ hm_m_X2_fill_1) (fun _ h9 => h9) rfl dX2_fill_190 ?_
                      refine lv_iload hx hb dX2_fill_193 (lv_at hl 1 rfl) ?_
                      refine va_iald (cA := kN 5) (n := 12) (f := fN_before_4799) hx hb hK hP 6 5 rfl rfl (vp_in_iff.mpr ⟨b_l6_x144.1, (Int.lt_of_le_of_lt (b_l6_x144.2) (by decide))⟩) dX2_fill_195 ?_
                      refine lv_topi (fun v5067 hv5067 => ?_)
                      have b_v5067 : 0 ≤ v5067.toInt ∧ v5067.toInt ≤ 11 ∧ bt iN_reached_4799 v5067.toInt.toNat = true := by rw [hv5067]; exact RB.at hRB (by omega) (by omega) hnd t_147
                      have b1_v5067 : v5067 = fN_before_4799 (l6_x144).toNatClampNeg := hv5067
                      clear hv5067
                      refine lv_iadd hx hb dX2_fill_196 ?_
                      refine lv_topi (fun y5068 hy5068 => ?_)
                      obtain rfl : (iI ((l6_x144.toInt * 12) + v5067.toInt)) = y5068 := (hy5068.trans (iI_add2 rfl (iI_of _))).symm
                      refine lv_dup2_11 hx hb dX2_fill_197 rfl rfl ?_
                      refine va_iald (cA := kN 4) (n := 144) (f := u5065) hx hb hK hP 5 4 rfl rfl (vp_iI (by omega) (by omega) (by decide)) dX2_fill_198 ?_
                      refine lv_topi (fun v5069 hv5069 => ?_)
                      have b_v5069 : v5069 = u5065 ((iI ((l6_x144.toInt * 12) + v5067.toInt))).toNatClampNeg := hv5069
                      clear hv5069
                      refine lv_iload hx hb dX2_fill_199 (lv_at hl 2 rfl) ?_
                      refine lv_iadd hx hb dX2_fill_201 ?_
                      refine lv_topi (fun y5070 hy5070 => ?_)
                      obtain rfl : (iI (v5069.toInt + l5_x85.toInt)) = y5070 := (hy5070.trans (iI_add2 (iI_of _) (iI_of _))).symm
                      refine va_iast (cA := kN 4) (n := 144) (f := u5065) hx hb hK hP hD hS 5 4 rfl rfl (vp_iI (by omega) (by omega) (by decide)) dX2_fill_202 (fun H locs hP hD hS => ?_)
                      obtain ⟨u5071, hu5071⟩ : ∃ f9, f9 = upd u5065 ((iI ((l6_x144.toInt * 12) + v5067.toInt))).toNatClampNeg (iI (v5069.toInt + l5_x85.toInt)) := ⟨_, rfl⟩
                      have hP : va_P (dC, dI) vwCl (WN hN aN kN iN_arcs fN_from fN_to fN_room fN_cost iN_reached_4799 u5071 fN_before_4799 fN_flow fN_length fN_stop iN_stops fN_price fN_rest) H := by rw [hu5071]; exact hP
                      have hD : va_D A (WN hN aN kN iN_arcs fN_from fN_to fN_room fN_cost iN_reached_4799 u5071 fN_before_4799 fN_flow fN_length fN_stop iN_stops fN_price fN_rest) := by rw [hu5071]; exact hD
                      have b_u5071 : u5071 = upd u5065 ((iI ((l6_x144.toInt * 12) + v5067.toInt))).toNatClampNeg (iI (v5069.toInt + l5_x85.toInt)) := hu5071
                      clear hu5071
                      refine lv_aload_n hx hb dX2_fill_203 rfl (lv_at hl 5 rfl) ?_
                      refine va_get (D := (dC, dI)) (ci := 2) (v := .ref (aN 5)) (C := RX2) (T := TX2) (N := 14) hx hb hts iwsMX2_fill_in2 hown hK hP 0 rfl rfl 7 (by decide) (hts _ hm_m_X2_fill_1) (fun _ h9 => h9) rfl dX2_fill_204 ?_
                      refine lv_iload hx hb dX2_fill_207 (lv_at hl 1 rfl) ?_
                      refine va_iald (cA := kN 5) (n := 12) (f := fN_before_4799) hx hb hK hP 6 5 rfl rfl (vp_in_iff.mpr ⟨b_l6_x144.1, (Int.lt_of_le_of_lt (b_l6_x144.2) (by decide))⟩) dX2_fill_209 ?_
                      refine lv_topi (fun v5072 hv5072 => ?_)
                      have b_v5072 : 0 ≤ v5072.toInt ∧ v5072.toInt ≤ 11 ∧ bt iN_reached_4799 v5072.toInt.toNat = true := by rw [hv5072]; exact RB.at hRB (by omega) (by omega) hnd t_147
                      have b1_v5072 : v5072 = fN_before_4799 (l6_x144).toNatClampNeg := hv5072
                      clear hv5072
                      refine lv_istore hx hb dX2_fill_210 hl (by decide) rfl (fun ls (hl : lv_has ls _ ([(6, .int v5072), (7, .int l7_x144), (5, .int l5_x85), (4, .int l4_x59), (3, .int l3_x59), (0, .ref (hN 0)), (1, .int p1), (2, .int p2)])) => ?_)
                      refine lv_iinc (v := (iI (l7_x144.toInt + 1))) hx hb dX2_fill_212 hl (k := 1) rfl (iI_add2 (iI_of _) (by decide : (1 : Int32) = iI 1)) (by decide) rfl (fun ls (hl : lv_has ls _ ([(7, .int (iI (l7_x144.toInt + 1))), (6, .int v5072), (5, .int l5_x85), (4, .int l4_x59), (3, .int l3_x59), (0, .ref (hN 0)), (1, .int p1), (2, .int p2)])) => ?_)
                      refine lv_goto (tgt := 144) hx hb dX2_fill_215 (by decide) ?_
                      have hl : lv_has _ _ ([(7, .int (iI (l7_x144.toInt + 1))), (6, .int v5072), (5, .int l5_x85), (4, .int l4_x59), (3, .int l3_x59), (0, .ref (hN 0)), (1, .int p1), (2, .int p2)]) := lv_sub hl [0, 1, 2, 3, 4, 5, 6, 7] rfl
                      exact ihx144 u5071 (iI (l7_x144.toInt + 1)) v5072 _ _ _ (iI_rng (Int.le_trans (by decide) (Int.add_le_add (b_l7_x144.1) (Int.le_refl _))) (by omega) (by decide) (by decide)) (by first | exact b_v5072 | with_reducible assumption | exact ⟨by omega, by omega⟩ | assumption) (show bt iN_reached_4799 v5072.toInt.toNat = true from b_v5072.2.2) (show Wk2 p2.toInt.toNat fN_free_x59 fN_before_4799 u5071 iN_reached_4799 lev l5_x85.toInt l7_x85.toInt.toNat (iI (l7_x144.toInt + 1)).toInt.toNat v5072.toInt.toNat from by have hns : l6_x144.toInt.toNat ≠ p1.toInt.toNat := (by omega); have ea : v5060.toInt.toNat = (fN_before_4799 l6_x144.toInt.toNat).toInt.toNat := (by rw [b1_v5060]; rfl); have eb : v5067.toInt.toNat = (fN_before_4799 l6_x144.toInt.toNat).toInt.toNat := (by rw [b1_v5067]; rfl); have ec : v5072.toInt.toNat = (fN_before_4799 l6_x144.toInt.toNat).toInt.toNat := (by rw [b1_v5072]; rfl); have hat := hW2.at hL hns; have hwd := hW2.wid hL hW1 hms hns; have ha1 := hat.1; rw [← ec] at ha1 hat hwd; have hpn : v5072.toInt.toNat ≠ l6_x144.toInt.toNat := (fun e9 => by have h9 := hat.2.2.2.1; rw [e9] at h9; omega); have hhi := hW2.hi hMI hRm (by (try dsimp only); omega) (by (try dsimp only); omega) hsm.1 hv40 (by omega) ha1 hpn; have hlo := hW2.2.2.2.2.2.1 (12 * l6_x144.toInt.toNat + v5072.toInt.toNat) (by omega); have ei1 : ((iI ((v5060.toInt * 12) + l6_x144.toInt))).toNatClampNeg = 12 * v5072.toInt.toNat + l6_x144.toInt.toNat := (by rw [ec, ← ea]; show (iI (v5060.toInt * 12 + l6_x144.toInt)).toInt.toNat = _; rw [iI_t (by omega) (by omega)]; omega); have ei2 : ((iI ((l6_x144.toInt * 12) + v5067.toInt))).toNatClampNeg = 12 * l6_x144.toInt.toNat + v5072.toInt.toNat := (by rw [ec, ← eb]; show (iI (l6_x144.toInt * 12 + v5067.toInt)).toInt.toNat = _; rw [iI_t (by omega) (by omega)]; omega); have hg9 : l5_x85.toInt ≤ v5063.toInt := (by rw [b_v5063, ei1]; exact hwd); have hl9 := Int32.toInt_lt v5063; have hy9 : v5069 = fN_free_x144 (12 * l6_x144.toInt.toNat + v5072.toInt.toNat) := (by rw [b_v5069, b_u5065, ei2]; exact if_neg (by rw [ei1]; omega)); rw [← hy9] at hhi hlo; exact Wk2.step hW2 hL hW1 hms hns ec (by rw [iI_t (by omega) (by omega)]; omega) ei1 ei2 b_u5065 (by rw [← b_v5063]; exact iI_t (by omega) (by omega)) b_u5071 (by rw [← b_v5069]; exact iI_t (by omega) (by omega))) (by have e9 : ((iI (l7_x144.toInt + 1))).toInt = (l7_x144.toInt + 1) := (iI_t (Int.le_trans (by decide) (Int.add_le_add (b_l7_x144.1) (Int.le_refl _))) (Int.le_trans (Int.add_le_add (b_l7_x144.2) (Int.le_refl _)) (by decide))); omega) hP hD hS hl
                · have t_88 : ¬ l6_x85.toInt = p1.toInt := toI_neq c_88 rfl rfl
                  have hst9 := hW1.2.2.2.1
                  refine lv_iload hx hb dX2_fill_91 (lv_at hl 0 rfl) ?_
                  refine lv_bipush (v := 12) hx hb dX2_fill_93 (by decide) ?_
                  refine lv_icmp_ge (tgt := 138) hx hb dX2_fill_95 (by decide) (fun c9 => False.elim (by have t9 : l7_x85.toInt ≥ 12 := toI_ge c9 rfl (by decide : (12 : Int32).toInt = 12); omega)) (fun c_95 => ?_)
                  have t_95 : ¬ l7_x85.toInt ≥ 12 := toI_nge c_95 rfl (by decide : (12 : Int32).toInt = 12)
                  refine lv_iload hx hb dX2_fill_98 (lv_at hl 2 rfl) ?_
                  refine lv_aload_n hx hb dX2_fill_100 rfl (lv_at hl 5 rfl) ?_
                  refine va_get (D := (dC, dI)) (ci := 2) (v := .ref (aN 4)) (C := RX2) (T := TX2) (N := 14) hx hb hts iwsMX2_fill_in2 hown hK hP 0 rfl rfl 6 (by decide) (hts _ hm_m_X2_fill_0) (fun _ h9 => h9) rfl dX2_fill_101 ?_
                  refine lv_aload_n hx hb dX2_fill_104 rfl (lv_at hl 5 rfl) ?_
                  refine va_get (D := (dC, dI)) (ci := 2) (v := .ref (aN 5)) (C := RX2) (T := TX2) (N := 14) hx hb hts iwsMX2_fill_in2 hown hK hP 0 rfl rfl 7 (by decide) (hts _ hm_m_X2_fill_1) (fun _ h9 => h9) rfl dX2_fill_105 ?_
                  refine lv_iload hx hb dX2_fill_108 (lv_at hl 1 rfl) ?_
                  refine va_iald (cA := kN 5) (n := 12) (f := fN_before_4799) hx hb hK hP 6 5 rfl rfl (vp_in_iff.mpr ⟨b_l6_x85.1, (Int.lt_of_le_of_lt (b_l6_x85.2) (by decide))⟩) dX2_fill_110 ?_
                  refine lv_topi (fun v5073 hv5073 => ?_)
                  have b_v5073 : 0 ≤ v5073.toInt ∧ v5073.toInt ≤ 11 ∧ bt iN_reached_4799 v5073.toInt.toNat = true := by rw [hv5073]; exact RB.at hRB (by omega) (by omega) hnd t_88
                  have b1_v5073 : v5073 = fN_before_4799 (l6_x85).toNatClampNeg := hv5073
                  clear hv5073
                  refine lv_bipush (v := 12) hx hb dX2_fill_111 (by decide) ?_
                  refine lv_imul hx hb dX2_fill_113 ?_
                  refine lv_topi (fun y5074 hy5074 => ?_)
                  obtain rfl : (iI (v5073.toInt * 12)) = y5074 := (hy5074.trans (iI_mul2 (iI_of _) (by decide : (12 : Int32) = iI 12))).symm
                  refine lv_iload hx hb dX2_fill_114 (lv_at hl 1 rfl) ?_
                  refine lv_iadd hx hb dX2_fill_116 ?_
                  refine lv_topi (fun y5075 hy5075 => ?_)
                  obtain rfl : (iI ((v5073.toInt * 12) + l6_x85.toInt)) = y5075 := (hy5075.trans (iI_add2 rfl (iI_of _))).symm
                  refine va_iald (cA := kN 4) (n := 144) (f := fN_free_x59) hx hb hK hP 5 4 rfl rfl (vp_iI (by omega) (by omega) (by decide)) dX2_fill_117 ?_
                  refine lv_topi (fun v5076 hv5076 => ?_)
                  have b_v5076 : v5076 = fN_free_x59 ((iI ((v5073.toInt * 12) + l6_x85.toInt))).toNatClampNeg := hv5076
                  clear hv5076
                  refine va_mmin hx hb (by rw [hml]; exact hl.1.symm) hown (hts (.methodLink RX2 61 Lib.Math.min.name) (by decide +kernel)) (hts (.static Lib.Math.min.name) (by decide +kernel)) (hts (.initialized "java/lang/Math") (by decide +kernel)) (hts (.code Lib.Math.min.name Lib.Math.min.code 2 (some .int)) (by decide +kernel)) (by decide +kernel) (Nat.le_of_ble_eq_true rfl) (by decide +kernel) (by decide +kernel) dX2_fill_118 ?_
                  refine lv_topi (fun v5077 hv5077 => ?_)
                  have b_v5077 : (v5077.toInt ≤ l5_x85.toInt ∧ v5077.toInt ≤ v5076.toInt) ∧ (v5077.toInt = l5_x85.toInt ∨ v5077.toInt = v5076.toInt) := by rw [hv5077]; exact min_t rfl rfl
                  clear hv5077
                  refine lv_istore hx hb dX2_fill_121 hl (by decide) rfl (fun ls (hl : lv_has ls _ ([(5, .int v5077), (7, .int l7_x85), (6, .int l6_x85), (4, .int l4_x59), (3, .int l3_x59), (0, .ref (hN 0)), (1, .int p1), (2, .int p2)])) => ?_)
                  refine lv_aload_n hx hb dX2_fill_123 rfl (lv_at hl 5 rfl) ?_
                  refine va_get (D := (dC, dI)) (ci := 2) (v := .ref (aN 5)) (C := RX2) (T := TX2) (N := 14) hx hb hts iwsMX2_fill_in2 hown hK hP 0 rfl rfl 7 (by decide) (hts _ hm_m_X2_fill_1) (fun _ h9 => h9) rfl dX2_fill_124 ?_
                  refine lv_iload hx hb dX2_fill_127 (lv_at hl 2 rfl) ?_
                  refine va_iald (cA := kN 5) (n := 12) (f := fN_before_4799) hx hb hK hP 6 5 rfl rfl (vp_in_iff.mpr ⟨b_l6_x85.1, (Int.lt_of_le_of_lt (b_l6_x85.2) (by decide))⟩) dX2_fill_129 ?_
                  refine lv_topi (fun v5078 hv5078 => ?_)
                  have b_v5078 : 0 ≤ v5078.toInt ∧ v5078.toInt ≤ 11 ∧ bt iN_reached_4799 v5078.toInt.toNat = true := by rw [hv5078]; exact RB.at hRB (by omega) (by omega) hnd t_88
                  have b1_v5078 : v5078 = fN_before_4799 (l6_x85).toNatClampNeg := hv5078
                  clear hv5078
                  refine lv_istore hx hb dX2_fill_130 hl (by decide) rfl (fun ls (hl : lv_has ls _ ([(6, .int v5078), (5, .int v5077), (7, .int l7_x85), (4, .int l4_x59), (3, .int l3_x59), (0, .ref (hN 0)), (1, .int p1), (2, .int p2)])) => ?_)
                  refine lv_iinc (v := (iI (l7_x85.toInt + 1))) hx hb dX2_fill_132 hl (k := 2) rfl (iI_add2 (iI_of _) (by decide : (1 : Int32) = iI 1)) (by decide) rfl (fun ls (hl : lv_has ls _ ([(7, .int (iI (l7_x85.toInt + 1))), (6, .int v5078), (5, .int v5077), (4, .int l4_x59), (3, .int l3_x59), (0, .ref (hN 0)), (1, .int p1), (2, .int p2)])) => ?_)
                  refine lv_goto (tgt := 85) hx hb dX2_fill_135 (by decide) ?_
                  have hl : lv_has _ _ ([(7, .int (iI (l7_x85.toInt + 1))), (6, .int v5078), (5, .int v5077), (4, .int l4_x59), (3, .int l3_x59), (0, .ref (hN 0)), (1, .int p1), (2, .int p2)]) := lv_sub hl [0, 1, 2, 3, 4, 5, 6, 7] rfl
                  exact ihx85 (iI (l7_x85.toInt + 1)) v5078 v5077 _ _ _ (iI_rng (Int.le_trans (by decide) (Int.add_le_add (b_l7_x85.1) (Int.le_refl _))) (by omega) (by decide) (by decide)) (by first | exact b_v5078 | with_reducible assumption | exact ⟨by omega, by omega⟩ | assumption) (show bt iN_reached_4799 v5078.toInt.toNat = true from b_v5078.2.2) (show Wk1 p2.toInt.toNat fN_free_x59 fN_before_4799 iN_reached_4799 lev (iI (l7_x85.toInt + 1)).toInt.toNat v5078.toInt.toNat v5077.toInt from by have hns : l6_x85.toInt.toNat ≠ p1.toInt.toNat := (by omega); have hat := hW1.at hL hns; have ea : v5073.toInt.toNat = (fN_before_4799 l6_x85.toInt.toNat).toInt.toNat := (by rw [b1_v5073]; rfl); have eb : v5078.toInt.toNat = (fN_before_4799 l6_x85.toInt.toNat).toInt.toNat := (by rw [b1_v5078]; rfl); have ei : ((iI ((v5073.toInt * 12) + l6_x85.toInt))).toNatClampNeg = 12 * v5078.toInt.toNat + l6_x85.toInt.toNat := (by rw [eb, ← ea]; show (iI (v5073.toInt * 12 + l6_x85.toInt)).toInt.toNat = _; rw [iI_t (by omega) (by omega)]; omega); have hx7 : v5076.toInt = (fN_free_x59 (12 * v5078.toInt.toNat + l6_x85.toInt.toNat)).toInt := (by rw [← ei, ← b_v5076]); rw [← eb, ← hx7] at hat; have hp9 := hat.2.2.2.2; have hw9_ := hW1.2.2.2.2.1; exact Wk1.step hW1 hL hns eb (by rw [iI_t (by omega) (by omega)]; omega) (by omega) (by rw [← hx7]; omega) (by omega)) (by have e9 : ((iI (l7_x85.toInt + 1))).toInt = (l7_x85.toInt + 1) := (iI_t (Int.le_trans (by decide) (Int.add_le_add (b_l7_x85.1) (Int.le_refl _))) (Int.le_trans (Int.add_le_add (b_l7_x85.2) (Int.le_refl _)) (by decide))); omega) hP hD hS hl
        · rintro H locs ls stk ⟨iN_reached_j12, fN_before_j12, b_fN_before_j12, hfe, rfl, hP, hD, hS, hl⟩
          refine lv_iload_n hx hb dX2_fill_229 rfl (lv_at hl 1 rfl) ?_
          refine W.widen (k := 0) (n := 0) (by decide +kernel) (by decide +kernel) ?_
          exact W.iret (v := l3_x59) hx hb hr (fun t9_ ht hW => ⟨⟨l3_x59, (iN_reached_j12, fN_free_x59, fN_before_j12), rfl, ⟨b_fN_before_j12, (by (try dsimp only); exact (hfe.1)), (by (try dsimp only); exact (hfe.2))⟩, by rw [ht]; exact hP, hD⟩, hS.F ht⟩) hS.2.2 dX2_fill_230
    · have t_15 : ¬ l3_x10.toInt ≥ iN_arcs.toInt := toI_nge c_15 rfl rfl
      refine lv_aload_n hx hb dX2_fill_18 rfl (lv_at hl 1 rfl) ?_
      refine va_get (D := (dC, dI)) (ci := 2) (v := .ref (aN 4)) (C := RX2) (T := TX2) (N := 14) hx hb hts iwsMX2_fill_in2 hown hK hP 0 rfl rfl 6 (by decide) (hts _ hm_m_X2_fill_0) (fun _ h9 => h9) rfl dX2_fill_19 ?_
      refine lv_aload_n hx hb dX2_fill_22 rfl (lv_at hl 1 rfl) ?_
      refine va_get (D := (dC, dI)) (ci := 2) (v := .ref (aN 0)) (C := RX2) (T := TX2) (N := 14) hx hb hts iwsMX2_fill_in2 hown hK hP 0 rfl rfl 1 (by decide) (hts (.fieldLink RX2 11 "OptimaWorks$NetDesk" "from" "[I") (by decide +kernel)) (fun _ h9 => h9) rfl dX2_fill_23 ?_
      refine lv_iload_n hx hb dX2_fill_26 rfl (lv_at hl 0 rfl) ?_
      refine va_iald (cA := kN 0) (n := 40) (f := fN_from) hx hb hK hP 1 0 rfl rfl (vp_in_iff.mpr ⟨b_l3_x10.1, (Int.lt_of_lt_of_le (Int.not_le.mp t_15) (Int.le_trans b_iN_arcs.2 (by decide)))⟩) dX2_fill_27 ?_
      refine lv_topi (fun v5079 hv5079 => ?_)
      have b_v5079 : 0 ≤ v5079.toInt ∧ v5079.toInt ≤ 11 := by rw [hv5079]; exact b_fN_from _
      have b1_v5079 : v5079 = fN_from (l3_x10).toNatClampNeg := hv5079
      clear hv5079
      refine lv_bipush (v := 12) hx hb dX2_fill_28 (by decide) ?_
      refine lv_imul hx hb dX2_fill_30 ?_
      refine lv_topi (fun y5080 hy5080 => ?_)
      obtain rfl : (iI (v5079.toInt * 12)) = y5080 := (hy5080.trans (iI_mul2 (iI_of _) (by decide : (12 : Int32) = iI 12))).symm
      refine lv_aload_n hx hb dX2_fill_31 rfl (lv_at hl 1 rfl) ?_
      refine va_get (D := (dC, dI)) (ci := 2) (v := .ref (aN 1)) (C := RX2) (T := TX2) (N := 14) hx hb hts iwsMX2_fill_in2 hown hK hP 0 rfl rfl 2 (by decide) (hts (.fieldLink RX2 15 "OptimaWorks$NetDesk" "to" "[I") (by decide +kernel)) (fun _ h9 => h9) rfl dX2_fill_32 ?_
      refine lv_iload_n hx hb dX2_fill_35 rfl (lv_at hl 0 rfl) ?_
      refine va_iald (cA := kN 1) (n := 40) (f := fN_to) hx hb hK hP 2 1 rfl rfl (vp_in_iff.mpr ⟨b_l3_x10.1, (Int.lt_of_lt_of_le (Int.not_le.mp t_15) (Int.le_trans b_iN_arcs.2 (by decide)))⟩) dX2_fill_36 ?_
      refine lv_topi (fun v5081 hv5081 => ?_)
      have b_v5081 : 0 ≤ v5081.toInt ∧ v5081.toInt ≤ 11 := by rw [hv5081]; exact b_fN_to _
      have b1_v5081 : v5081 = fN_to (l3_x10).toNatClampNeg := hv5081
      clear hv5081
      refine lv_iadd hx hb dX2_fill_37 ?_
      refine lv_topi (fun y5082 hy5082 => ?_)
      obtain rfl : (iI ((v5079.toInt * 12) + v5081.toInt)) = y5082 := (hy5082.trans (iI_add2 rfl (iI_of _))).symm
      refine lv_dup2_11 hx hb dX2_fill_38 rfl rfl ?_
      refine va_iald (cA := kN 4) (n := 144) (f := fN_free_x10) hx hb hK hP 5 4 rfl rfl (vp_iI (Int.le_trans (by decide) (Int.add_le_add (Int.mul_le_mul_of_nonneg_right (b_v5079.1) (by decide)) (b_v5081.1))) (Int.lt_of_le_of_lt (Int.add_le_add (Int.mul_le_mul_of_nonneg_right (b_v5079.2) (by decide)) (b_v5081.2)) (by decide)) (by decide)) dX2_fill_39 ?_
      refine lv_topi (fun v5083 hv5083 => ?_)
      have b_v5083 : v5083 = fN_free_x10 ((iI ((v5079.toInt * 12) + v5081.toInt))).toNatClampNeg := hv5083
      clear hv5083
      refine lv_aload_n hx hb dX2_fill_40 rfl (lv_at hl 1 rfl) ?_
      refine va_get (D := (dC, dI)) (ci := 2) (v := .ref (aN 2)) (C := RX2) (T := TX2) (N := 14) hx hb hts iwsMX2_fill_in2 hown hK hP 0 rfl rfl 3 (by decide) (hts (.fieldLink RX2 18 "OptimaWorks$NetDesk" "room" "[I") (by decide +kernel)) (fun _ h9 => h9) rfl dX2_fill_41 ?_
      refine lv_iload_n hx hb dX2_fill_44 rfl (lv_at hl 0 rfl) ?_
      refine va_iald (cA := kN 2) (n := 40) (f := fN_room) hx hb hK hP 3 2 rfl rfl (vp_in_iff.mpr ⟨b_l3_x10.1, (Int.lt_of_lt_of_le (Int.not_le.mp t_15) (Int.le_trans b_iN_arcs.2 (by decide)))⟩) dX2_fill_45 ?_
      refine lv_topi (fun v5084 hv5084 => ?_)
      have b_v5084 : 0 ≤ v5084.toInt ∧ v5084.toInt ≤ 1000 := by rw [hv5084]; exact ⟨(hRm l3_x10.toInt.toNat (by (try dsimp only); omega)).1, (hRm l3_x10.toInt.toNat (by (try dsimp only); omega)).2.1⟩
      have b1_v5084 : v5084 = fN_room (l3_x10).toNatClampNeg := hv5084
      clear hv5084
      refine lv_iadd hx hb dX2_fill_46 ?_
      refine lv_topi (fun y5085 hy5085 => ?_)
      obtain rfl : (iI (v5083.toInt + v5084.toInt)) = y5085 := (hy5085.trans (iI_add2 (iI_of _) (iI_of _))).symm
      refine va_iast (cA := kN 4) (n := 144) (f := fN_free_x10) hx hb hK hP hD hS 5 4 rfl rfl (vp_iI (Int.le_trans (by decide) (Int.add_le_add (Int.mul_le_mul_of_nonneg_right (b_v5079.1) (by decide)) (b_v5081.1))) (Int.lt_of_le_of_lt (Int.add_le_add (Int.mul_le_mul_of_nonneg_right (b_v5079.2) (by decide)) (b_v5081.2)) (by decide)) (by decide)) dX2_fill_47 (fun H locs hP hD hS => ?_)
      obtain ⟨u5086, hu5086⟩ : ∃ f9, f9 = upd fN_free_x10 ((iI ((v5079.toInt * 12) + v5081.toInt))).toNatClampNeg (iI (v5083.toInt + v5084.toInt)) := ⟨_, rfl⟩
      have hP : va_P (dC, dI) vwCl (WN hN aN kN iN_arcs fN_from fN_to fN_room fN_cost iN_reached u5086 fN_before fN_flow fN_length fN_stop iN_stops fN_price fN_rest) H := by rw [hu5086]; exact hP
      have hD : va_D A (WN hN aN kN iN_arcs fN_from fN_to fN_room fN_cost iN_reached u5086 fN_before fN_flow fN_length fN_stop iN_stops fN_price fN_rest) := by rw [hu5086]; exact hD
      have b_u5086 : u5086 = upd fN_free_x10 ((iI ((v5079.toInt * 12) + v5081.toInt))).toNatClampNeg (iI (v5083.toInt + v5084.toInt)) := hu5086
      clear hu5086
      refine lv_iinc (v := (iI (l3_x10.toInt + 1))) hx hb dX2_fill_48 hl (k := 0) rfl (iI_add2 (iI_of _) (by decide : (1 : Int32) = iI 1)) (by decide) rfl (fun ls (hl : lv_has ls _ ([(3, .int (iI (l3_x10.toInt + 1))), (0, .ref (hN 0)), (1, .int p1), (2, .int p2)])) => ?_)
      refine lv_goto (tgt := 10) hx hb dX2_fill_51 (by decide) ?_
      have hl : lv_has _ _ ([(3, .int (iI (l3_x10.toInt + 1))), (0, .ref (hN 0)), (1, .int p1), (2, .int p2)]) := lv_sub hl [0, 1, 2, 3] rfl
      exact ihx10 u5086 (iI (l3_x10.toInt + 1)) _ _ _ (iI_rng (Int.le_trans (by decide) (Int.add_le_add (b_l3_x10.1) (Int.le_refl _))) (by omega) (by decide) (by decide)) (show mG (iN_arcs.toInt, fN_from, fN_to, fN_room, fN_cost) u5086 (iI (l3_x10.toInt + 1)).toInt.toNat from by rw [show (iI (l3_x10.toInt + 1)).toInt.toNat = l3_x10.toInt.toNat + 1 from by rw [iI_t (by omega) (by omega)]; omega]; have ef : tFr (iN_arcs.toInt, fN_from, fN_to, fN_room, fN_cost) l3_x10.toInt.toNat = v5079.toInt.toNat := (by rw [b1_v5079]; rfl); have et : tTo (iN_arcs.toInt, fN_from, fN_to, fN_room, fN_cost) l3_x10.toInt.toNat = v5081.toInt.toNat := (by rw [b1_v5081]; rfl); have er : tRo (iN_arcs.toInt, fN_from, fN_to, fN_room, fN_cost) l3_x10.toInt.toNat = v5084.toInt := (by rw [b1_v5084]; rfl); have hc9 : ((iI ((v5079.toInt * 12) + v5081.toInt))).toNatClampNeg = 12 * tFr (iN_arcs.toInt, fN_from, fN_to, fN_room, fN_cost) l3_x10.toInt.toNat + tTo (iN_arcs.toInt, fN_from, fN_to, fN_room, fN_cost) l3_x10.toInt.toNat := (by rw [ef, et]; show (iI (v5079.toInt * 12 + v5081.toInt)).toInt.toNat = _; rw [iI_t (by omega) (by omega)]; omega); have hx9 := hG.1 ((iI ((v5079.toInt * 12) + v5081.toInt))).toNatClampNeg (by rw [hc9, ef, et]; omega); rw [← b_v5083] at hx9; exact mG.step hG (by (try dsimp only); omega) hRm hVal hc9 b_v5083 b_u5086 (by rw [iI_t (by omega) (by omega), er])) (show (iI (l3_x10.toInt + 1)).toInt ≤ iN_arcs.toInt from by rw [iI_t (by omega) (by omega)]; omega) (by have e9 : ((iI (l3_x10.toInt + 1))).toInt = (l3_x10.toInt + 1) := (iI_t (Int.le_trans (by decide) (Int.add_le_add (b_l3_x10.1) (Int.le_refl _))) (Int.le_trans (Int.add_le_add (b_l3_x10.2) (Int.le_refl _)) (by decide))); omega) hP hD hS hl
end
section
/-! clauses: what the class keeps beside them -/
def ClI (d : ClD) (br lo : Nat → Int32) (mu : Int32) : Prop := (∀ k, k < 4096 → ∀ i, bI (br k) i = true ↔ ((i : Int) < d.1 ∧ kN d i k = true)) ∧ (∀ k, k < 4096 → (lo k).toInt = cSum d k d.1.toNat) ∧ ∀ i, bI mu i = true ↔ ((i : Int) < d.1 ∧ (d.2.2.2 i).toInt = 0)
theorem ClI.z : ClI clZ (fun _ => 0) (fun _ => 0) 0 := by
  refine ⟨fun k _ i => ?_, fun k _ => ?_, fun i => ?_⟩
  · rw [bI_0]
    constructor
    · intro h; cases h
    · intro h
      have h9 : ((i : Nat) : Int) < 0 := h.1
      omega
  · rfl
  · rw [bI_0]
    constructor
    · intro h; cases h
    · intro h
      have h9 : ((i : Nat) : Int) < 0 := h.1
      omega
/-- rows below m are marked -/
def cMrk (a b i w : Int32) (br lo br2 lo2 : Nat → Int32) (m : Nat) : Prop := ∀ k, k < 4096 → ((k < m ∧ (nI k &&& a) = 0 ∧ (nI k &&& b) = b) → br2 k = br k ^^^ ((1 : Int32) <<< (i &&& 31)) ∧ lo2 k = iI ((lo k).toInt + w.toInt)) ∧ (¬ (k < m ∧ (nI k &&& a) = 0 ∧ (nI k &&& b) = b) → br2 k = br k ∧ lo2 k = lo k)
theorem cMrk.start {a b i w : Int32} {br lo : Nat → Int32} {m : Nat} (hm : m = 0) : cMrk a b i w br lo br lo m := fun k _ => ⟨fun h => absurd h.1 (by omega), fun _ => ⟨rfl, rfl⟩⟩
theorem cMrk.no {a b i w r : Int32} {br lo br2 lo2 : Nat → Int32} {m : Nat} (h : cMrk a b i w br lo br2 lo2 m) (hr : r.toInt.toNat = m) (h0 : 0 ≤ r.toInt) (hn : ¬ ((r &&& a) = 0 ∧ (r &&& b) = b)) : cMrk a b i w br lo br2 lo2 (m + 1) := by
  intro k hk
  by_cases e : k = m
  · have e2 : nI k = r := by rw [e, ← hr]; exact nI_tz h0
    rw [e2]
    exact ⟨fun h9 => absurd h9.2 hn, fun _ => (h k hk).2 (fun h9 => by omega)⟩
  · refine ⟨fun h9 => (h k hk).1 ⟨by omega, h9.2⟩, fun h9 => (h k hk).2 (fun h8 => h9 ⟨by omega, h8.2⟩)⟩
theorem cMrk.yes {a b i w r x y : Int32} {br lo br2 lo2 br3 lo3 : Nat → Int32} {m : Nat} (h : cMrk a b i w br lo br2 lo2 m) (hr : r.toInt.toNat = m) (h0 : 0 ≤ r.toInt) (hm : m < 4096) (h1 : (r &&& a) = 0) (h2 : (r &&& b) = b) (e1 : br3 = upd br2 r.toNatClampNeg x) (hx : x = br2 r.toNatClampNeg ^^^ ((1 : Int32) <<< (i &&& 31))) (e2 : lo3 = upd lo2 r.toNatClampNeg y) (hy : y = iI ((lo2 r.toNatClampNeg).toInt + w.toInt)) : cMrk a b i w br lo br3 lo3 (m + 1) := by
  have hc : r.toNatClampNeg = m := hr
  have hm2 := (h m hm).2 (fun h9 => by omega)
  rw [hc] at e1 hx e2 hy
  subst e1 e2
  intro k hk
  by_cases e : k = m
  · have e4 : nI k = r := by rw [e, ← hr]; exact nI_tz h0
    rw [e4]
    refine ⟨fun _ => ?_, fun h9 => absurd ⟨by omega, h1, h2⟩ h9⟩
    unfold upd
    rw [if_pos e, if_pos e, hx, hy, hm2.1, hm2.2, e]
    exact ⟨rfl, rfl⟩
  · unfold upd
    rw [if_neg e, if_neg e]
    refine ⟨fun h9 => (h k hk).1 ⟨by omega, h9.2⟩, fun h9 => (h k hk).2 (fun h8 => h9 ⟨by omega, h8.2⟩)⟩
theorem kN_upd {d : ClD} {y m w : Int32} {i k : Nat} (hi : i ≠ d.1.toNat) : kN (clAdd d y m w) i k = kN d i k := by
  unfold kN
  show decide ((upd d.2.1 d.1.toNat y i &&& nI k) = 0 ∧ (upd d.2.2.1 d.1.toNat m i &&& (nI k ^^^ (-1))) = 0) = _
  unfold upd
  rw [if_neg hi, if_neg hi]
theorem cSum_upd {d : ClD} {y m w : Int32} {k : Nat} : ∀ j, j ≤ d.1.toNat → cSum (clAdd d y m w) k j = cSum d k j := by
  intro j
  induction j with
  | zero => intro _; rfl
  | succ j ih =>
    intro hj
    show cSum (clAdd d y m w) k j + (if kN (clAdd d y m w) j k = true then (upd d.2.2.2 d.1.toNat w j).toInt else 0) = cSum d k j + (if kN d j k = true then (d.2.2.2 j).toInt else 0)
    rw [ih (by omega), kN_upd (by omega)]
    unfold upd
    rw [if_neg (show ¬ j = d.1.toNat by omega)]
theorem kN_new {d : ClD} {y m w : Int32} {k : Nat} : kN (clAdd d y m w) d.1.toNat k = true ↔ ((nI k &&& y) = 0 ∧ (nI k &&& m) = m) := by
  rw [kN_cls]
  show ((nI k &&& upd d.2.1 d.1.toNat y d.1.toNat) = 0 ∧ (nI k &&& upd d.2.2.1 d.1.toNat m d.1.toNat) = upd d.2.2.1 d.1.toNat m d.1.toNat) ↔ _
  unfold upd
  rw [if_pos rfl, if_pos rfl]
theorem bI_bit {i : Int32} {j : Nat} (h0 : 0 ≤ i.toInt) (h1 : i.toInt < 25) : bI ((1 : Int32) <<< (i &&& 31)) j = decide (j = i.toInt.toNat) := by
  have h := bI_1 (i := i.toInt.toNat) (j := j) (by omega)
  rw [nI_tz h0] at h
  exact h
theorem ClI.add {d : ClD} {br lo br2 lo2 : Nat → Int32} {mu mu2 y m w i : Int32} (hv : cVal d) (hn : d.1 < 24) (h : ClI d br lo mu) (hm : cMrk y m i w br lo br2 lo2 4096) (hi : i.toInt = d.1) (hw : 0 ≤ w.toInt ∧ w.toInt ≤ 1000) (hmu : (w.toInt = 0 ∧ mu2 = mu ||| ((1 : Int32) <<< (i &&& 31))) ∨ (w.toInt ≠ 0 ∧ mu2 = mu)) : ClI (clAdd d y m w) br2 lo2 mu2 := by
  have h0 := hv.1
  have hbit : ∀ j, bI ((1 : Int32) <<< (i &&& 31)) j = decide (j = d.1.toNat) := fun j => by rw [bI_bit (by omega) (by omega), hi]
  have hd1 : (clAdd d y m w).1 = d.1 + 1 := rfl
  have e1 : (d.1 + 1).toNat = d.1.toNat + 1 := by omega
  have low : ∀ k, k < 4096 → bI (br k) d.1.toNat = false := by
    intro k hk
    cases h9 : bI (br k) d.1.toNat
    · rfl
    · have := ((h.1 k hk _).mp h9).1; omega
  refine ⟨fun k hk j => ?_, fun k hk => ?_, fun j => ?_⟩
  · rw [hd1]
    by_cases e : j = d.1.toNat
    · rw [e]
      by_cases hnk : (nI k &&& y) = 0 ∧ (nI k &&& m) = m
      · rw [((hm k hk).1 ⟨hk, hnk⟩).1, bI_xor, hbit, low k hk, decide_eq_true rfl]
        exact ⟨fun _ => ⟨by omega, kN_new.mpr hnk⟩, fun _ => rfl⟩
      · rw [((hm k hk).2 (fun h9 => hnk h9.2)).1, low k hk]
        exact ⟨fun h9 => (by cases h9), fun h9 => absurd (kN_new.mp h9.2) hnk⟩
    · have e9 : bI (br2 k) j = bI (br k) j := by
        by_cases hnk : (nI k &&& y) = 0 ∧ (nI k &&& m) = m
        · rw [((hm k hk).1 ⟨hk, hnk⟩).1, bI_xor, hbit, decide_eq_false e, Bool.xor_false]
        · rw [((hm k hk).2 (fun h9 => hnk h9.2)).1]
      rw [e9, kN_upd e, h.1 k hk j]
      constructor
      · intro h9; exact ⟨by omega, h9.2⟩
      · intro h9; exact ⟨by omega, h9.2⟩
  · rw [hd1, e1]
    have hs := cSum_upd (d := d) (y := y) (m := m) (w := w) (k := k) d.1.toNat (Nat.le_refl _)
    have hl := h.2.1 k hk
    have hb := cSum.bd hv k d.1.toNat (by omega)
    have hwn : ((clAdd d y m w).2.2.2 d.1.toNat).toInt = w.toInt := by
      show (upd d.2.2.2 d.1.toNat w d.1.toNat).toInt = w.toInt
      unfold upd
      rw [if_pos rfl]
    by_cases hnk : (nI k &&& y) = 0 ∧ (nI k &&& m) = m
    · rw [cSum_yes (kN_new.mpr hnk), hs, hwn, ((hm k hk).1 ⟨hk, hnk⟩).2, iI_t (by omega) (by omega), hl]
    · have hf : kN (clAdd d y m w) d.1.toNat k = false := by
        cases h9 : kN (clAdd d y m w) d.1.toNat k
        · rfl
        · exact absurd (kN_new.mp h9) hnk
      rw [cSum_no hf, hs, ((hm k hk).2 (fun h9 => hnk h9.2)).2, hl]
  · rw [hd1]
    show bI mu2 j = true ↔ ((j : Int) < d.1 + 1 ∧ (upd d.2.2.2 d.1.toNat w j).toInt = 0)
    unfold upd
    by_cases e : j = d.1.toNat
    · rw [if_pos e, e]
      have hlow : bI mu d.1.toNat = false := by
        cases h9 : bI mu d.1.toNat
        · rfl
        · have := ((h.2.2 _).mp h9).1; omega
      rcases hmu with ⟨h1, h2⟩ | ⟨h1, h2⟩
      · rw [h2, bI_or, hbit, decide_eq_true rfl, Bool.or_true]
        exact ⟨fun _ => ⟨by omega, h1⟩, fun _ => rfl⟩
      · rw [h2, hlow]
        exact ⟨fun h9 => (by cases h9), fun h9 => absurd h9.2 h1⟩
    · rw [if_neg e]
      have e9 : bI mu2 j = bI mu j := by
        rcases hmu with ⟨h1, h2⟩ | ⟨h1, h2⟩
        · rw [h2, bI_or, hbit, decide_eq_false e, Bool.or_false]
        · rw [h2]
      rw [e9, h.2.2 j]
      constructor
      · intro h9; exact ⟨by omega, h9.2⟩
      · intro h9; exact ⟨by omega, h9.2⟩
theorem kN_same {d : ClD} {n : Int} {i k : Nat} : kN (n, d.2) i k = kN d i k := rfl
theorem cSum_same {d : ClD} {n : Int} {k : Nat} : ∀ j, cSum (n, d.2) k j = cSum d k j := by
  intro j
  induction j with
  | zero => rfl
  | succ j ih =>
    show cSum (n, d.2) k j + (if kN d j k = true then (d.2.2.2 j).toInt else 0) = cSum d k j + (if kN d j k = true then (d.2.2.2 j).toInt else 0)
    rw [ih]
theorem ClI.drop {d : ClD} {br lo br2 lo2 : Nat → Int32} {mu mu2 w i : Int32} (hv : cVal d) (hn : 0 < d.1) (h : ClI d br lo mu) (hm : cMrk (d.2.1 (d.1 - 1).toNat) (d.2.2.1 (d.1 - 1).toNat) i w br lo br2 lo2 4096) (hi : i.toInt = d.1 - 1) (hw : w.toInt = - (d.2.2.2 (d.1 - 1).toNat).toInt) (hmu : mu2 = mu &&& (((1 : Int32) <<< (i &&& 31)) ^^^ (-1))) : ClI (d.1 - 1, d.2) br2 lo2 mu2 := by
  have h24 := hv.2.1
  have hbit : ∀ j, bI ((1 : Int32) <<< (i &&& 31)) j = decide (j = (d.1 - 1).toNat) := fun j => by rw [bI_bit (by omega) (by omega), hi]
  have e1 : d.1.toNat = (d.1 - 1).toNat + 1 := by omega
  have hwb := hv.2.2 (d.1 - 1).toNat (by omega)
  refine ⟨fun k hk j => ?_, fun k hk => ?_, fun j => ?_⟩
  · show bI (br2 k) j = true ↔ ((j : Int) < d.1 - 1 ∧ kN d j k = true)
    have hj := h.1 k hk j
    by_cases hnk : (nI k &&& d.2.1 (d.1 - 1).toNat) = 0 ∧ (nI k &&& d.2.2.1 (d.1 - 1).toNat) = d.2.2.1 (d.1 - 1).toNat
    · rw [((hm k hk).1 ⟨hk, hnk⟩).1, bI_xor, hbit]
      by_cases e : j = (d.1 - 1).toNat
      · have hT : bI (br k) j = true := hj.mpr ⟨by omega, by rw [e]; exact (kN_cls _ _ _).mpr hnk⟩
        rw [hT, decide_eq_true e]
        exact ⟨fun h9 => (by cases h9), fun h9 => by omega⟩
      · rw [decide_eq_false e, Bool.xor_false, hj]
        exact ⟨fun h9 => ⟨by omega, h9.2⟩, fun h9 => ⟨by omega, h9.2⟩⟩
    · rw [((hm k hk).2 (fun h9 => hnk h9.2)).1, hj]
      constructor
      · intro h9
        refine ⟨?_, h9.2⟩
        by_cases e : j = (d.1 - 1).toNat
        · exact absurd ((kN_cls _ _ _).mp (by rw [← e]; exact h9.2)) hnk
        · omega
      · intro h9; exact ⟨by omega, h9.2⟩
  · show (lo2 k).toInt = cSum (d.1 - 1, d.2) k (d.1 - 1).toNat
    rw [cSum_same]
    have hl := h.2.1 k hk
    have hb := cSum.bd hv k (d.1 - 1).toNat (by omega)
    rw [e1] at hl
    by_cases hnk : (nI k &&& d.2.1 (d.1 - 1).toNat) = 0 ∧ (nI k &&& d.2.2.1 (d.1 - 1).toNat) = d.2.2.1 (d.1 - 1).toNat
    · rw [cSum_yes ((kN_cls _ _ _).mpr hnk)] at hl
      rw [((hm k hk).1 ⟨hk, hnk⟩).2, iI_t (by omega) (by omega)]
      omega
    · have hf : kN d (d.1 - 1).toNat k = false := by
        cases h9 : kN d (d.1 - 1).toNat k
        · rfl
        · exact absurd ((kN_cls _ _ _).mp h9) hnk
      rw [cSum_no hf] at hl
      rw [((hm k hk).2 (fun h9 => hnk h9.2)).2]
      exact hl
  · show bI mu2 j = true ↔ ((j : Int) < d.1 - 1 ∧ (d.2.2.2 j).toInt = 0)
    rw [hmu, bI_and, bI_xor, hbit]
    by_cases hj : j < 32
    · rw [bI_m1 hj, Bool.and_eq_true, h.2.2 j]
      by_cases e : j = (d.1 - 1).toNat
      · rw [decide_eq_true e]
        exact ⟨fun h9 => (by cases h9.2), fun h9 => by omega⟩
      · rw [decide_eq_false e]
        exact ⟨fun h9 => ⟨by omega, h9.1.2⟩, fun h9 => ⟨⟨by omega, h9.2⟩, rfl⟩⟩
    · rw [bI_big (x := mu) (by omega)]
      exact ⟨fun h9 => (by cases h9), fun h9 => by omega⟩
theorem ClI.must {d : ClD} {br lo : Nat → Int32} {mu : Int32} (hv : cVal d) (h : ClI d br lo mu) {k : Nat} (hk : k < 4096) : (br k &&& mu) = 0 ↔ cMust d k d.1.toNat := by
  have h0 := hv.1
  rw [bI_zero]
  constructor
  · intro h9 i hi hn hw
    have e := h9 i
    rw [bI_and, (h.1 k hk i).mpr ⟨by omega, hn⟩, (h.2.2 i).mpr ⟨by omega, hw⟩] at e
    cases e
  · intro h9 j
    rw [bI_and]
    cases e1 : bI (br k) j
    · rfl
    · cases e2 : bI mu j
      · rfl
      · have a1 := (h.1 k hk j).mp e1
        have a2 := (h.2.2 j).mp e2
        exact absurd a2.2 (h9 j (by omega) a1.2)
theorem ClI.can {d : ClD} {br lo : Nat → Int32} {mu x : Int32} (hv : cVal d) (h : ClI d br lo mu) {k : Nat} (hk : k < 4096) : (br k &&& x) = 0 ↔ cSat d x k d.1.toNat = true := by
  have h0 := hv.1
  rw [bI_zero, cSat_iff]
  constructor
  · intro h9 i hi hx
    cases e : kN d i k
    · rfl
    · have e2 := h9 i
      rw [bI_and, (h.1 k hk i).mpr ⟨by omega, e⟩, hx] at e2
      cases e2
  · intro h9 j
    rw [bI_and]
    cases e1 : bI (br k) j
    · rfl
    · cases e2 : bI x j
      · rfl
      · have a1 := (h.1 k hk j).mp e1
        have a2 := h9 j (by omega) e2
        rw [a1.2] at a2; cases a2
theorem ClI.none {d : ClD} {br lo : Nat → Int32} {mu : Int32} (hv : cVal d) (h : ClI d br lo mu) {k : Nat} (hk : k < 4096) : br k = 0 ↔ cSat d (cFull d.1.toNat) k d.1.toNat = true := by
  have h0 := hv.1
  have h24 := hv.2.1
  rw [bI_zero, cSat_iff]
  constructor
  · intro h9 i hi _
    cases e : kN d i k
    · rfl
    · have e2 := h9 i
      rw [(h.1 k hk i).mpr ⟨by omega, e⟩] at e2
      cases e2
  · intro h9 j
    cases e1 : bI (br k) j
    · rfl
    · have a1 := (h.1 k hk j).mp e1
      have a2 := h9 j (by omega) (cFull_bit (by omega) (by omega))
      rw [a1.2] at a2; cases a2
theorem ClI.lno {d : ClD} {br lo : Nat → Int32} {mu a : Int32} {m : Nat} {c : Int} (hv : cVal d) (h : ClI d br lo mu) (hB : ∃ b, cBest d m b c) (hm : m < 4096) (ha : a = br m &&& mu) (h0 : a.toInt ≠ 0) : ∃ b, cBest d (m + 1) b c :=
  hB.elim (fun b hb => ⟨b, cBest.no hb (fun h9 => h0 (by rw [ha, (ClI.must hv h hm).mpr h9]; decide))⟩)
theorem ClI.lm {d : ClD} {br lo : Nat → Int32} {mu a : Int32} {m : Nat} (hv : cVal d) (h : ClI d br lo mu) (hm : m < 4096) (ha : a = br m &&& mu) (h0 : a.toInt = 0) : cMust d m d.1.toNat :=
  (ClI.must hv h hm).mp (by rw [← ha]; exact Int32.toInt_inj.mp (by rw [h0]; decide))
theorem ClI.lnew {d : ClD} {br lo : Nat → Int32} {mu a : Int32} {m : Nat} {c c2 : Int} (hv : cVal d) (h : ClI d br lo mu) (hB : ∃ b, cBest d m b c) (hm : m < 4096) (ha : a = br m &&& mu) (h0 : a.toInt = 0) (hc : c = -1) (hc2 : c2 = (m : Int)) : ∃ b, cBest d (m + 1) b c2 :=
  hB.elim (fun b hb => ⟨cSum d m d.1.toNat, cBest.take hb (ClI.lm hv h hm ha h0) rfl hc2 (Or.inl hc)⟩)
theorem ClI.lat {d : ClD} {br lo : Nat → Int32} {mu : Int32} {m : Nat} {b c : Int} (h : ClI d br lo mu) (hB : cBest d m b c) (hc : c ≠ -1) (hm : m ≤ 4096) : (lo c.toNat).toInt = b ∧ 0 ≤ c ∧ c < (m : Int) := by
  rcases hB with ⟨h1, _⟩ | ⟨h1, h2, _, h4, _⟩
  · exact absurd h1 hc
  · exact ⟨by rw [h4]; exact h.2.1 c.toNat (by omega), h1, h2⟩
theorem ClI.lless {d : ClD} {br lo : Nat → Int32} {mu a x y : Int32} {m : Nat} {c c2 : Int} (hv : cVal d) (h : ClI d br lo mu) (hB : ∃ b, cBest d m b c) (hm : m < 4096) (ha : a = br m &&& mu) (h0 : a.toInt = 0) (hc : c ≠ -1) (hx : x = lo m) (hy : y = lo c.toNat) (hl : x.toInt < y.toInt) (hc2 : c2 = (m : Int)) : ∃ b, cBest d (m + 1) b c2 :=
  hB.elim (fun b hb => ⟨cSum d m d.1.toNat, cBest.take hb (ClI.lm hv h hm ha h0) rfl hc2 (Or.inr (by rw [← h.2.1 m hm, ← (ClI.lat h hb hc (by omega)).1, ← hx, ← hy]; exact hl))⟩)
theorem ClI.lkeep {d : ClD} {br lo : Nat → Int32} {mu x y : Int32} {m : Nat} {c : Int} (h : ClI d br lo mu) (hB : ∃ b, cBest d m b c) (hm : m < 4096) (hc : c ≠ -1) (hx : x = lo m) (hy : y = lo c.toNat) (hl : ¬ x.toInt < y.toInt) : ∃ b, cBest d (m + 1) b c :=
  hB.elim (fun b hb => ⟨b, cBest.keep hb hc (by rw [← h.2.1 m hm, ← (ClI.lat h hb hc (by omega)).1, ← hx, ← hy]; exact hl)⟩)
theorem cBest.nob {d : ClD} {m : Nat} {c : Int} (hB : ∃ b, cBest d m b c) (hc : c = -1) : ∃ c2, cBest d m (-1) c2 := by
  obtain ⟨b, hb⟩ := hB
  have e : b = -1 := by
    rcases hb with ⟨_, h2, _⟩ | ⟨h1, _⟩
    · exact h2
    · omega
  rw [e] at hb
  exact ⟨c, hb⟩
theorem ClI.lost {d : ClD} {br lo : Nat → Int32} {mu x : Int32} {c : Int} (h : ClI d br lo mu) (hB : ∃ b, cBest d 4096 b c) (hc : c ≠ -1) (hx : x = lo c.toNat) : ∃ c2, cBest d 4096 x.toInt c2 :=
  hB.elim (fun b hb => ⟨c, by rw [hx, (ClI.lat h hb hc (Nat.le_refl _)).1]; exact hb⟩)
def cCnt (d : ClD) (m : Nat) : Nat := cntB (fun k => cSat d (cFull d.1.toNat) k d.1.toNat) m
theorem cCnt_le (d : ClD) (m : Nat) : cCnt d m ≤ m := cntB_le _ m
theorem ClI.cnt1 {d : ClD} {br lo : Nat → Int32} {mu x : Int32} {m : Nat} (hv : cVal d) (h : ClI d br lo mu) (hm : m < 4096) (hx : x = br m) (h0 : x.toInt = 0) : cCnt d (m + 1) = cCnt d m + 1 := by
  have e : cSat d (cFull d.1.toNat) m d.1.toNat = true := (ClI.none hv h hm).mp (by rw [← hx]; exact Int32.toInt_inj.mp (by rw [h0]; decide))
  show cntB (fun k => cSat d (cFull d.1.toNat) k d.1.toNat) m + (if cSat d (cFull d.1.toNat) m d.1.toNat = true then 1 else 0) = cCnt d m + 1
  rw [if_pos e]
  rfl
theorem ClI.cnt0 {d : ClD} {br lo : Nat → Int32} {mu x : Int32} {m : Nat} (hv : cVal d) (h : ClI d br lo mu) (hm : m < 4096) (hx : x = br m) (h0 : x.toInt ≠ 0) : cCnt d (m + 1) = cCnt d m := by
  have e : ¬ cSat d (cFull d.1.toNat) m d.1.toNat = true := fun h9 => h0 (by rw [hx, (ClI.none hv h hm).mpr h9]; decide)
  show cntB (fun k => cSat d (cFull d.1.toNat) k d.1.toNat) m + (if cSat d (cFull d.1.toNat) m d.1.toNat = true then 1 else 0) = cCnt d m
  rw [if_neg e]
  rfl
theorem ClI.nkeep {d : ClD} {br lo : Nat → Int32} {mu a x : Int32} {m : Nat} (hv : cVal d) (h : ClI d br lo mu) (hN : ∀ k, k < m → ¬ cSat d x k d.1.toNat = true) (hm : m < 4096) (ha : a = br m &&& x) (h0 : a.toInt ≠ 0) : ∀ k, k < m + 1 → ¬ cSat d x k d.1.toNat = true := by
  intro k hk h9
  by_cases e : k = m
  · rw [e] at h9
    exact h0 (by rw [ha, (ClI.can hv h hm).mpr h9]; decide)
  · exact hN k (by omega) h9
theorem ClI.ykeep {d : ClD} {br lo : Nat → Int32} {mu a x : Int32} {m : Nat} (hv : cVal d) (h : ClI d br lo mu) (hm : m < 4096) (ha : a = br m &&& x) (h0 : a.toInt = 0) : cCan d x :=
  ⟨m, hm, (ClI.can hv h hm).mp (by rw [← ha]; exact Int32.toInt_inj.mp (by rw [h0]; decide))⟩
theorem cCan.no {d : ClD} {x : Int32} {m : Nat} (hN : ∀ k, k < m → ¬ cSat d x k d.1.toNat = true) (hm : m = 4096) : ¬ cCan d x := fun ⟨k, hk, h⟩ => hN k (by omega) h
theorem cLess_of {x a l : Int32} (h0 : 0 ≤ l.toInt) (ha : a = x &&& (((1 : Int32) <<< (l &&& 31)) ^^^ (-1))) : a = cLess x l.toInt.toNat := by
  unfold cLess
  rw [nI_tz h0]
  exact ha
theorem cFull_of {y n : Int32} (h0 : 0 ≤ n.toInt) (hy : y = ((1 : Int32) <<< (n &&& 31)) - 1) : y = cFull n.toInt.toNat := by
  unfold cFull
  rw [nI_tz h0]
  exact hy
theorem cCore.y {d : ClD} {c n k : Nat} {x F : Int32} (hI : ∀ r, cCore d c x r → cCore d n F r) (hc : c = k + 1) (hy : cCan d (cLess x k)) : ∀ r, cCore d k x r → cCore d n F r := by
  subst hc
  exact fun r hr => hI r (Or.inl ⟨hy, hr⟩)
theorem cCore.n {d : ClD} {c n k : Nat} {x a F : Int32} (hI : ∀ r, cCore d c x r → cCore d n F r) (hc : c = k + 1) (ha : a = cLess x k) (hy : ¬ cCan d a) : ∀ r, cCore d k a r → cCore d n F r := by
  subst hc ha
  exact fun r hr => hI r (Or.inr ⟨hy, hr⟩)
theorem cCore.e {d : ClD} {c n : Nat} {x F : Int32} (hI : ∀ r, cCore d c x r → cCore d n F r) (hc : c = 0) : cCore d n F x := by
  subst hc
  exact hI x rfl
theorem cVal.z0 : cVal ((0 : Int32).toInt, (fun _ => 0), (fun _ => 0), (fun _ => 0)) := by
  have h := cVal.z
  rw [clZ_x (x := (0 : Int32).toInt) (by decide)] at h
  exact h
theorem ClI.z0 : ClI ((0 : Int32).toInt, (fun _ => 0), (fun _ => 0), (fun _ => 0)) (fun _ => 0) (fun _ => 0) 0 := by
  have h := ClI.z
  rw [clZ_x (x := (0 : Int32).toInt) (by decide)] at h
  exact h
end
section
theorem hd_yX0_mark_RX0 : yX0_mark.cls = RX0 ∧ yX0_mark.cls ≠ "java/lang/invoke/MethodHandle" ∧ yX0_mark.cls ≠ "java/lang/invoke/VarHandle" ∧ (parseMethodDescriptor yX0_mark.desc).map (fun d => d.parameters.length) = some 2 := by decide +kernel
theorem hd_yX0_canKeep_RX0 : yX0_canKeep.cls = RX0 ∧ yX0_canKeep.cls ≠ "java/lang/invoke/MethodHandle" ∧ yX0_canKeep.cls ≠ "java/lang/invoke/VarHandle" ∧ (parseMethodDescriptor yX0_canKeep.desc).map (fun d => d.parameters.length) = some 1 := by decide +kernel
def WC (hC : Nat → Nat) (aC : Nat → Nat) (kC : Nat → ClassId) (iC_clauses : Int32) (fC_wants : Nat → Int32) (fC_wantsNot : Nat → Int32) (fC_weight : Nat → Int32) (fC_broken : Nat → Int32) (fC_loss : Nat → Int32) (iC_musts : Int32) : va_W := [(hC 0, .inr (0, [.int iC_clauses, .ref (aC 0), .ref (aC 1), .ref (aC 2), .ref (aC 3), .ref (aC 4), .int iC_musts])), (aC 0, .inl (kC 0, 24, .inl fC_wants)), (aC 1, .inl (kC 1, 24, .inl fC_wantsNot)), (aC 2, .inl (kC 2, 24, .inl fC_weight)), (aC 3, .inl (kC 3, 4096, .inl fC_broken)), (aC 4, .inl (kC 4, 4096, .inl fC_loss))]
def tC (kC : Nat → ClassId) : List (ClassId × FieldType) := [(kC 0, .int), (kC 1, .int), (kC 2, .int), (kC 3, .int), (kC 4, .int)]
theorem dX0_mark_0 : decode cX0_mark 0 = .ok (.iconst 0, 1) := dk_3 (by decide +kernel)
theorem dX0_mark_1 : decode cX0_mark 1 = .ok (.istore_n 3, 1) := dk_62 (by decide +kernel)
theorem dX0_mark_2 : decode cX0_mark 2 = .ok (.iload_n 3, 1) := dk_29 (by decide +kernel)
theorem dX0_mark_3 : decode cX0_mark 3 = .ok (.sipush 4096, 3) := dk_17 (by decide +kernel)
theorem dX0_mark_6 : decode cX0_mark 6 = .ok (.if_icmp .ge 59, 3) := dk_162 (by decide +kernel)
theorem dX0_mark_9 : decode cX0_mark 9 = .ok (.iload_n 3, 1) := dk_29 (by decide +kernel)
theorem dX0_mark_10 : decode cX0_mark 10 = .ok (.aload_n 0, 1) := dk_42 (by decide +kernel)
theorem dX0_mark_11 : decode cX0_mark 11 = .ok (.getfield 11, 3) := dk_180 (by decide +kernel)
theorem dX0_mark_14 : decode cX0_mark 14 = .ok (.iload_n 1, 1) := dk_27 (by decide +kernel)
theorem dX0_mark_15 : decode cX0_mark 15 = .ok (.iaload, 1) := dk_46 (by decide +kernel)
theorem dX0_mark_16 : decode cX0_mark 16 = .ok (.iand, 1) := dk_126 (by decide +kernel)
theorem dX0_mark_17 : decode cX0_mark 17 = .ok (.ifCond .ne 42, 3) := dk_154 (by decide +kernel)
theorem dX0_mark_20 : decode cX0_mark 20 = .ok (.iload_n 3, 1) := dk_29 (by decide +kernel)
theorem dX0_mark_21 : decode cX0_mark 21 = .ok (.aload_n 0, 1) := dk_42 (by decide +kernel)
theorem dX0_mark_22 : decode cX0_mark 22 = .ok (.getfield 15, 3) := dk_180 (by decide +kernel)
theorem dX0_mark_25 : decode cX0_mark 25 = .ok (.iload_n 1, 1) := dk_27 (by decide +kernel)
theorem dX0_mark_26 : decode cX0_mark 26 = .ok (.iaload, 1) := dk_46 (by decide +kernel)
theorem dX0_mark_27 : decode cX0_mark 27 = .ok (.iand, 1) := dk_126 (by decide +kernel)
theorem dX0_mark_28 : decode cX0_mark 28 = .ok (.aload_n 0, 1) := dk_42 (by decide +kernel)
theorem dX0_mark_29 : decode cX0_mark 29 = .ok (.getfield 15, 3) := dk_180 (by decide +kernel)
theorem dX0_mark_32 : decode cX0_mark 32 = .ok (.iload_n 1, 1) := dk_27 (by decide +kernel)
theorem dX0_mark_33 : decode cX0_mark 33 = .ok (.iaload, 1) := dk_46 (by decide +kernel)
theorem dX0_mark_34 : decode cX0_mark 34 = .ok (.if_icmp .ne 25, 3) := dk_160 (by decide +kernel)
theorem dX0_mark_37 : decode cX0_mark 37 = .ok (.aload_n 0, 1) := dk_42 (by decide +kernel)
theorem dX0_mark_38 : decode cX0_mark 38 = .ok (.getfield 21, 3) := dk_180 (by decide +kernel)
theorem dX0_mark_41 : decode cX0_mark 41 = .ok (.iload_n 3, 1) := dk_29 (by decide +kernel)
theorem dX0_mark_42 : decode cX0_mark 42 = .ok (.dup2, 1) := dk_92 (by decide +kernel)
theorem dX0_mark_43 : decode cX0_mark 43 = .ok (.iaload, 1) := dk_46 (by decide +kernel)
theorem dX0_mark_44 : decode cX0_mark 44 = .ok (.iconst 1, 1) := dk_4 (by decide +kernel)
theorem dX0_mark_45 : decode cX0_mark 45 = .ok (.iload_n 1, 1) := dk_27 (by decide +kernel)
theorem dX0_mark_46 : decode cX0_mark 46 = .ok (.ishl, 1) := dk_120 (by decide +kernel)
theorem dX0_mark_47 : decode cX0_mark 47 = .ok (.ixor, 1) := dk_130 (by decide +kernel)
theorem dX0_mark_48 : decode cX0_mark 48 = .ok (.iastore, 1) := dk_79 (by decide +kernel)
theorem dX0_mark_49 : decode cX0_mark 49 = .ok (.aload_n 0, 1) := dk_42 (by decide +kernel)
theorem dX0_mark_50 : decode cX0_mark 50 = .ok (.getfield 24, 3) := dk_180 (by decide +kernel)
theorem dX0_mark_53 : decode cX0_mark 53 = .ok (.iload_n 3, 1) := dk_29 (by decide +kernel)
theorem dX0_mark_54 : decode cX0_mark 54 = .ok (.dup2, 1) := dk_92 (by decide +kernel)
theorem dX0_mark_55 : decode cX0_mark 55 = .ok (.iaload, 1) := dk_46 (by decide +kernel)
theorem dX0_mark_56 : decode cX0_mark 56 = .ok (.iload_n 2, 1) := dk_28 (by decide +kernel)
theorem dX0_mark_57 : decode cX0_mark 57 = .ok (.iadd, 1) := dk_96 (by decide +kernel)
theorem dX0_mark_58 : decode cX0_mark 58 = .ok (.iastore, 1) := dk_79 (by decide +kernel)
theorem dX0_mark_59 : decode cX0_mark 59 = .ok (.iinc 3 1, 3) := dk_132 (by decide +kernel)
theorem dX0_mark_62 : decode cX0_mark 62 = .ok (.goto (-60), 3) := dk_167 (by decide +kernel)
theorem dX0_mark_65 : decode cX0_mark 65 = .ok (.return_, 1) := dk_177 (by decide +kernel)
def wsMX0_mark : List Cond := .code yX0_mark cX0_mark 4 none :: ([.fieldLink RX0 11 "OptimaWorks$ClauseDesk" "wants" "[I", .fieldLink RX0 15 "OptimaWorks$ClauseDesk" "wantsNot" "[I", .fieldLink RX0 21 "OptimaWorks$ClauseDesk" "broken" "[I", .fieldLink RX0 24 "OptimaWorks$ClauseDesk" "loss" "[I"] ++ wsX00)
theorem iwsMX0_mark_in0 : ∀ w ∈ wsX00, w ∈ wsMX0_mark := fun _ h => List.mem_cons_of_mem _ (List.mem_append_right _ h)
theorem gdwsMX0_mark : wsMX0_mark.all goodWord = true := gdC rfl (gdA (by decide +kernel : ([.fieldLink RX0 11 "OptimaWorks$ClauseDesk" "wants" "[I", .fieldLink RX0 15 "OptimaWorks$ClauseDesk" "wantsNot" "[I", .fieldLink RX0 21 "OptimaWorks$ClauseDesk" "broken" "[I", .fieldLink RX0 24 "OptimaWorks$ClauseDesk" "loss" "[I"] : List Cond).all goodWord = true) gdwsX00)
theorem hm_m_X0_mark_0 : (.fieldLink RX0 15 "OptimaWorks$ClauseDesk" "wantsNot" "[I" : Cond) ∈ wsMX0_mark := by decide +kernel
set_option maxHeartbeats 4000000 in
set_option maxRecDepth 100000 in
/-- a clause is marked -/
theorem m_X0_mark (l : Launch) (dC : Nat → ClassId) (dI : Nat → Nat → Nat) (hC : Nat → Nat) (aC : Nat → Nat) (kC : Nat → ClassId) (iC_clauses : Int32) (fC_wants : Nat → Int32) (fC_wantsNot : Nat → Int32) (fC_weight : Nat → Int32) (fC_broken : Nat → Int32) (fC_loss : Nat → Int32) (iC_musts : Int32) (p1 : Int32) (p2 : Int32) (b_iC_clauses : 0 ≤ iC_clauses.toInt ∧ iC_clauses.toInt ≤ 24) (b_p1 : 0 ≤ p1.toInt ∧ p1.toInt ≤ 23) (sz : Nat) : Met l yX0_mark wsMX0_mark ({ frames := 0, cells := 0, slots := 0, locals := 0 }) (va_Pc [.ref (hC 0), .int p1, .int p2] (fun U => U.heap.size = sz ∧ va_P (dC, dI) vwCl (WC hC aC kC iC_clauses fC_wants fC_wantsNot fC_weight fC_broken fC_loss iC_musts) U.heap ∧ va_K (dC, dI) vwCl (tC kC) U ∧ va_D (fun _ => True) (WC hC aC kC iC_clauses fC_wants fC_wantsNot fC_weight fC_broken fC_loss iC_musts))) (va_Qv (fun (u : (Nat → Int32) × (Nat → Int32)) => (cMrk (fC_wants p1.toInt.toNat) (fC_wantsNot p1.toInt.toNat) p1 p2 fC_broken fC_loss (u.1) (u.2) 4096)) (fun (u : (Nat → Int32) × (Nat → Int32)) t => va_P (dC, dI) vwCl (WC hC aC kC iC_clauses fC_wants fC_wantsNot fC_weight (u.1) (u.2) iC_musts) t.heap ∧ va_D (va_A (WC hC aC kC iC_clauses fC_wants fC_wantsNot fC_weight fC_broken fC_loss iC_musts) sz) (WC hC aC kC iC_clauses fC_wants fC_wantsNot fC_weight (u.1) (u.2) iC_musts)) (va_A (WC hC aC kC iC_clauses fC_wants fC_wantsNot fC_weight fC_broken fC_loss iC_musts) sz)) 0 0 (va_A (WC hC aC kC iC_clauses fC_wants fC_wantsNot fC_weight fC_broken fC_loss iC_musts) sz) := by
  refine Met.ofW (cc := cX0_mark) (maxL := 4) (ret := none) (by decide) rfl ?_
  intro p e s m args below meth c s₁ B hml hv
  obtain ⟨rfl, hsz, hP, hK, hD0⟩ := hv
  have hx := B.exec
  have hb := B.bytes
  have hr := B.returns
  have hts := atoms_spec (ws := wsMX0_mark) B.pre
  have hown : s.vm.findClass RX0 = some m.cls := findClass_of_methodNamed B.named
  have hlocks := B.notSynchronized
  subst hsz
  have hD := hD0.self (sz := s.heap.size)
  generalize hAe : va_A (WC hC aC kC iC_clauses fC_wants fC_wantsNot fC_weight fC_broken fC_loss iC_musts) s.heap.size = A at hD ⊢
  have hA : ∀ q : Nat, s.heap.size ≤ q → A q := fun q h => by rw [← hAe]; exact Or.inr h
  have hS : va_S A s.heap s.heap [] := va_S.rf
  have hl := lv_entry ([.ref (hC 0), .int p1, .int p2]) (n := 4) (Nat.le_of_ble_eq_true rfl)
  rw [lg_entry_eq]
  generalize (lg_sl ([.ref (hC 0), .int p1, .int p2]) ++ List.replicate (4 - (lg_sl ([.ref (hC 0), .int p1, .int p2])).length) Slot.unset).toArray = ls at hl ⊢
  have hl : lv_has ls 4 [(0, .ref (hC 0)), (1, .int p1), (2, .int p2)] := hl
  refine lv_iconst (v := 0) hx hb dX0_mark_0 (by decide) ?_
  refine lv_istore_n hx hb dX0_mark_1 rfl hl (by decide) rfl (fun ls (hl : lv_has ls _ ([(3, .int 0), (0, .ref (hC 0)), (1, .int p1), (2, .int p2)])) => ?_)
  have hl : lv_has _ _ ([(3, .int 0), (0, .ref (hC 0)), (1, .int p1), (2, .int p2)]) := lv_sub hl [0, 1, 2, 3] rfl
  refine (fun (loop : ∀ (n9 : Nat) (fC_broken_x2 : Nat → Int32) (fC_loss_x2 : Nat → Int32) (l3_x2 : Int32) (H : Heap) (locs : List Loc) (ls : Array Slot), (0 ≤ l3_x2.toInt ∧ l3_x2.toInt ≤ 4096) → (cMrk (fC_wants p1.toInt.toNat) (fC_wantsNot p1.toInt.toNat) p1 p2 fC_broken fC_loss fC_broken_x2 fC_loss_x2 l3_x2.toInt.toNat) → (4096 - l3_x2.toInt < ((n9 : Nat) : Int)) → va_P (dC, dI) vwCl (WC hC aC kC iC_clauses fC_wants fC_wantsNot fC_weight fC_broken_x2 fC_loss_x2 iC_musts) H → va_D A (WC hC aC kC iC_clauses fC_wants fC_wantsNot fC_weight fC_broken_x2 fC_loss_x2 iC_musts) → va_S A s.heap H locs → lv_has ls 4 [(3, .int l3_x2), (0, .ref (hC 0)), (1, .int p1), (2, .int p2)] → W p l e _ s m _ below meth c H locs 0 0 _ (F0 m 2 ls [])) => loop (4097) fC_broken fC_loss 0 _ _ _ (show 0 ≤ (0 : Int32).toInt ∧ (0 : Int32).toInt ≤ 4096 from by decide) (show cMrk (fC_wants p1.toInt.toNat) (fC_wantsNot p1.toInt.toNat) p1 p2 fC_broken fC_loss fC_broken fC_loss (0 : Int32).toInt.toNat from cMrk.start (by decide)) ((by have e9 : (0 : Int32).toInt = 0 := (by decide : (0 : Int32).toInt = 0); omega)) hP hD hS hl) ?_
  intro n9
  induction n9 with
  | zero => intro fC_broken_x2 fC_loss_x2 l3_x2 H locs ls b_l3_x2 hMk hf9; exact False.elim (by omega)
  | succ n9 ihx2 =>
    intro fC_broken_x2 fC_loss_x2 l3_x2 H locs ls b_l3_x2 hMk hfx2 hP hD hS hl
    refine lv_iload_n hx hb dX0_mark_2 rfl (lv_at hl 0 rfl) ?_
    refine lv_sipush (v := 4096) hx hb dX0_mark_3 (by decide) ?_
    refine lv_icmp_ge (tgt := 65) hx hb dX0_mark_6 (by decide) (fun c_6 => ?_) (fun c_6 => ?_)
    · have t_6 : l3_x2.toInt ≥ 4096 := toI_ge c_6 rfl (by decide : (4096 : Int32).toInt = 4096)
      refine W.widen (k := 0) (n := 0) (by decide +kernel) (by decide +kernel) ?_
      exact W.vret hx hb hr (fun t9_ ht hW => ⟨⟨(fC_broken_x2, fC_loss_x2), rfl, (by (try dsimp only); rw [show 4096 = l3_x2.toInt.toNat from by omega]; exact hMk), by rw [ht]; exact hP, hD⟩, hS.F ht⟩) hS.2.2 dX0_mark_65
    · have t_6 : ¬ l3_x2.toInt ≥ 4096 := toI_nge c_6 rfl (by decide : (4096 : Int32).toInt = 4096)
      refine lv_iload_n hx hb dX0_mark_9 rfl (lv_at hl 0 rfl) ?_
      refine lv_aload_n hx hb dX0_mark_10 rfl (lv_at hl 1 rfl) ?_
      refine va_get (D := (dC, dI)) (ci := 0) (v := .ref (aC 0)) (C := RX0) (T := TX0) (N := 7) hx hb hts iwsMX0_mark_in0 hown hK hP 0 rfl rfl 1 (by decide) (hts (.fieldLink RX0 11 "OptimaWorks$ClauseDesk" "wants" "[I") (by decide +kernel)) (fun _ h9 => h9) rfl dX0_mark_11 ?_
      refine lv_iload_n hx hb dX0_mark_14 rfl (lv_at hl 2 rfl) ?_
      refine va_iald (cA := kC 0) (n := 24) (f := fC_wants) hx hb hK hP 1 0 rfl rfl (vp_in_iff.mpr ⟨b_p1.1, (Int.lt_of_le_of_lt (b_p1.2) (by decide))⟩) dX0_mark_15 ?_
      refine lv_topi (fun v49 hv49 => ?_)
      have b_v49 : v49 = fC_wants (p1).toNatClampNeg := hv49
      clear hv49
      refine lv_iand hx hb dX0_mark_16 ?_
      refine lv_topi (fun v50 hv50 => ?_)
      have b_v50 : v50 = l3_x2 &&& v49 := hv50
      clear hv50
      refine lv_if_ne (tgt := 59) hx hb dX0_mark_17 (by decide) (fun c_17 => ?_) (fun c_17 => ?_)
      · have t_17 : v50.toInt ≠ 0 := toI_ne c_17 rfl (by decide : (0 : Int32).toInt = 0)
        refine lv_iinc (v := (iI (l3_x2.toInt + 1))) hx hb dX0_mark_59 hl (k := 0) rfl (iI_add2 (iI_of _) (by decide : (1 : Int32) = iI 1)) (by decide) rfl (fun ls (hl : lv_has ls _ ([(3, .int (iI (l3_x2.toInt + 1))), (0, .ref (hC 0)), (1, .int p1), (2, .int p2)])) => ?_)
        refine lv_goto (tgt := 2) hx hb dX0_mark_62 (by decide) ?_
        have hl : lv_has _ _ ([(3, .int (iI (l3_x2.toInt + 1))), (0, .ref (hC 0)), (1, .int p1), (2, .int p2)]) := lv_sub hl [0, 1, 2, 3] rfl
        exact ihx2 fC_broken_x2 fC_loss_x2 (iI (l3_x2.toInt + 1)) _ _ _ (iI_rng (Int.le_trans (by decide) (Int.add_le_add (b_l3_x2.1) (Int.le_refl _))) (by omega) (by decide) (by decide)) (show cMrk (fC_wants p1.toInt.toNat) (fC_wantsNot p1.toInt.toNat) p1 p2 fC_broken fC_loss fC_broken_x2 fC_loss_x2 (iI (l3_x2.toInt + 1)).toInt.toNat from by rw [iI_t (by omega) (by omega), show (l3_x2.toInt + 1).toNat = l3_x2.toInt.toNat + 1 from by omega]; (have ew : v49 = fC_wants p1.toInt.toNat := b_v49; have e1 : (l3_x2 &&& fC_wants p1.toInt.toNat) = v50 := (by rw [b_v50, ← ew]); exact cMrk.no (r := l3_x2) hMk rfl (by omega) (fun h9 => by rw [e1] at h9; exact t_17 (by rw [h9.1]; decide)))) (by have e9 : ((iI (l3_x2.toInt + 1))).toInt = (l3_x2.toInt + 1) := (iI_t (Int.le_trans (by decide) (Int.add_le_add (b_l3_x2.1) (Int.le_refl _))) (Int.le_trans (Int.add_le_add (b_l3_x2.2) (Int.le_refl _)) (by decide))); omega) hP hD hS hl
      · have t_17 : v50.toInt = 0 := toI_nne c_17 rfl (by decide : (0 : Int32).toInt = 0)
        refine lv_iload_n hx hb dX0_mark_20 rfl (lv_at hl 0 rfl) ?_
        refine lv_aload_n hx hb dX0_mark_21 rfl (lv_at hl 1 rfl) ?_
        refine va_get (D := (dC, dI)) (ci := 0) (v := .ref (aC 1)) (C := RX0) (T := TX0) (N := 7) hx hb hts iwsMX0_mark_in0 hown hK hP 0 rfl rfl 2 (by decide) (hts _ hm_m_X0_mark_0) (fun _ h9 => h9) rfl dX0_mark_22 ?_
        refine lv_iload_n hx hb dX0_mark_25 rfl (lv_at hl 2 rfl) ?_
        refine va_iald (cA := kC 1) (n := 24) (f := fC_wantsNot) hx hb hK hP 2 1 rfl rfl (vp_in_iff.mpr ⟨b_p1.1, (Int.lt_of_le_of_lt (b_p1.2) (by decide))⟩) dX0_mark_26 ?_
        refine lv_topi (fun v51 hv51 => ?_)
        have b_v51 : v51 = fC_wantsNot (p1).toNatClampNeg := hv51
        clear hv51
        refine lv_iand hx hb dX0_mark_27 ?_
        refine lv_topi (fun v52 hv52 => ?_)
        have b_v52 : v52 = l3_x2 &&& v51 := hv52
        clear hv52
        refine lv_aload_n hx hb dX0_mark_28 rfl (lv_at hl 1 rfl) ?_
        refine va_get (D := (dC, dI)) (ci := 0) (v := .ref (aC 1)) (C := RX0) (T := TX0) (N := 7) hx hb hts iwsMX0_mark_in0 hown hK hP 0 rfl rfl 2 (by decide) (hts _ hm_m_X0_mark_0) (fun _ h9 => h9) rfl dX0_mark_29 ?_
        refine lv_iload_n hx hb dX0_mark_32 rfl (lv_at hl 2 rfl) ?_
        refine va_iald (cA := kC 1) (n := 24) (f := fC_wantsNot) hx hb hK hP 2 1 rfl rfl (vp_in_iff.mpr ⟨b_p1.1, (Int.lt_of_le_of_lt (b_p1.2) (by decide))⟩) dX0_mark_33 ?_
        refine lv_topi (fun v53 hv53 => ?_)
        have b_v53 : v53 = fC_wantsNot (p1).toNatClampNeg := hv53
        clear hv53
        refine lv_icmp_ne (tgt := 59) hx hb dX0_mark_34 (by decide) (fun c_34 => ?_) (fun c_34 => ?_)
        · have t_34 : v52.toInt ≠ v53.toInt := toI_ne c_34 rfl rfl
          refine lv_iinc (v := (iI (l3_x2.toInt + 1))) hx hb dX0_mark_59 hl (k := 0) rfl (iI_add2 (iI_of _) (by decide : (1 : Int32) = iI 1)) (by decide) rfl (fun ls (hl : lv_has ls _ ([(3, .int (iI (l3_x2.toInt + 1))), (0, .ref (hC 0)), (1, .int p1), (2, .int p2)])) => ?_)
          refine lv_goto (tgt := 2) hx hb dX0_mark_62 (by decide) ?_
          have hl : lv_has _ _ ([(3, .int (iI (l3_x2.toInt + 1))), (0, .ref (hC 0)), (1, .int p1), (2, .int p2)]) := lv_sub hl [0, 1, 2, 3] rfl
          exact ihx2 fC_broken_x2 fC_loss_x2 (iI (l3_x2.toInt + 1)) _ _ _ (iI_rng (Int.le_trans (by decide) (Int.add_le_add (b_l3_x2.1) (Int.le_refl _))) (by omega) (by decide) (by decide)) (show cMrk (fC_wants p1.toInt.toNat) (fC_wantsNot p1.toInt.toNat) p1 p2 fC_broken fC_loss fC_broken_x2 fC_loss_x2 (iI (l3_x2.toInt + 1)).toInt.toNat from by rw [iI_t (by omega) (by omega), show (l3_x2.toInt + 1).toNat = l3_x2.toInt.toNat + 1 from by omega]; first | (have en : v51 = fC_wantsNot p1.toInt.toNat := b_v51; have e2 : (l3_x2 &&& fC_wantsNot p1.toInt.toNat) = v52 := (by rw [b_v52, ← en]); have en2 : v53 = fC_wantsNot p1.toInt.toNat := b_v53; exact cMrk.no (r := l3_x2) hMk rfl (by omega) (fun h9 => by rw [e2, ← en2] at h9; exact t_34 (by rw [h9.2]))) | (have ew : v49 = fC_wants p1.toInt.toNat := b_v49; have e1 : (l3_x2 &&& fC_wants p1.toInt.toNat) = v50 := (by rw [b_v50, ← ew]); exact cMrk.no (r := l3_x2) hMk rfl (by omega) (fun h9 => by rw [e1] at h9; exact t_17 (by rw [h9.1]; decide)))) (by have e9 : ((iI (l3_x2.toInt + 1))).toInt = (l3_x2.toInt + 1) := (iI_t (Int.le_trans (by decide) (Int.add_le_add (b_l3_x2.1) (Int.le_refl _))) (Int.le_trans (Int.add_le_add (b_l3_x2.2) (Int.le_refl _)) (by decide))); omega) hP hD hS hl
        · have t_34 : v52.toInt = v53.toInt := toI_nne c_34 rfl rfl
          refine lv_aload_n hx hb dX0_mark_37 rfl (lv_at hl 1 rfl) ?_
          refine va_get (D := (dC, dI)) (ci := 0) (v := .ref (aC 3)) (C := RX0) (T := TX0) (N := 7) hx hb hts iwsMX0_mark_in0 hown hK hP 0 rfl rfl 4 (by decide) (hts (.fieldLink RX0 21 "OptimaWorks$ClauseDesk" "broken" "[I") (by decide +kernel)) (fun _ h9 => h9) rfl dX0_mark_38 ?_
          refine lv_iload_n hx hb dX0_mark_41 rfl (lv_at hl 0 rfl) ?_
          refine lv_dup2_11 hx hb dX0_mark_42 rfl rfl ?_
          refine va_iald (cA := kC 3) (n := 4096) (f := fC_broken_x2) hx hb hK hP 4 3 rfl rfl (vp_in_iff.mpr ⟨b_l3_x2.1, (Int.lt_of_lt_of_le (Int.not_le.mp t_6) (by decide))⟩) dX0_mark_43 ?_
          refine lv_topi (fun v54 hv54 => ?_)
          have b_v54 : v54 = fC_broken_x2 (l3_x2).toNatClampNeg := hv54
          clear hv54
          refine lv_iconst (v := 1) hx hb dX0_mark_44 (by decide) ?_
          refine lv_iload_n hx hb dX0_mark_45 rfl (lv_at hl 2 rfl) ?_
          refine lv_ishl hx hb dX0_mark_46 ?_
          refine lv_topi (fun v55 hv55 => ?_)
          have b_v55 : v55 = (1 : Int32) <<< (p1 &&& 31) := hv55
          clear hv55
          refine lv_ixor hx hb dX0_mark_47 ?_
          refine lv_topi (fun v56 hv56 => ?_)
          have b_v56 : v56 = v54 ^^^ v55 := hv56
          clear hv56
          refine va_iast (cA := kC 3) (n := 4096) (f := fC_broken_x2) hx hb hK hP hD hS 4 3 rfl rfl (vp_in_iff.mpr ⟨b_l3_x2.1, (Int.lt_of_lt_of_le (Int.not_le.mp t_6) (by decide))⟩) dX0_mark_48 (fun H locs hP hD hS => ?_)
          obtain ⟨u57, hu57⟩ : ∃ f9, f9 = upd fC_broken_x2 (l3_x2).toNatClampNeg v56 := ⟨_, rfl⟩
          have hP : va_P (dC, dI) vwCl (WC hC aC kC iC_clauses fC_wants fC_wantsNot fC_weight u57 fC_loss_x2 iC_musts) H := by rw [hu57]; exact hP
          have hD : va_D A (WC hC aC kC iC_clauses fC_wants fC_wantsNot fC_weight u57 fC_loss_x2 iC_musts) := by rw [hu57]; exact hD
          have b_u57 : u57 = upd fC_broken_x2 (l3_x2).toNatClampNeg v56 := hu57
          clear hu57
          refine lv_aload_n hx hb dX0_mark_49 rfl (lv_at hl 1 rfl) ?_
          refine va_get (D := (dC, dI)) (ci := 0) (v := .ref (aC 4)) (C := RX0) (T := TX0) (N := 7) hx hb hts iwsMX0_mark_in0 hown hK hP 0 rfl rfl 5 (by decide) (hts (.fieldLink RX0 24 "OptimaWorks$ClauseDesk" "loss" "[I") (by decide +kernel)) (fun _ h9 => h9) rfl dX0_mark_50 ?_
          refine lv_iload_n hx hb dX0_mark_53 rfl (lv_at hl 0 rfl) ?_
          refine lv_dup2_11 hx hb dX0_mark_54 rfl rfl ?_
          refine va_iald (cA := kC 4) (n := 4096) (f := fC_loss_x2) hx hb hK hP 5 4 rfl rfl (vp_in_iff.mpr ⟨b_l3_x2.1, (Int.lt_of_lt_of_le (Int.not_le.mp t_6) (by decide))⟩) dX0_mark_55 ?_
          refine lv_topi (fun v58 hv58 => ?_)
          have b_v58 : v58 = fC_loss_x2 (l3_x2).toNatClampNeg := hv58
          clear hv58
          refine lv_iload_n hx hb dX0_mark_56 rfl (lv_at hl 3 rfl) ?_
          refine lv_iadd hx hb dX0_mark_57 ?_
          refine lv_topi (fun y59 hy59 => ?_)
          obtain rfl : (iI (v58.toInt + p2.toInt)) = y59 := (hy59.trans (iI_add2 (iI_of _) (iI_of _))).symm
          refine va_iast (cA := kC 4) (n := 4096) (f := fC_loss_x2) hx hb hK hP hD hS 5 4 rfl rfl (vp_in_iff.mpr ⟨b_l3_x2.1, (Int.lt_of_lt_of_le (Int.not_le.mp t_6) (by decide))⟩) dX0_mark_58 (fun H locs hP hD hS => ?_)
          obtain ⟨u60, hu60⟩ : ∃ f9, f9 = upd fC_loss_x2 (l3_x2).toNatClampNeg (iI (v58.toInt + p2.toInt)) := ⟨_, rfl⟩
          have hP : va_P (dC, dI) vwCl (WC hC aC kC iC_clauses fC_wants fC_wantsNot fC_weight u57 u60 iC_musts) H := by rw [hu60]; exact hP
          have hD : va_D A (WC hC aC kC iC_clauses fC_wants fC_wantsNot fC_weight u57 u60 iC_musts) := by rw [hu60]; exact hD
          have b_u60 : u60 = upd fC_loss_x2 (l3_x2).toNatClampNeg (iI (v58.toInt + p2.toInt)) := hu60
          clear hu60
          refine lv_iinc (v := (iI (l3_x2.toInt + 1))) hx hb dX0_mark_59 hl (k := 0) rfl (iI_add2 (iI_of _) (by decide : (1 : Int32) = iI 1)) (by decide) rfl (fun ls (hl : lv_has ls _ ([(3, .int (iI (l3_x2.toInt + 1))), (0, .ref (hC 0)), (1, .int p1), (2, .int p2)])) => ?_)
          refine lv_goto (tgt := 2) hx hb dX0_mark_62 (by decide) ?_
          have hl : lv_has _ _ ([(3, .int (iI (l3_x2.toInt + 1))), (0, .ref (hC 0)), (1, .int p1), (2, .int p2)]) := lv_sub hl [0, 1, 2, 3] rfl
          exact ihx2 u57 u60 (iI (l3_x2.toInt + 1)) _ _ _ (iI_rng (Int.le_trans (by decide) (Int.add_le_add (b_l3_x2.1) (Int.le_refl _))) (by omega) (by decide) (by decide)) (show cMrk (fC_wants p1.toInt.toNat) (fC_wantsNot p1.toInt.toNat) p1 p2 fC_broken fC_loss u57 u60 (iI (l3_x2.toInt + 1)).toInt.toNat from by rw [iI_t (by omega) (by omega), show (l3_x2.toInt + 1).toNat = l3_x2.toInt.toNat + 1 from by omega]; (have ew : v49 = fC_wants p1.toInt.toNat := b_v49; have e1 : (l3_x2 &&& fC_wants p1.toInt.toNat) = v50 := (by rw [b_v50, ← ew]); have en : v51 = fC_wantsNot p1.toInt.toNat := b_v51; have e2 : (l3_x2 &&& fC_wantsNot p1.toInt.toNat) = v52 := (by rw [b_v52, ← en]); have en2 : v53 = fC_wantsNot p1.toInt.toNat := b_v53; exact cMrk.yes (r := l3_x2) hMk rfl (by omega) (by omega) (by rw [e1]; exact Int32.toInt_inj.mp (by rw [t_17]; decide)) (by rw [e2, ← en2]; exact Int32.toInt_inj.mp t_34) b_u57 (by rw [b_v56, b_v54, b_v55]) b_u60 (by rw [b_v58]))) (by have e9 : ((iI (l3_x2.toInt + 1))).toInt = (l3_x2.toInt + 1) := (iI_t (Int.le_trans (by decide) (Int.add_le_add (b_l3_x2.1) (Int.le_refl _))) (Int.le_trans (Int.add_le_add (b_l3_x2.2) (Int.le_refl _)) (by decide))); omega) hP hD hS hl
theorem dX0_addClause_0 : decode cX0_addClause 0 = .ok (.aload_n 0, 1) := dk_42 (by decide +kernel)
theorem dX0_addClause_1 : decode cX0_addClause 1 = .ok (.getfield 11, 3) := dk_180 (by decide +kernel)
theorem dX0_addClause_4 : decode cX0_addClause 4 = .ok (.aload_n 0, 1) := dk_42 (by decide +kernel)
theorem dX0_addClause_5 : decode cX0_addClause 5 = .ok (.getfield 27, 3) := dk_180 (by decide +kernel)
theorem dX0_addClause_8 : decode cX0_addClause 8 = .ok (.iload_n 1, 1) := dk_27 (by decide +kernel)
theorem dX0_addClause_9 : decode cX0_addClause 9 = .ok (.iastore, 1) := dk_79 (by decide +kernel)
theorem dX0_addClause_10 : decode cX0_addClause 10 = .ok (.aload_n 0, 1) := dk_42 (by decide +kernel)
theorem dX0_addClause_11 : decode cX0_addClause 11 = .ok (.getfield 15, 3) := dk_180 (by decide +kernel)
theorem dX0_addClause_14 : decode cX0_addClause 14 = .ok (.aload_n 0, 1) := dk_42 (by decide +kernel)
theorem dX0_addClause_15 : decode cX0_addClause 15 = .ok (.getfield 27, 3) := dk_180 (by decide +kernel)
theorem dX0_addClause_18 : decode cX0_addClause 18 = .ok (.iload_n 2, 1) := dk_28 (by decide +kernel)
theorem dX0_addClause_19 : decode cX0_addClause 19 = .ok (.iastore, 1) := dk_79 (by decide +kernel)
theorem dX0_addClause_20 : decode cX0_addClause 20 = .ok (.aload_n 0, 1) := dk_42 (by decide +kernel)
theorem dX0_addClause_21 : decode cX0_addClause 21 = .ok (.getfield 18, 3) := dk_180 (by decide +kernel)
theorem dX0_addClause_24 : decode cX0_addClause 24 = .ok (.aload_n 0, 1) := dk_42 (by decide +kernel)
theorem dX0_addClause_25 : decode cX0_addClause 25 = .ok (.getfield 27, 3) := dk_180 (by decide +kernel)
theorem dX0_addClause_28 : decode cX0_addClause 28 = .ok (.iload_n 3, 1) := dk_29 (by decide +kernel)
theorem dX0_addClause_29 : decode cX0_addClause 29 = .ok (.iastore, 1) := dk_79 (by decide +kernel)
theorem dX0_addClause_30 : decode cX0_addClause 30 = .ok (.iload_n 3, 1) := dk_29 (by decide +kernel)
theorem dX0_addClause_31 : decode cX0_addClause 31 = .ok (.ifCond .ne 18, 3) := dk_154 (by decide +kernel)
theorem dX0_addClause_34 : decode cX0_addClause 34 = .ok (.aload_n 0, 1) := dk_42 (by decide +kernel)
theorem dX0_addClause_35 : decode cX0_addClause 35 = .ok (.dup, 1) := dk_89 (by decide +kernel)
theorem dX0_addClause_36 : decode cX0_addClause 36 = .ok (.getfield 31, 3) := dk_180 (by decide +kernel)
theorem dX0_addClause_39 : decode cX0_addClause 39 = .ok (.iconst 1, 1) := dk_4 (by decide +kernel)
theorem dX0_addClause_40 : decode cX0_addClause 40 = .ok (.aload_n 0, 1) := dk_42 (by decide +kernel)
theorem dX0_addClause_41 : decode cX0_addClause 41 = .ok (.getfield 27, 3) := dk_180 (by decide +kernel)
theorem dX0_addClause_44 : decode cX0_addClause 44 = .ok (.ishl, 1) := dk_120 (by decide +kernel)
theorem dX0_addClause_45 : decode cX0_addClause 45 = .ok (.ior, 1) := dk_128 (by decide +kernel)
theorem dX0_addClause_46 : decode cX0_addClause 46 = .ok (.putfield 31, 3) := dk_181 (by decide +kernel)
theorem dX0_addClause_49 : decode cX0_addClause 49 = .ok (.aload_n 0, 1) := dk_42 (by decide +kernel)
theorem dX0_addClause_50 : decode cX0_addClause 50 = .ok (.aload_n 0, 1) := dk_42 (by decide +kernel)
theorem dX0_addClause_51 : decode cX0_addClause 51 = .ok (.getfield 27, 3) := dk_180 (by decide +kernel)
theorem dX0_addClause_54 : decode cX0_addClause 54 = .ok (.iload_n 3, 1) := dk_29 (by decide +kernel)
theorem dX0_addClause_55 : decode cX0_addClause 55 = .ok (.invokevirtual 34, 3) := dk_182 (by decide +kernel)
theorem dX0_addClause_58 : decode cX0_addClause 58 = .ok (.aload_n 0, 1) := dk_42 (by decide +kernel)
theorem dX0_addClause_59 : decode cX0_addClause 59 = .ok (.dup, 1) := dk_89 (by decide +kernel)
theorem dX0_addClause_60 : decode cX0_addClause 60 = .ok (.getfield 27, 3) := dk_180 (by decide +kernel)
theorem dX0_addClause_63 : decode cX0_addClause 63 = .ok (.iconst 1, 1) := dk_4 (by decide +kernel)
theorem dX0_addClause_64 : decode cX0_addClause 64 = .ok (.iadd, 1) := dk_96 (by decide +kernel)
theorem dX0_addClause_65 : decode cX0_addClause 65 = .ok (.putfield 27, 3) := dk_181 (by decide +kernel)
theorem dX0_addClause_68 : decode cX0_addClause 68 = .ok (.aload_n 0, 1) := dk_42 (by decide +kernel)
theorem dX0_addClause_69 : decode cX0_addClause 69 = .ok (.getfield 27, 3) := dk_180 (by decide +kernel)
theorem dX0_addClause_72 : decode cX0_addClause 72 = .ok (.iconst 1, 1) := dk_4 (by decide +kernel)
theorem dX0_addClause_73 : decode cX0_addClause 73 = .ok (.isub, 1) := dk_100 (by decide +kernel)
theorem dX0_addClause_74 : decode cX0_addClause 74 = .ok (.ireturn, 1) := dk_172 (by decide +kernel)
def wsMX0_addClause : List Cond := .code yX0_addClause cX0_addClause 4 (some .int) :: ([.fieldLink RX0 11 "OptimaWorks$ClauseDesk" "wants" "[I", .fieldLink RX0 27 "OptimaWorks$ClauseDesk" "clauses" "I", .fieldLink RX0 15 "OptimaWorks$ClauseDesk" "wantsNot" "[I", .fieldLink RX0 18 "OptimaWorks$ClauseDesk" "weight" "[I", .fieldLink RX0 31 "OptimaWorks$ClauseDesk" "musts" "I"] ++ wsX00 ++ (wsV RX0 34 RX0 yX0_mark wsMX0_mark))
theorem iwsMX0_addClause_in0 : ∀ w ∈ wsX00, w ∈ wsMX0_addClause := fun _ h => List.mem_cons_of_mem _ (List.mem_append_left _ (List.mem_append_right _ h))
theorem gwsMX0_addClause_0 : GoodIn wsMX0_addClause (wsV RX0 34 RX0 yX0_mark wsMX0_mark) := goodIn_sub (fun _ h => List.mem_cons_of_mem _ (List.mem_append_right _ h)) (gdV (by decide +kernel) gdwsMX0_mark)
theorem gdwsMX0_addClause : wsMX0_addClause.all goodWord = true := gdC rfl (gdA (gdA (by decide +kernel : ([.fieldLink RX0 11 "OptimaWorks$ClauseDesk" "wants" "[I", .fieldLink RX0 27 "OptimaWorks$ClauseDesk" "clauses" "I", .fieldLink RX0 15 "OptimaWorks$ClauseDesk" "wantsNot" "[I", .fieldLink RX0 18 "OptimaWorks$ClauseDesk" "weight" "[I", .fieldLink RX0 31 "OptimaWorks$ClauseDesk" "musts" "I"] : List Cond).all goodWord = true) gdwsX00) (gdV (by decide +kernel) gdwsMX0_mark))
theorem hm_m_X0_addClause_0 : (.fieldLink RX0 27 "OptimaWorks$ClauseDesk" "clauses" "I" : Cond) ∈ wsMX0_addClause := by decide +kernel
theorem hm_m_X0_addClause_1 : (.fieldLink RX0 31 "OptimaWorks$ClauseDesk" "musts" "I" : Cond) ∈ wsMX0_addClause := by decide +kernel
set_option maxHeartbeats 4000000 in
set_option maxRecDepth 100000 in
/-- a clause more -/
theorem m_X0_addClause (l : Launch) (dC : Nat → ClassId) (dI : Nat → Nat → Nat) (hC : Nat → Nat) (aC : Nat → Nat) (kC : Nat → ClassId) (iC_clauses : Int32) (fC_wants : Nat → Int32) (fC_wantsNot : Nat → Int32) (fC_weight : Nat → Int32) (fC_broken : Nat → Int32) (fC_loss : Nat → Int32) (iC_musts : Int32) (p1 : Int32) (p2 : Int32) (p3 : Int32) (b_iC_clauses : 0 ≤ iC_clauses.toInt ∧ iC_clauses.toInt ≤ 24) (b_p3 : 0 ≤ p3.toInt ∧ p3.toInt ≤ 1000) (hlt : iC_clauses.toInt < 24) (hCv : cVal (iC_clauses.toInt, fC_wants, fC_wantsNot, fC_weight)) (hCI : ClI (iC_clauses.toInt, fC_wants, fC_wantsNot, fC_weight) fC_broken fC_loss iC_musts) (sz : Nat) : Met l yX0_addClause wsMX0_addClause ({ frames := 1, cells := 0, slots := 0, locals := 23 }) (va_Pc [.ref (hC 0), .int p1, .int p2, .int p3] (fun U => U.heap.size = sz ∧ va_P (dC, dI) vwCl (WC hC aC kC iC_clauses fC_wants fC_wantsNot fC_weight fC_broken fC_loss iC_musts) U.heap ∧ va_K (dC, dI) vwCl (tC kC) U ∧ va_D (fun _ => True) (WC hC aC kC iC_clauses fC_wants fC_wantsNot fC_weight fC_broken fC_loss iC_musts))) (va_Qi (fun (r : Int32) (u : (Int32) × (Nat → Int32) × (Nat → Int32) × (Nat → Int32) × (Nat → Int32) × (Nat → Int32) × (Int32)) => (0 ≤ (u.1).toInt ∧ (u.1).toInt ≤ 24) ∧ ((u.1).toInt = iC_clauses.toInt + 1) ∧ (r.toInt = iC_clauses.toInt) ∧ ((u.2.1) = upd fC_wants iC_clauses.toInt.toNat p1) ∧ ((u.2.2.1) = upd fC_wantsNot iC_clauses.toInt.toNat p2) ∧ ((u.2.2.2.1) = upd fC_weight iC_clauses.toInt.toNat p3) ∧ (ClI ((u.1).toInt, (u.2.1), (u.2.2.1), (u.2.2.2.1)) (u.2.2.2.2.1) (u.2.2.2.2.2.1) (u.2.2.2.2.2.2)) ∧ (cVal ((u.1).toInt, (u.2.1), (u.2.2.1), (u.2.2.2.1)))) (fun (u : (Int32) × (Nat → Int32) × (Nat → Int32) × (Nat → Int32) × (Nat → Int32) × (Nat → Int32) × (Int32)) t => va_P (dC, dI) vwCl (WC hC aC kC (u.1) (u.2.1) (u.2.2.1) (u.2.2.2.1) (u.2.2.2.2.1) (u.2.2.2.2.2.1) (u.2.2.2.2.2.2)) t.heap ∧ va_D (va_A (WC hC aC kC iC_clauses fC_wants fC_wantsNot fC_weight fC_broken fC_loss iC_musts) sz) (WC hC aC kC (u.1) (u.2.1) (u.2.2.1) (u.2.2.2.1) (u.2.2.2.2.1) (u.2.2.2.2.2.1) (u.2.2.2.2.2.2))) (va_A (WC hC aC kC iC_clauses fC_wants fC_wantsNot fC_weight fC_broken fC_loss iC_musts) sz)) 0 0 (va_A (WC hC aC kC iC_clauses fC_wants fC_wantsNot fC_weight fC_broken fC_loss iC_musts) sz) := by
  refine Met.ofW (cc := cX0_addClause) (maxL := 4) (ret := (some .int)) (by decide) rfl ?_
  intro p e s m args below meth c s₁ B hml hv
  obtain ⟨rfl, hsz, hP, hK, hD0⟩ := hv
  have hx := B.exec
  have hb := B.bytes
  have hr := B.returns
  have hts := atoms_spec (ws := wsMX0_addClause) B.pre
  have hown : s.vm.findClass RX0 = some m.cls := findClass_of_methodNamed B.named
  have hlocks := B.notSynchronized
  subst hsz
  have hD := hD0.self (sz := s.heap.size)
  generalize hAe : va_A (WC hC aC kC iC_clauses fC_wants fC_wantsNot fC_weight fC_broken fC_loss iC_musts) s.heap.size = A at hD ⊢
  have hA : ∀ q : Nat, s.heap.size ≤ q → A q := fun q h => by rw [← hAe]; exact Or.inr h
  have hS : va_S A s.heap s.heap [] := va_S.rf
  have hl := lv_entry ([.ref (hC 0), .int p1, .int p2, .int p3]) (n := 4) (Nat.le_of_ble_eq_true rfl)
  rw [lg_entry_eq]
  generalize (lg_sl ([.ref (hC 0), .int p1, .int p2, .int p3]) ++ List.replicate (4 - (lg_sl ([.ref (hC 0), .int p1, .int p2, .int p3])).length) Slot.unset).toArray = ls at hl ⊢
  have hl : lv_has ls 4 [(0, .ref (hC 0)), (1, .int p1), (2, .int p2), (3, .int p3)] := hl
  refine lv_aload_n hx hb dX0_addClause_0 rfl (lv_at hl 0 rfl) ?_
  refine va_get (D := (dC, dI)) (ci := 0) (v := .ref (aC 0)) (C := RX0) (T := TX0) (N := 7) hx hb hts iwsMX0_addClause_in0 hown hK hP 0 rfl rfl 1 (by decide) (hts (.fieldLink RX0 11 "OptimaWorks$ClauseDesk" "wants" "[I") (by decide +kernel)) (fun _ h9 => h9) rfl dX0_addClause_1 ?_
  refine lv_aload_n hx hb dX0_addClause_4 rfl (lv_at hl 0 rfl) ?_
  refine va_get (D := (dC, dI)) (ci := 0) (v := .int iC_clauses) (C := RX0) (T := TX0) (N := 7) hx hb hts iwsMX0_addClause_in0 hown hK hP 0 rfl rfl 0 (by decide) (hts _ hm_m_X0_addClause_0) (fun _ h9 => h9) rfl dX0_addClause_5 ?_
  refine lv_iload_n hx hb dX0_addClause_8 rfl (lv_at hl 1 rfl) ?_
  refine va_iast (cA := kC 0) (n := 24) (f := fC_wants) hx hb hK hP hD hS 1 0 rfl rfl (vp_in_iff.mpr ⟨b_iC_clauses.1, (by omega)⟩) dX0_addClause_9 (fun H locs hP hD hS => ?_)
  obtain ⟨u1, hu1⟩ : ∃ f9, f9 = upd fC_wants (iC_clauses).toNatClampNeg p1 := ⟨_, rfl⟩
  have hP : va_P (dC, dI) vwCl (WC hC aC kC iC_clauses u1 fC_wantsNot fC_weight fC_broken fC_loss iC_musts) H := by rw [hu1]; exact hP
  have hD : va_D A (WC hC aC kC iC_clauses u1 fC_wantsNot fC_weight fC_broken fC_loss iC_musts) := by rw [hu1]; exact hD
  have b_u1 : u1 = upd fC_wants (iC_clauses).toNatClampNeg p1 := hu1
  clear hu1
  refine lv_aload_n hx hb dX0_addClause_10 rfl (lv_at hl 0 rfl) ?_
  refine va_get (D := (dC, dI)) (ci := 0) (v := .ref (aC 1)) (C := RX0) (T := TX0) (N := 7) hx hb hts iwsMX0_addClause_in0 hown hK hP 0 rfl rfl 2 (by decide) (hts (.fieldLink RX0 15 "OptimaWorks$ClauseDesk" "wantsNot" "[I") (by decide +kernel)) (fun _ h9 => h9) rfl dX0_addClause_11 ?_
  refine lv_aload_n hx hb dX0_addClause_14 rfl (lv_at hl 0 rfl) ?_
  refine va_get (D := (dC, dI)) (ci := 0) (v := .int iC_clauses) (C := RX0) (T := TX0) (N := 7) hx hb hts iwsMX0_addClause_in0 hown hK hP 0 rfl rfl 0 (by decide) (hts _ hm_m_X0_addClause_0) (fun _ h9 => h9) rfl dX0_addClause_15 ?_
  refine lv_iload_n hx hb dX0_addClause_18 rfl (lv_at hl 2 rfl) ?_
  refine va_iast (cA := kC 1) (n := 24) (f := fC_wantsNot) hx hb hK hP hD hS 2 1 rfl rfl (vp_in_iff.mpr ⟨b_iC_clauses.1, (by omega)⟩) dX0_addClause_19 (fun H locs hP hD hS => ?_)
  obtain ⟨u2, hu2⟩ : ∃ f9, f9 = upd fC_wantsNot (iC_clauses).toNatClampNeg p2 := ⟨_, rfl⟩
  have hP : va_P (dC, dI) vwCl (WC hC aC kC iC_clauses u1 u2 fC_weight fC_broken fC_loss iC_musts) H := by rw [hu2]; exact hP
  have hD : va_D A (WC hC aC kC iC_clauses u1 u2 fC_weight fC_broken fC_loss iC_musts) := by rw [hu2]; exact hD
  have b_u2 : u2 = upd fC_wantsNot (iC_clauses).toNatClampNeg p2 := hu2
  clear hu2
  refine lv_aload_n hx hb dX0_addClause_20 rfl (lv_at hl 0 rfl) ?_
  refine va_get (D := (dC, dI)) (ci := 0) (v := .ref (aC 2)) (C := RX0) (T := TX0) (N := 7) hx hb hts iwsMX0_addClause_in0 hown hK hP 0 rfl rfl 3 (by decide) (hts (.fieldLink RX0 18 "OptimaWorks$ClauseDesk" "weight" "[I") (by decide +kernel)) (fun _ h9 => h9) rfl dX0_addClause_21 ?_
  refine lv_aload_n hx hb dX0_addClause_24 rfl (lv_at hl 0 rfl) ?_
  refine va_get (D := (dC, dI)) (ci := 0) (v := .int iC_clauses) (C := RX0) (T := TX0) (N := 7) hx hb hts iwsMX0_addClause_in0 hown hK hP 0 rfl rfl 0 (by decide) (hts _ hm_m_X0_addClause_0) (fun _ h9 => h9) rfl dX0_addClause_25 ?_
  refine lv_iload_n hx hb dX0_addClause_28 rfl (lv_at hl 3 rfl) ?_
  refine va_iast (cA := kC 2) (n := 24) (f := fC_weight) hx hb hK hP hD hS 3 2 rfl rfl (vp_in_iff.mpr ⟨b_iC_clauses.1, (by omega)⟩) dX0_addClause_29 (fun H locs hP hD hS => ?_)
  obtain ⟨u3, hu3⟩ : ∃ f9, f9 = upd fC_weight (iC_clauses).toNatClampNeg p3 := ⟨_, rfl⟩
  have hP : va_P (dC, dI) vwCl (WC hC aC kC iC_clauses u1 u2 u3 fC_broken fC_loss iC_musts) H := by rw [hu3]; exact hP
  have hD : va_D A (WC hC aC kC iC_clauses u1 u2 u3 fC_broken fC_loss iC_musts) := by rw [hu3]; exact hD
  have b_u3 : u3 = upd fC_weight (iC_clauses).toNatClampNeg p3 := hu3
  clear hu3
  refine lv_iload_n hx hb dX0_addClause_30 rfl (lv_at hl 3 rfl) ?_
  refine W.cut (pc := 49) (fun H locs ls stk => ∃ (iC_musts_j2 : Int32), ((p3.toInt = 0 ∧ iC_musts_j2 = iC_musts ||| ((1 : Int32) <<< (iC_clauses &&& 31))) ∨ (p3.toInt ≠ 0 ∧ iC_musts_j2 = iC_musts)) ∧  stk = [] ∧ va_P (dC, dI) vwCl (WC hC aC kC iC_clauses u1 u2 u3 fC_broken fC_loss iC_musts_j2) H ∧ va_D A (WC hC aC kC iC_clauses u1 u2 u3 fC_broken fC_loss iC_musts_j2) ∧ va_S A s.heap H locs ∧ lv_has ls 4 [(0, .ref (hC 0)), (1, .int p1), (2, .int p2), (3, .int p3)]) (fun join2 => ?_) ?_
  · refine lv_if_ne (tgt := 49) hx hb dX0_addClause_31 (by decide) (fun c_31 => ?_) (fun c_31 => ?_)
    · have t_31 : p3.toInt ≠ 0 := toI_ne c_31 rfl (by decide : (0 : Int32).toInt = 0)
      have hl : lv_has _ _ ([(0, .ref (hC 0)), (1, .int p1), (2, .int p2), (3, .int p3)]) := lv_sub hl [0, 1, 2, 3] rfl
      exact join2 _ _ _ _ ⟨iC_musts, (show (p3.toInt = 0 ∧ iC_musts = iC_musts ||| ((1 : Int32) <<< (iC_clauses &&& 31))) ∨ (p3.toInt ≠ 0 ∧ iC_musts = iC_musts) from by first | exact Or.inl ⟨t_31, by rw [b_v5, b_v4]⟩ | exact Or.inr ⟨t_31, rfl⟩), rfl, hP, hD, hS, hl⟩
    · have t_31 : p3.toInt = 0 := toI_nne c_31 rfl (by decide : (0 : Int32).toInt = 0)
      refine lv_aload_n hx hb dX0_addClause_34 rfl (lv_at hl 0 rfl) ?_
      refine lv_dup hx hb dX0_addClause_35 rfl ?_
      refine va_get (D := (dC, dI)) (ci := 0) (v := .int iC_musts) (C := RX0) (T := TX0) (N := 7) hx hb hts iwsMX0_addClause_in0 hown hK hP 0 rfl rfl 6 (by decide) (hts _ hm_m_X0_addClause_1) (fun _ h9 => h9) rfl dX0_addClause_36 ?_
      refine lv_iconst (v := 1) hx hb dX0_addClause_39 (by decide) ?_
      refine lv_aload_n hx hb dX0_addClause_40 rfl (lv_at hl 0 rfl) ?_
      refine va_get (D := (dC, dI)) (ci := 0) (v := .int iC_clauses) (C := RX0) (T := TX0) (N := 7) hx hb hts iwsMX0_addClause_in0 hown hK hP 0 rfl rfl 0 (by decide) (hts _ hm_m_X0_addClause_0) (fun _ h9 => h9) rfl dX0_addClause_41 ?_
      refine lv_ishl hx hb dX0_addClause_44 ?_
      refine lv_topi (fun v6 hv6 => ?_)
      have b_v6 : v6 = (1 : Int32) <<< (iC_clauses &&& 31) := hv6
      clear hv6
      refine lv_ior hx hb dX0_addClause_45 ?_
      refine lv_topi (fun v7 hv7 => ?_)
      have b_v7 : v7 = iC_musts ||| v6 := hv7
      clear hv7
      refine va_put (D := (dC, dI)) (ci := 0) (v := .int v7) (ty := .int) (C := RX0) (T := TX0) (N := 7) hx hb hts iwsMX0_addClause_in0 tyX0 tyX0_ok nmX0 hown hK hP hD hS 0 rfl rfl 6 (by decide) (hts _ hm_m_X0_addClause_1) (fun _ h9 => h9) rfl (by decide +kernel) rfl rfl (Nat.le_of_ble_eq_true rfl) dX0_addClause_46 (fun H locs hP hD hS => ?_)
      have hP : va_P (dC, dI) vwCl (WC hC aC kC iC_clauses u1 u2 u3 fC_broken fC_loss v7) H := hP
      have hD := fz_sd hP (hD) rfl
      have hl : lv_has _ _ ([(0, .ref (hC 0)), (1, .int p1), (2, .int p2), (3, .int p3)]) := lv_sub hl [0, 1, 2, 3] rfl
      exact join2 _ _ _ _ ⟨v7, (show (p3.toInt = 0 ∧ v7 = iC_musts ||| ((1 : Int32) <<< (iC_clauses &&& 31))) ∨ (p3.toInt ≠ 0 ∧ v7 = iC_musts) from by first | exact Or.inl ⟨t_31, by rw [b_v7, b_v6]⟩ | exact Or.inr ⟨t_31, rfl⟩), rfl, hP, hD, hS, hl⟩
  · rintro H locs ls stk ⟨iC_musts_j2, hmu, rfl, hP, hD, hS, hl⟩
    refine lv_aload_n hx hb dX0_addClause_49 rfl (lv_at hl 0 rfl) ?_
    refine lv_aload_n hx hb dX0_addClause_50 rfl (lv_at hl 0 rfl) ?_
    refine va_get (D := (dC, dI)) (ci := 0) (v := .int iC_clauses) (C := RX0) (T := TX0) (N := 7) hx hb hts iwsMX0_addClause_in0 hown hK hP 0 rfl rfl 0 (by decide) (hts _ hm_m_X0_addClause_0) (fun _ h9 => h9) rfl dX0_addClause_51 ?_
    refine lv_iload_n hx hb dX0_addClause_54 rfl (lv_at hl 3 rfl) ?_
    have hFc := allFree hD hS hA
    refine va_callv (va_runV (As := [.int iC_clauses, .int p3]) (rest := []) ⟨hx, hb, hml, hown, hts⟩ (m_X0_mark l dC dI hC aC kC iC_clauses u1 u2 u3 fC_broken fC_loss iC_musts_j2 iC_clauses p3 (b_iC_clauses) (by first | exact b_iC_clauses | with_reducible assumption | exact ⟨by omega, by omega⟩ | assumption) H.size) (cwV 2 hts gwsMX0_addClause_0 rfl rfl rfl hd_yX0_mark_RX0 (by decide +kernel)) (fz_pre (va_recv hK hP (ci := 0) (q0 := 0) rfl rfl) hP hK hD) rfl rfl hl.1 rfl (lv_room (Nat.le_of_ble_eq_true rfl)) dX0_addClause_55 (by decide +kernel)) hS (fun q _ h => hFc q h) hFc (fun u t9_ H locs ht hvm hw9 hB9 hz1 hk1 hS => ?_)
    revert u hw9 hB9
    refine fz_p2 ?_
    intro fC_broken_8 fC_loss_8 hw9 hB9
    try dsimp only at hw9 hB9
    have f8_0 := hw9
    try dsimp only at f8_0
    have hP : va_P (dC, dI) vwCl (WC hC aC kC iC_clauses u1 u2 u3 fC_broken_8 fC_loss_8 iC_musts_j2) H := fz_P ht hB9.1
    have hD := fz_sd hP (hB9.2.weaken (fun _ q _ h => hFc q.1 h)) rfl
    have hmk9 := f8_0
    refine lv_aload_n hx hb dX0_addClause_58 rfl (lv_at hl 0 rfl) ?_
    refine lv_dup hx hb dX0_addClause_59 rfl ?_
    refine va_get (D := (dC, dI)) (ci := 0) (v := .int iC_clauses) (C := RX0) (T := TX0) (N := 7) hx hb hts iwsMX0_addClause_in0 hown hK hP 0 rfl rfl 0 (by decide) (hts _ hm_m_X0_addClause_0) (fun _ h9 => h9) rfl dX0_addClause_60 ?_
    refine lv_iconst (v := 1) hx hb dX0_addClause_63 (by decide) ?_
    refine lv_iadd hx hb dX0_addClause_64 ?_
    refine lv_topi (fun y9 hy9 => ?_)
    obtain rfl : (iI (iC_clauses.toInt + 1)) = y9 := (hy9.trans (iI_add2 (iI_of _) (by decide : (1 : Int32) = iI 1))).symm
    refine va_put (D := (dC, dI)) (ci := 0) (v := .int (iI (iC_clauses.toInt + 1))) (ty := .int) (C := RX0) (T := TX0) (N := 7) hx hb hts iwsMX0_addClause_in0 tyX0 tyX0_ok nmX0 hown hK hP hD hS 0 rfl rfl 0 (by decide) (hts _ hm_m_X0_addClause_0) (fun _ h9 => h9) rfl (by decide +kernel) rfl rfl (Nat.le_of_ble_eq_true rfl) dX0_addClause_65 (fun H locs hP hD hS => ?_)
    have hP : va_P (dC, dI) vwCl (WC hC aC kC (iI (iC_clauses.toInt + 1)) u1 u2 u3 fC_broken_8 fC_loss_8 iC_musts_j2) H := hP
    have hD := fz_sd hP (hD) rfl
    refine lv_aload_n hx hb dX0_addClause_68 rfl (lv_at hl 0 rfl) ?_
    refine va_get (D := (dC, dI)) (ci := 0) (v := .int (iI (iC_clauses.toInt + 1))) (C := RX0) (T := TX0) (N := 7) hx hb hts iwsMX0_addClause_in0 hown hK hP 0 rfl rfl 0 (by decide) (hts _ hm_m_X0_addClause_0) (fun _ h9 => h9) rfl dX0_addClause_69 ?_
    refine lv_iconst (v := 1) hx hb dX0_addClause_72 (by decide) ?_
    refine lv_isub hx hb dX0_addClause_73 ?_
    refine lv_topi (fun y10 hy10 => ?_)
    obtain rfl : (iI ((iC_clauses.toInt + 1) - 1)) = y10 := (hy10.trans (iI_sub2 rfl (by decide : (1 : Int32) = iI 1))).symm
    refine W.widen (k := 0) (n := 0) (by decide +kernel) (by decide +kernel) ?_
    exact W.iret (v := (iI ((iC_clauses.toInt + 1) - 1))) hx hb hr (fun t9_ ht hW => ⟨⟨(iI ((iC_clauses.toInt + 1) - 1)), ((iI (iC_clauses.toInt + 1)), u1, u2, u3, fC_broken_8, fC_loss_8, iC_musts_j2), rfl, ⟨(by (try dsimp only); exact (iI_rng (Int.le_trans (by decide) (Int.add_le_add (b_iC_clauses.1) (Int.le_refl _))) (by omega) (by decide) (by decide))), (by (try dsimp only); first | (rw [iI_t (by omega) (by omega)] <;> omega) | omega), (by (try dsimp only); first | (rw [iI_t (by omega) (by omega)] <;> omega) | omega), b_u1, b_u2, b_u3, (by (try dsimp only); have e0 : iC_clauses.toNatClampNeg = iC_clauses.toInt.toNat := rfl; have ek : ((iI (iC_clauses.toInt + 1)).toInt, u1, u2, u3) = clAdd (iC_clauses.toInt, fC_wants, fC_wantsNot, fC_weight) p1 p2 p3 := clAdd_of (by rw [iI_t (by omega) (by omega)]) e0 b_u1 b_u2 b_u3; rw [ek]; refine ClI.add (i := iC_clauses) hCv (by (try dsimp only); omega) hCI ?_ rfl ⟨by omega, by omega⟩ hmu; have h9 := hmk9; rw [b_u1, b_u2] at h9; rw [show (upd fC_wants iC_clauses.toNatClampNeg p1) iC_clauses.toInt.toNat = p1 from if_pos rfl, show (upd fC_wantsNot iC_clauses.toNatClampNeg p2) iC_clauses.toInt.toNat = p2 from if_pos rfl] at h9; exact h9), (by (try dsimp only); have e0 : iC_clauses.toNatClampNeg = iC_clauses.toInt.toNat := rfl; have ek : ((iI (iC_clauses.toInt + 1)).toInt, u1, u2, u3) = clAdd (iC_clauses.toInt, fC_wants, fC_wantsNot, fC_weight) p1 p2 p3 := clAdd_of (by rw [iI_t (by omega) (by omega)]) e0 b_u1 b_u2 b_u3; rw [ek]; exact cVal.add hCv (by (try dsimp only); omega) ⟨by omega, by omega⟩)⟩, by rw [ht]; exact hP, hD⟩, hS.F ht⟩) hS.2.2 dX0_addClause_74
theorem dX0_dropClause_0 : decode cX0_dropClause 0 = .ok (.aload_n 0, 1) := dk_42 (by decide +kernel)
theorem dX0_dropClause_1 : decode cX0_dropClause 1 = .ok (.getfield 27, 3) := dk_180 (by decide +kernel)
theorem dX0_dropClause_4 : decode cX0_dropClause 4 = .ok (.ifCond .ne 5, 3) := dk_154 (by decide +kernel)
theorem dX0_dropClause_7 : decode cX0_dropClause 7 = .ok (.iconst 0, 1) := dk_3 (by decide +kernel)
theorem dX0_dropClause_8 : decode cX0_dropClause 8 = .ok (.ireturn, 1) := dk_172 (by decide +kernel)
theorem dX0_dropClause_9 : decode cX0_dropClause 9 = .ok (.aload_n 0, 1) := dk_42 (by decide +kernel)
theorem dX0_dropClause_10 : decode cX0_dropClause 10 = .ok (.dup, 1) := dk_89 (by decide +kernel)
theorem dX0_dropClause_11 : decode cX0_dropClause 11 = .ok (.getfield 27, 3) := dk_180 (by decide +kernel)
theorem dX0_dropClause_14 : decode cX0_dropClause 14 = .ok (.iconst 1, 1) := dk_4 (by decide +kernel)
theorem dX0_dropClause_15 : decode cX0_dropClause 15 = .ok (.isub, 1) := dk_100 (by decide +kernel)
theorem dX0_dropClause_16 : decode cX0_dropClause 16 = .ok (.putfield 27, 3) := dk_181 (by decide +kernel)
theorem dX0_dropClause_19 : decode cX0_dropClause 19 = .ok (.aload_n 0, 1) := dk_42 (by decide +kernel)
theorem dX0_dropClause_20 : decode cX0_dropClause 20 = .ok (.dup, 1) := dk_89 (by decide +kernel)
theorem dX0_dropClause_21 : decode cX0_dropClause 21 = .ok (.getfield 31, 3) := dk_180 (by decide +kernel)
theorem dX0_dropClause_24 : decode cX0_dropClause 24 = .ok (.iconst 1, 1) := dk_4 (by decide +kernel)
theorem dX0_dropClause_25 : decode cX0_dropClause 25 = .ok (.aload_n 0, 1) := dk_42 (by decide +kernel)
theorem dX0_dropClause_26 : decode cX0_dropClause 26 = .ok (.getfield 27, 3) := dk_180 (by decide +kernel)
theorem dX0_dropClause_29 : decode cX0_dropClause 29 = .ok (.ishl, 1) := dk_120 (by decide +kernel)
theorem dX0_dropClause_30 : decode cX0_dropClause 30 = .ok (.iconst (-1), 1) := dk_2 (by decide +kernel)
theorem dX0_dropClause_31 : decode cX0_dropClause 31 = .ok (.ixor, 1) := dk_130 (by decide +kernel)
theorem dX0_dropClause_32 : decode cX0_dropClause 32 = .ok (.iand, 1) := dk_126 (by decide +kernel)
theorem dX0_dropClause_33 : decode cX0_dropClause 33 = .ok (.putfield 31, 3) := dk_181 (by decide +kernel)
theorem dX0_dropClause_36 : decode cX0_dropClause 36 = .ok (.aload_n 0, 1) := dk_42 (by decide +kernel)
theorem dX0_dropClause_37 : decode cX0_dropClause 37 = .ok (.aload_n 0, 1) := dk_42 (by decide +kernel)
theorem dX0_dropClause_38 : decode cX0_dropClause 38 = .ok (.getfield 27, 3) := dk_180 (by decide +kernel)
theorem dX0_dropClause_41 : decode cX0_dropClause 41 = .ok (.aload_n 0, 1) := dk_42 (by decide +kernel)
theorem dX0_dropClause_42 : decode cX0_dropClause 42 = .ok (.getfield 18, 3) := dk_180 (by decide +kernel)
theorem dX0_dropClause_45 : decode cX0_dropClause 45 = .ok (.aload_n 0, 1) := dk_42 (by decide +kernel)
theorem dX0_dropClause_46 : decode cX0_dropClause 46 = .ok (.getfield 27, 3) := dk_180 (by decide +kernel)
theorem dX0_dropClause_49 : decode cX0_dropClause 49 = .ok (.iaload, 1) := dk_46 (by decide +kernel)
theorem dX0_dropClause_50 : decode cX0_dropClause 50 = .ok (.ineg, 1) := dk_116 (by decide +kernel)
theorem dX0_dropClause_51 : decode cX0_dropClause 51 = .ok (.invokevirtual 34, 3) := dk_182 (by decide +kernel)
theorem dX0_dropClause_54 : decode cX0_dropClause 54 = .ok (.iconst 1, 1) := dk_4 (by decide +kernel)
theorem dX0_dropClause_55 : decode cX0_dropClause 55 = .ok (.ireturn, 1) := dk_172 (by decide +kernel)
def wsMX0_dropClause : List Cond := .code yX0_dropClause cX0_dropClause 1 (some .boolean) :: ([.fieldLink RX0 27 "OptimaWorks$ClauseDesk" "clauses" "I", .fieldLink RX0 31 "OptimaWorks$ClauseDesk" "musts" "I", .fieldLink RX0 18 "OptimaWorks$ClauseDesk" "weight" "[I"] ++ wsX00 ++ (wsV RX0 34 RX0 yX0_mark wsMX0_mark))
theorem iwsMX0_dropClause_in0 : ∀ w ∈ wsX00, w ∈ wsMX0_dropClause := fun _ h => List.mem_cons_of_mem _ (List.mem_append_left _ (List.mem_append_right _ h))
theorem gwsMX0_dropClause_0 : GoodIn wsMX0_dropClause (wsV RX0 34 RX0 yX0_mark wsMX0_mark) := goodIn_sub (fun _ h => List.mem_cons_of_mem _ (List.mem_append_right _ h)) (gdV (by decide +kernel) gdwsMX0_mark)
theorem gdwsMX0_dropClause : wsMX0_dropClause.all goodWord = true := gdC rfl (gdA (gdA (by decide +kernel : ([.fieldLink RX0 27 "OptimaWorks$ClauseDesk" "clauses" "I", .fieldLink RX0 31 "OptimaWorks$ClauseDesk" "musts" "I", .fieldLink RX0 18 "OptimaWorks$ClauseDesk" "weight" "[I"] : List Cond).all goodWord = true) gdwsX00) (gdV (by decide +kernel) gdwsMX0_mark))
theorem hm_m_X0_dropClause_0 : (.fieldLink RX0 27 "OptimaWorks$ClauseDesk" "clauses" "I" : Cond) ∈ wsMX0_dropClause := by decide +kernel
theorem hm_m_X0_dropClause_1 : (.fieldLink RX0 31 "OptimaWorks$ClauseDesk" "musts" "I" : Cond) ∈ wsMX0_dropClause := by decide +kernel
set_option maxHeartbeats 4000000 in
set_option maxRecDepth 100000 in
/-- a clause less -/
theorem m_X0_dropClause (l : Launch) (dC : Nat → ClassId) (dI : Nat → Nat → Nat) (hC : Nat → Nat) (aC : Nat → Nat) (kC : Nat → ClassId) (iC_clauses : Int32) (fC_wants : Nat → Int32) (fC_wantsNot : Nat → Int32) (fC_weight : Nat → Int32) (fC_broken : Nat → Int32) (fC_loss : Nat → Int32) (iC_musts : Int32) (b_iC_clauses : 0 ≤ iC_clauses.toInt ∧ iC_clauses.toInt ≤ 24) (hCv : cVal (iC_clauses.toInt, fC_wants, fC_wantsNot, fC_weight)) (hCI : ClI (iC_clauses.toInt, fC_wants, fC_wantsNot, fC_weight) fC_broken fC_loss iC_musts) (sz : Nat) : Met l yX0_dropClause wsMX0_dropClause ({ frames := 1, cells := 0, slots := 0, locals := 23 }) (va_Pc [.ref (hC 0)] (fun U => U.heap.size = sz ∧ va_P (dC, dI) vwCl (WC hC aC kC iC_clauses fC_wants fC_wantsNot fC_weight fC_broken fC_loss iC_musts) U.heap ∧ va_K (dC, dI) vwCl (tC kC) U ∧ va_D (fun _ => True) (WC hC aC kC iC_clauses fC_wants fC_wantsNot fC_weight fC_broken fC_loss iC_musts))) (va_Qi (fun (r : Int32) (u : (Int32) × (Nat → Int32) × (Nat → Int32) × (Int32)) => (0 ≤ (u.1).toInt ∧ (u.1).toInt ≤ 24) ∧ (0 ≤ r.toInt ∧ r.toInt ≤ 1) ∧ ((iC_clauses.toInt = 0 ∧ r.toInt = 0 ∧ (u.1).toInt = 0) ∨ (0 < iC_clauses.toInt ∧ r.toInt = 1 ∧ (u.1).toInt = iC_clauses.toInt - 1)) ∧ (ClI ((u.1).toInt, fC_wants, fC_wantsNot, fC_weight) (u.2.1) (u.2.2.1) (u.2.2.2)) ∧ (cVal ((u.1).toInt, fC_wants, fC_wantsNot, fC_weight))) (fun (u : (Int32) × (Nat → Int32) × (Nat → Int32) × (Int32)) t => va_P (dC, dI) vwCl (WC hC aC kC (u.1) fC_wants fC_wantsNot fC_weight (u.2.1) (u.2.2.1) (u.2.2.2)) t.heap ∧ va_D (va_A (WC hC aC kC iC_clauses fC_wants fC_wantsNot fC_weight fC_broken fC_loss iC_musts) sz) (WC hC aC kC (u.1) fC_wants fC_wantsNot fC_weight (u.2.1) (u.2.2.1) (u.2.2.2))) (va_A (WC hC aC kC iC_clauses fC_wants fC_wantsNot fC_weight fC_broken fC_loss iC_musts) sz)) 0 0 (va_A (WC hC aC kC iC_clauses fC_wants fC_wantsNot fC_weight fC_broken fC_loss iC_musts) sz) := by
  refine Met.ofW (cc := cX0_dropClause) (maxL := 1) (ret := (some .boolean)) (by decide) rfl ?_
  intro p e s m args below meth c s₁ B hml hv
  obtain ⟨rfl, hsz, hP, hK, hD0⟩ := hv
  have hx := B.exec
  have hb := B.bytes
  have hr := B.returns
  have hts := atoms_spec (ws := wsMX0_dropClause) B.pre
  have hown : s.vm.findClass RX0 = some m.cls := findClass_of_methodNamed B.named
  have hlocks := B.notSynchronized
  subst hsz
  have hD := hD0.self (sz := s.heap.size)
  generalize hAe : va_A (WC hC aC kC iC_clauses fC_wants fC_wantsNot fC_weight fC_broken fC_loss iC_musts) s.heap.size = A at hD ⊢
  have hA : ∀ q : Nat, s.heap.size ≤ q → A q := fun q h => by rw [← hAe]; exact Or.inr h
  have hS : va_S A s.heap s.heap [] := va_S.rf
  have hl := lv_entry ([.ref (hC 0)]) (n := 1) (Nat.le_of_ble_eq_true rfl)
  rw [lg_entry_eq]
  generalize (lg_sl ([.ref (hC 0)]) ++ List.replicate (1 - (lg_sl ([.ref (hC 0)])).length) Slot.unset).toArray = ls at hl ⊢
  have hl : lv_has ls 1 [(0, .ref (hC 0))] := hl
  refine lv_aload_n hx hb dX0_dropClause_0 rfl (lv_at hl 0 rfl) ?_
  refine va_get (D := (dC, dI)) (ci := 0) (v := .int iC_clauses) (C := RX0) (T := TX0) (N := 7) hx hb hts iwsMX0_dropClause_in0 hown hK hP 0 rfl rfl 0 (by decide) (hts _ hm_m_X0_dropClause_0) (fun _ h9 => h9) rfl dX0_dropClause_1 ?_
  refine lv_if_ne (tgt := 9) hx hb dX0_dropClause_4 (by decide) (fun c_4 => ?_) (fun c_4 => ?_)
  · have t_4 : iC_clauses.toInt ≠ 0 := toI_ne c_4 rfl (by decide : (0 : Int32).toInt = 0)
    refine lv_aload_n hx hb dX0_dropClause_9 rfl (lv_at hl 0 rfl) ?_
    refine lv_dup hx hb dX0_dropClause_10 rfl ?_
    refine va_get (D := (dC, dI)) (ci := 0) (v := .int iC_clauses) (C := RX0) (T := TX0) (N := 7) hx hb hts iwsMX0_dropClause_in0 hown hK hP 0 rfl rfl 0 (by decide) (hts _ hm_m_X0_dropClause_0) (fun _ h9 => h9) rfl dX0_dropClause_11 ?_
    refine lv_iconst (v := 1) hx hb dX0_dropClause_14 (by decide) ?_
    refine lv_isub hx hb dX0_dropClause_15 ?_
    refine lv_topi (fun y1 hy1 => ?_)
    obtain rfl : (iI (iC_clauses.toInt - 1)) = y1 := (hy1.trans (iI_sub2 (iI_of _) (by decide : (1 : Int32) = iI 1))).symm
    refine va_put (D := (dC, dI)) (ci := 0) (v := .int (iI (iC_clauses.toInt - 1))) (ty := .int) (C := RX0) (T := TX0) (N := 7) hx hb hts iwsMX0_dropClause_in0 tyX0 tyX0_ok nmX0 hown hK hP hD hS 0 rfl rfl 0 (by decide) (hts _ hm_m_X0_dropClause_0) (fun _ h9 => h9) rfl (by decide +kernel) rfl rfl (Nat.le_of_ble_eq_true rfl) dX0_dropClause_16 (fun H locs hP hD hS => ?_)
    have hP : va_P (dC, dI) vwCl (WC hC aC kC (iI (iC_clauses.toInt - 1)) fC_wants fC_wantsNot fC_weight fC_broken fC_loss iC_musts) H := hP
    have hD := fz_sd hP (hD) rfl
    refine lv_aload_n hx hb dX0_dropClause_19 rfl (lv_at hl 0 rfl) ?_
    refine lv_dup hx hb dX0_dropClause_20 rfl ?_
    refine va_get (D := (dC, dI)) (ci := 0) (v := .int iC_musts) (C := RX0) (T := TX0) (N := 7) hx hb hts iwsMX0_dropClause_in0 hown hK hP 0 rfl rfl 6 (by decide) (hts _ hm_m_X0_dropClause_1) (fun _ h9 => h9) rfl dX0_dropClause_21 ?_
    refine lv_iconst (v := 1) hx hb dX0_dropClause_24 (by decide) ?_
    refine lv_aload_n hx hb dX0_dropClause_25 rfl (lv_at hl 0 rfl) ?_
    refine va_get (D := (dC, dI)) (ci := 0) (v := .int (iI (iC_clauses.toInt - 1))) (C := RX0) (T := TX0) (N := 7) hx hb hts iwsMX0_dropClause_in0 hown hK hP 0 rfl rfl 0 (by decide) (hts _ hm_m_X0_dropClause_0) (fun _ h9 => h9) rfl dX0_dropClause_26 ?_
    refine lv_ishl hx hb dX0_dropClause_29 ?_
    refine lv_topi (fun v2 hv2 => ?_)
    have b_v2 : v2 = (1 : Int32) <<< ((iI (iC_clauses.toInt - 1)) &&& 31) := hv2
    clear hv2
    refine lv_iconst (v := (-1)) hx hb dX0_dropClause_30 (by decide) ?_
    refine lv_ixor hx hb dX0_dropClause_31 ?_
    refine lv_topi (fun v3 hv3 => ?_)
    have b_v3 : v3 = v2 ^^^ ((-1) : Int32) := hv3
    clear hv3
    refine lv_iand hx hb dX0_dropClause_32 ?_
    refine lv_topi (fun v4 hv4 => ?_)
    have b_v4 : v4 = iC_musts &&& v3 := hv4
    clear hv4
    refine va_put (D := (dC, dI)) (ci := 0) (v := .int v4) (ty := .int) (C := RX0) (T := TX0) (N := 7) hx hb hts iwsMX0_dropClause_in0 tyX0 tyX0_ok nmX0 hown hK hP hD hS 0 rfl rfl 6 (by decide) (hts _ hm_m_X0_dropClause_1) (fun _ h9 => h9) rfl (by decide +kernel) rfl rfl (Nat.le_of_ble_eq_true rfl) dX0_dropClause_33 (fun H locs hP hD hS => ?_)
    have hP : va_P (dC, dI) vwCl (WC hC aC kC (iI (iC_clauses.toInt - 1)) fC_wants fC_wantsNot fC_weight fC_broken fC_loss v4) H := hP
    have hD := fz_sd hP (hD) rfl
    refine lv_aload_n hx hb dX0_dropClause_36 rfl (lv_at hl 0 rfl) ?_
    refine lv_aload_n hx hb dX0_dropClause_37 rfl (lv_at hl 0 rfl) ?_
    refine va_get (D := (dC, dI)) (ci := 0) (v := .int (iI (iC_clauses.toInt - 1))) (C := RX0) (T := TX0) (N := 7) hx hb hts iwsMX0_dropClause_in0 hown hK hP 0 rfl rfl 0 (by decide) (hts _ hm_m_X0_dropClause_0) (fun _ h9 => h9) rfl dX0_dropClause_38 ?_
    refine lv_aload_n hx hb dX0_dropClause_41 rfl (lv_at hl 0 rfl) ?_
    refine va_get (D := (dC, dI)) (ci := 0) (v := .ref (aC 2)) (C := RX0) (T := TX0) (N := 7) hx hb hts iwsMX0_dropClause_in0 hown hK hP 0 rfl rfl 3 (by decide) (hts (.fieldLink RX0 18 "OptimaWorks$ClauseDesk" "weight" "[I") (by decide +kernel)) (fun _ h9 => h9) rfl dX0_dropClause_42 ?_
    refine lv_aload_n hx hb dX0_dropClause_45 rfl (lv_at hl 0 rfl) ?_
    refine va_get (D := (dC, dI)) (ci := 0) (v := .int (iI (iC_clauses.toInt - 1))) (C := RX0) (T := TX0) (N := 7) hx hb hts iwsMX0_dropClause_in0 hown hK hP 0 rfl rfl 0 (by decide) (hts _ hm_m_X0_dropClause_0) (fun _ h9 => h9) rfl dX0_dropClause_46 ?_
    refine va_iald (cA := kC 2) (n := 24) (f := fC_weight) hx hb hK hP 3 2 rfl rfl (vp_iI (by omega) (Int.lt_of_le_of_lt (Int.sub_le_sub (b_iC_clauses.2) (Int.le_refl _)) (by decide)) (by decide)) dX0_dropClause_49 ?_
    refine lv_topi (fun v5 hv5 => ?_)
    have b_v5 : v5 = fC_weight ((iI (iC_clauses.toInt - 1))).toNatClampNeg := hv5
    clear hv5
    refine lv_ineg hx hb dX0_dropClause_50 ?_
    refine lv_topi (fun y6 hy6 => ?_)
    obtain rfl : (iI (-v5.toInt)) = y6 := (hy6.trans (iI_neg2 (iI_of _))).symm
    have hFc := allFree hD hS hA
    refine va_callv (va_runV (As := [.int (iI (iC_clauses.toInt - 1)), .int (iI (-v5.toInt))]) (rest := []) ⟨hx, hb, hml, hown, hts⟩ (m_X0_mark l dC dI hC aC kC (iI (iC_clauses.toInt - 1)) fC_wants fC_wantsNot fC_weight fC_broken fC_loss v4 (iI (iC_clauses.toInt - 1)) (iI (-v5.toInt)) (iI_rng (by omega) (Int.le_trans (Int.sub_le_sub (b_iC_clauses.2) (Int.le_refl _)) (by decide)) (by decide) (by decide)) (iI_rng (by omega) (Int.le_trans (Int.sub_le_sub (b_iC_clauses.2) (Int.le_refl _)) (by decide)) (by decide) (by decide)) H.size) (cwV 2 hts gwsMX0_dropClause_0 rfl rfl rfl hd_yX0_mark_RX0 (by decide +kernel)) (fz_pre (va_recv hK hP (ci := 0) (q0 := 0) rfl rfl) hP hK hD) rfl rfl hl.1 rfl (lv_room (Nat.le_of_ble_eq_true rfl)) dX0_dropClause_51 (by decide +kernel)) hS (fun q _ h => hFc q h) hFc (fun u t9_ H locs ht hvm hw9 hB9 hz1 hk1 hS => ?_)
    revert u hw9 hB9
    refine fz_p2 ?_
    intro fC_broken_7 fC_loss_7 hw9 hB9
    try dsimp only at hw9 hB9
    have f7_0 := hw9
    try dsimp only at f7_0
    have hP : va_P (dC, dI) vwCl (WC hC aC kC (iI (iC_clauses.toInt - 1)) fC_wants fC_wantsNot fC_weight fC_broken_7 fC_loss_7 v4) H := fz_P ht hB9.1
    have hD := fz_sd hP (hB9.2.weaken (fun _ q _ h => hFc q.1 h)) rfl
    have hmk9 := f7_0
    refine lv_iconst (v := 1) hx hb dX0_dropClause_54 (by decide) ?_
    refine W.widen (k := 0) (n := 0) (by decide +kernel) (by decide +kernel) ?_
    exact W.zret (v := 1) hx hb hr rfl (fun t9_ ht hW => ⟨⟨(1 : Int32), ((iI (iC_clauses.toInt - 1)), fC_broken_7, fC_loss_7, v4), rfl, ⟨(by (try dsimp only); exact (iI_rng (by omega) (Int.le_trans (Int.sub_le_sub (b_iC_clauses.2) (Int.le_refl _)) (by decide)) (by decide) (by decide))), (show 0 ≤ (1 : Int32).toInt ∧ (1 : Int32).toInt ≤ 1 from by decide), (by (try dsimp only); first | exact Or.inl ⟨by omega, by decide, by omega⟩ | exact Or.inr ⟨by omega, by decide, by first | (rw [iI_t (by omega) (by omega)] <;> omega) | omega⟩), (by (try dsimp only); have e1 := (show (iI (iC_clauses.toInt - 1)).toInt = iC_clauses.toInt - 1 from iI_t (by omega) (by omega)); have h9 := hmk9; rw [e1] at h9 ⊢; have e5 : v5 = fC_weight (iC_clauses.toInt - 1).toNat := (show v5 = fC_weight (iI (iC_clauses.toInt - 1)).toInt.toNat from b_v5).trans (by rw [e1]); have hw5 := hCv.2.2 (iC_clauses.toInt - 1).toNat (by (try dsimp only); omega); (try dsimp only at hw5); rw [← e5] at hw5; exact ClI.drop (d := (iC_clauses.toInt, fC_wants, fC_wantsNot, fC_weight)) (i := (iI (iC_clauses.toInt - 1))) (w := iI (-v5.toInt)) hCv (by (try dsimp only); omega) hCI h9 e1 (by rw [iI_t (by omega) (by omega)]; (try dsimp only); rw [← e5]) (by rw [b_v4, b_v3, b_v2])), (by (try dsimp only); exact cVal.less hCv (by rw [iI_t (by omega) (by omega)]; omega) (by rw [iI_t (by omega) (by omega)]; omega))⟩, by rw [ht]; exact hP, hD⟩, hS.F ht⟩) hS.2.2 dX0_dropClause_55
  · have t_4 : iC_clauses.toInt = 0 := toI_nne c_4 rfl (by decide : (0 : Int32).toInt = 0)
    refine lv_iconst (v := 0) hx hb dX0_dropClause_7 (by decide) ?_
    refine W.widen (k := 0) (n := 0) (by decide +kernel) (by decide +kernel) ?_
    exact W.zret (v := 0) hx hb hr rfl (fun t9_ ht hW => ⟨⟨(0 : Int32), (iC_clauses, fC_broken, fC_loss, iC_musts), rfl, ⟨b_iC_clauses, (show 0 ≤ (0 : Int32).toInt ∧ (0 : Int32).toInt ≤ 1 from by decide), (by (try dsimp only); first | exact Or.inl ⟨by omega, by decide, by omega⟩ | exact Or.inr ⟨by omega, by decide, by first | (rw [iI_t (by omega) (by omega)] <;> omega) | omega⟩), (by (try dsimp only); exact hCI), (by (try dsimp only); exact hCv)⟩, by rw [ht]; exact hP, hD⟩, hS.F ht⟩) hS.2.2 dX0_dropClause_8
theorem dX0_least_0 : decode cX0_least 0 = .ok (.iconst (-1), 1) := dk_2 (by decide +kernel)
theorem dX0_least_1 : decode cX0_least 1 = .ok (.istore_n 2, 1) := dk_61 (by decide +kernel)
theorem dX0_least_2 : decode cX0_least 2 = .ok (.iconst 0, 1) := dk_3 (by decide +kernel)
theorem dX0_least_3 : decode cX0_least 3 = .ok (.istore_n 3, 1) := dk_62 (by decide +kernel)
theorem dX0_least_4 : decode cX0_least 4 = .ok (.iload_n 3, 1) := dk_29 (by decide +kernel)
theorem dX0_least_5 : decode cX0_least 5 = .ok (.sipush 4096, 3) := dk_17 (by decide +kernel)
theorem dX0_least_8 : decode cX0_least 8 = .ok (.if_icmp .ge 45, 3) := dk_162 (by decide +kernel)
theorem dX0_least_11 : decode cX0_least 11 = .ok (.aload_n 0, 1) := dk_42 (by decide +kernel)
theorem dX0_least_12 : decode cX0_least 12 = .ok (.getfield 21, 3) := dk_180 (by decide +kernel)
theorem dX0_least_15 : decode cX0_least 15 = .ok (.iload_n 3, 1) := dk_29 (by decide +kernel)
theorem dX0_least_16 : decode cX0_least 16 = .ok (.iaload, 1) := dk_46 (by decide +kernel)
theorem dX0_least_17 : decode cX0_least 17 = .ok (.aload_n 0, 1) := dk_42 (by decide +kernel)
theorem dX0_least_18 : decode cX0_least 18 = .ok (.getfield 31, 3) := dk_180 (by decide +kernel)
theorem dX0_least_21 : decode cX0_least 21 = .ok (.iand, 1) := dk_126 (by decide +kernel)
theorem dX0_least_22 : decode cX0_least 22 = .ok (.ifCond .ne 25, 3) := dk_154 (by decide +kernel)
theorem dX0_least_25 : decode cX0_least 25 = .ok (.iload_n 2, 1) := dk_28 (by decide +kernel)
theorem dX0_least_26 : decode cX0_least 26 = .ok (.iconst (-1), 1) := dk_2 (by decide +kernel)
theorem dX0_least_27 : decode cX0_least 27 = .ok (.if_icmp .eq 18, 3) := dk_159 (by decide +kernel)
theorem dX0_least_30 : decode cX0_least 30 = .ok (.aload_n 0, 1) := dk_42 (by decide +kernel)
theorem dX0_least_31 : decode cX0_least 31 = .ok (.getfield 24, 3) := dk_180 (by decide +kernel)
theorem dX0_least_34 : decode cX0_least 34 = .ok (.iload_n 3, 1) := dk_29 (by decide +kernel)
theorem dX0_least_35 : decode cX0_least 35 = .ok (.iaload, 1) := dk_46 (by decide +kernel)
theorem dX0_least_36 : decode cX0_least 36 = .ok (.aload_n 0, 1) := dk_42 (by decide +kernel)
theorem dX0_least_37 : decode cX0_least 37 = .ok (.getfield 24, 3) := dk_180 (by decide +kernel)
theorem dX0_least_40 : decode cX0_least 40 = .ok (.iload_n 2, 1) := dk_28 (by decide +kernel)
theorem dX0_least_41 : decode cX0_least 41 = .ok (.iaload, 1) := dk_46 (by decide +kernel)
theorem dX0_least_42 : decode cX0_least 42 = .ok (.if_icmp .ge 5, 3) := dk_162 (by decide +kernel)
theorem dX0_least_45 : decode cX0_least 45 = .ok (.iload_n 3, 1) := dk_29 (by decide +kernel)
theorem dX0_least_46 : decode cX0_least 46 = .ok (.istore_n 2, 1) := dk_61 (by decide +kernel)
theorem dX0_least_47 : decode cX0_least 47 = .ok (.iinc 3 1, 3) := dk_132 (by decide +kernel)
theorem dX0_least_50 : decode cX0_least 50 = .ok (.goto (-46), 3) := dk_167 (by decide +kernel)
theorem dX0_least_53 : decode cX0_least 53 = .ok (.iload_n 2, 1) := dk_28 (by decide +kernel)
theorem dX0_least_54 : decode cX0_least 54 = .ok (.iconst (-1), 1) := dk_2 (by decide +kernel)
theorem dX0_least_55 : decode cX0_least 55 = .ok (.if_icmp .eq 7, 3) := dk_159 (by decide +kernel)
theorem dX0_least_58 : decode cX0_least 58 = .ok (.iload_n 1, 1) := dk_27 (by decide +kernel)
theorem dX0_least_59 : decode cX0_least 59 = .ok (.ifCond .ne 7, 3) := dk_154 (by decide +kernel)
theorem dX0_least_62 : decode cX0_least 62 = .ok (.iload_n 2, 1) := dk_28 (by decide +kernel)
theorem dX0_least_63 : decode cX0_least 63 = .ok (.goto 9, 3) := dk_167 (by decide +kernel)
theorem dX0_least_66 : decode cX0_least 66 = .ok (.aload_n 0, 1) := dk_42 (by decide +kernel)
theorem dX0_least_67 : decode cX0_least 67 = .ok (.getfield 24, 3) := dk_180 (by decide +kernel)
theorem dX0_least_70 : decode cX0_least 70 = .ok (.iload_n 2, 1) := dk_28 (by decide +kernel)
theorem dX0_least_71 : decode cX0_least 71 = .ok (.iaload, 1) := dk_46 (by decide +kernel)
theorem dX0_least_72 : decode cX0_least 72 = .ok (.ireturn, 1) := dk_172 (by decide +kernel)
def wsMX0_least : List Cond := .code yX0_least cX0_least 4 (some .int) :: ([.fieldLink RX0 21 "OptimaWorks$ClauseDesk" "broken" "[I", .fieldLink RX0 31 "OptimaWorks$ClauseDesk" "musts" "I", .fieldLink RX0 24 "OptimaWorks$ClauseDesk" "loss" "[I"] ++ wsX00)
theorem iwsMX0_least_in0 : ∀ w ∈ wsX00, w ∈ wsMX0_least := fun _ h => List.mem_cons_of_mem _ (List.mem_append_right _ h)
theorem gdwsMX0_least : wsMX0_least.all goodWord = true := gdC rfl (gdA (by decide +kernel : ([.fieldLink RX0 21 "OptimaWorks$ClauseDesk" "broken" "[I", .fieldLink RX0 31 "OptimaWorks$ClauseDesk" "musts" "I", .fieldLink RX0 24 "OptimaWorks$ClauseDesk" "loss" "[I"] : List Cond).all goodWord = true) gdwsX00)
theorem hm_m_X0_least_0 : (.fieldLink RX0 24 "OptimaWorks$ClauseDesk" "loss" "[I" : Cond) ∈ wsMX0_least := by decide +kernel
set_option maxHeartbeats 4000000 in
set_option maxRecDepth 100000 in
/-- the least loss -/
theorem m_X0_least (l : Launch) (dC : Nat → ClassId) (dI : Nat → Nat → Nat) (hC : Nat → Nat) (aC : Nat → Nat) (kC : Nat → ClassId) (iC_clauses : Int32) (fC_wants : Nat → Int32) (fC_wantsNot : Nat → Int32) (fC_weight : Nat → Int32) (fC_broken : Nat → Int32) (fC_loss : Nat → Int32) (iC_musts : Int32) (p1 : Int32) (b_iC_clauses : 0 ≤ iC_clauses.toInt ∧ iC_clauses.toInt ≤ 24) (hCv : cVal (iC_clauses.toInt, fC_wants, fC_wantsNot, fC_weight)) (hCI : ClI (iC_clauses.toInt, fC_wants, fC_wantsNot, fC_weight) fC_broken fC_loss iC_musts) (sz : Nat) : Met l yX0_least wsMX0_least ({ frames := 0, cells := 0, slots := 0, locals := 0 }) (va_Pc [.ref (hC 0), .int p1] (fun U => U.heap.size = sz ∧ va_P (dC, dI) vwCl (WC hC aC kC iC_clauses fC_wants fC_wantsNot fC_weight fC_broken fC_loss iC_musts) U.heap ∧ va_K (dC, dI) vwCl (tC kC) U ∧ va_D (fun _ => True) (WC hC aC kC iC_clauses fC_wants fC_wantsNot fC_weight fC_broken fC_loss iC_musts))) (va_Qi (fun (r : Int32) (u : Unit) => ((p1.toInt = 0 → ∃ b, cBest (iC_clauses.toInt, fC_wants, fC_wantsNot, fC_weight) 4096 b r.toInt) ∧ (p1.toInt ≠ 0 → ∃ c, cBest (iC_clauses.toInt, fC_wants, fC_wantsNot, fC_weight) 4096 r.toInt c))) (fun (u : Unit) t => va_P (dC, dI) vwCl (WC hC aC kC iC_clauses fC_wants fC_wantsNot fC_weight fC_broken fC_loss iC_musts) t.heap ∧ va_D (va_A (WC hC aC kC iC_clauses fC_wants fC_wantsNot fC_weight fC_broken fC_loss iC_musts) sz) (WC hC aC kC iC_clauses fC_wants fC_wantsNot fC_weight fC_broken fC_loss iC_musts)) (va_A (WC hC aC kC iC_clauses fC_wants fC_wantsNot fC_weight fC_broken fC_loss iC_musts) sz)) 0 0 (va_A (WC hC aC kC iC_clauses fC_wants fC_wantsNot fC_weight fC_broken fC_loss iC_musts) sz) := by
  refine Met.ofW (cc := cX0_least) (maxL := 4) (ret := (some .int)) (by decide) rfl ?_
  intro p e s m args below meth c s₁ B hml hv
  obtain ⟨rfl, hsz, hP, hK, hD0⟩ := hv
  have hx := B.exec
  have hb := B.bytes
  have hr := B.returns
  have hts := atoms_spec (ws := wsMX0_least) B.pre
  have hown : s.vm.findClass RX0 = some m.cls := findClass_of_methodNamed B.named
  have hlocks := B.notSynchronized
  subst hsz
  have hD := hD0.self (sz := s.heap.size)
  generalize hAe : va_A (WC hC aC kC iC_clauses fC_wants fC_wantsNot fC_weight fC_broken fC_loss iC_musts) s.heap.size = A at hD ⊢
  have hA : ∀ q : Nat, s.heap.size ≤ q → A q := fun q h => by rw [← hAe]; exact Or.inr h
  have hS : va_S A s.heap s.heap [] := va_S.rf
  have hl := lv_entry ([.ref (hC 0), .int p1]) (n := 4) (Nat.le_of_ble_eq_true rfl)
  rw [lg_entry_eq]
  generalize (lg_sl ([.ref (hC 0), .int p1]) ++ List.replicate (4 - (lg_sl ([.ref (hC 0), .int p1])).length) Slot.unset).toArray = ls at hl ⊢
  have hl : lv_has ls 4 [(0, .ref (hC 0)), (1, .int p1)] := hl
  refine lv_iconst (v := (-1)) hx hb dX0_least_0 (by decide) ?_
  refine lv_istore_n hx hb dX0_least_1 rfl hl (by decide) rfl (fun ls (hl : lv_has ls _ ([(2, .int (-1)), (0, .ref (hC 0)), (1, .int p1)])) => ?_)
  refine lv_iconst (v := 0) hx hb dX0_least_2 (by decide) ?_
  refine lv_istore_n hx hb dX0_least_3 rfl hl (by decide) rfl (fun ls (hl : lv_has ls _ ([(3, .int 0), (2, .int (-1)), (0, .ref (hC 0)), (1, .int p1)])) => ?_)
  have hl : lv_has _ _ ([(3, .int 0), (2, .int (-1)), (0, .ref (hC 0)), (1, .int p1)]) := lv_sub hl [0, 1, 2, 3] rfl
  refine (fun (loop : ∀ (n9 : Nat) (l3_x4 : Int32) (l2_x4 : Int32) (H : Heap) (locs : List Loc) (ls : Array Slot), (0 ≤ l3_x4.toInt ∧ l3_x4.toInt ≤ 4096) → ((-1) ≤ l2_x4.toInt ∧ l2_x4.toInt ≤ 4095) → (∃ b, cBest (iC_clauses.toInt, fC_wants, fC_wantsNot, fC_weight) l3_x4.toInt.toNat b l2_x4.toInt) → (4096 - l3_x4.toInt < ((n9 : Nat) : Int)) → va_P (dC, dI) vwCl (WC hC aC kC iC_clauses fC_wants fC_wantsNot fC_weight fC_broken fC_loss iC_musts) H → va_D A (WC hC aC kC iC_clauses fC_wants fC_wantsNot fC_weight fC_broken fC_loss iC_musts) → va_S A s.heap H locs → lv_has ls 4 [(3, .int l3_x4), (2, .int l2_x4), (0, .ref (hC 0)), (1, .int p1)] → W p l e _ s m _ below meth c H locs 0 0 _ (F0 m 4 ls [])) => loop (4097) 0 (-1) _ _ _ (show 0 ≤ (0 : Int32).toInt ∧ (0 : Int32).toInt ≤ 4096 from by decide) (show (-1) ≤ ((-1) : Int32).toInt ∧ ((-1) : Int32).toInt ≤ 4095 from by decide) (show ∃ b, cBest (iC_clauses.toInt, fC_wants, fC_wantsNot, fC_weight) (0 : Int32).toInt.toNat b ((-1) : Int32).toInt from by rw [show (0 : Int32).toInt.toNat = 0 from by decide]; exact ⟨-1, cBest.start rfl (by decide)⟩) ((by have e9 : (0 : Int32).toInt = 0 := (by decide : (0 : Int32).toInt = 0); omega)) hP hD hS hl) ?_
  intro n9
  induction n9 with
  | zero => intro l3_x4 l2_x4 H locs ls b_l3_x4 b_l2_x4 hB hf9; exact False.elim (by omega)
  | succ n9 ihx4 =>
    intro l3_x4 l2_x4 H locs ls b_l3_x4 b_l2_x4 hB hfx4 hP hD hS hl
    refine lv_iload_n hx hb dX0_least_4 rfl (lv_at hl 0 rfl) ?_
    refine lv_sipush (v := 4096) hx hb dX0_least_5 (by decide) ?_
    refine lv_icmp_ge (tgt := 53) hx hb dX0_least_8 (by decide) (fun c_8 => ?_) (fun c_8 => ?_)
    · have t_8 : l3_x4.toInt ≥ 4096 := toI_ge c_8 rfl (by decide : (4096 : Int32).toInt = 4096)
      refine lv_iload_n hx hb dX0_least_53 rfl (lv_at hl 1 rfl) ?_
      refine lv_iconst (v := (-1)) hx hb dX0_least_54 (by decide) ?_
      refine lv_icmp_eq (tgt := 62) hx hb dX0_least_55 (by decide) (fun c_55 => ?_) (fun c_55 => ?_)
      · have t_55 : l2_x4.toInt = (-1) := toI_eq c_55 rfl (by decide : ((-1) : Int32).toInt = (-1))
        refine lv_iload_n hx hb dX0_least_62 rfl (lv_at hl 1 rfl) ?_
        refine lv_goto (tgt := 72) hx hb dX0_least_63 (by decide) ?_
        refine W.widen (k := 0) (n := 0) (by decide +kernel) (by decide +kernel) ?_
        exact W.iret (v := l2_x4) hx hb hr (fun t9_ ht hW => ⟨⟨l2_x4, (), rfl, (by (try dsimp only); have hB4 : ∃ b, cBest (iC_clauses.toInt, fC_wants, fC_wantsNot, fC_weight) 4096 b l2_x4.toInt := (by rw [show 4096 = l3_x4.toInt.toNat from by omega]; exact hB); first | exact ⟨fun _ => hB4, fun _ => by rw [show l2_x4.toInt = -1 from t_55]; exact cBest.nob hB4 t_55⟩ | exact ⟨fun _ => hB4, fun h9 => absurd t_59 h9⟩ | exact ⟨fun h9 => absurd h9 t_59, fun _ => ClI.lost hCI hB4 t_55 b_v9⟩), by rw [ht]; exact hP, hD⟩, hS.F ht⟩) hS.2.2 dX0_least_72
      · have t_55 : ¬ l2_x4.toInt = (-1) := toI_neq c_55 rfl (by decide : ((-1) : Int32).toInt = (-1))
        refine lv_iload_n hx hb dX0_least_58 rfl (lv_at hl 3 rfl) ?_
        refine lv_if_ne (tgt := 66) hx hb dX0_least_59 (by decide) (fun c_59 => ?_) (fun c_59 => ?_)
        · have t_59 : p1.toInt ≠ 0 := toI_ne c_59 rfl (by decide : (0 : Int32).toInt = 0)
          refine lv_aload_n hx hb dX0_least_66 rfl (lv_at hl 2 rfl) ?_
          refine va_get (D := (dC, dI)) (ci := 0) (v := .ref (aC 4)) (C := RX0) (T := TX0) (N := 7) hx hb hts iwsMX0_least_in0 hown hK hP 0 rfl rfl 5 (by decide) (hts _ hm_m_X0_least_0) (fun _ h9 => h9) rfl dX0_least_67 ?_
          refine lv_iload_n hx hb dX0_least_70 rfl (lv_at hl 1 rfl) ?_
          refine va_iald (cA := kC 4) (n := 4096) (f := fC_loss) hx hb hK hP 5 4 rfl rfl (vp_in_iff.mpr ⟨(by omega), (Int.lt_of_le_of_lt (b_l2_x4.2) (by decide))⟩) dX0_least_71 ?_
          refine lv_topi (fun v22 hv22 => ?_)
          have b_v22 : v22 = fC_loss (l2_x4).toNatClampNeg := hv22
          clear hv22
          refine W.widen (k := 0) (n := 0) (by decide +kernel) (by decide +kernel) ?_
          exact W.iret (v := v22) hx hb hr (fun t9_ ht hW => ⟨⟨v22, (), rfl, (by (try dsimp only); have hB4 : ∃ b, cBest (iC_clauses.toInt, fC_wants, fC_wantsNot, fC_weight) 4096 b l2_x4.toInt := (by rw [show 4096 = l3_x4.toInt.toNat from by omega]; exact hB); first | exact ⟨fun _ => hB4, fun _ => by rw [show l2_x4.toInt = -1 from t_55]; exact cBest.nob hB4 t_55⟩ | exact ⟨fun _ => hB4, fun h9 => absurd t_59 h9⟩ | exact ⟨fun h9 => absurd h9 t_59, fun _ => ClI.lost hCI hB4 t_55 b_v22⟩), by rw [ht]; exact hP, hD⟩, hS.F ht⟩) hS.2.2 dX0_least_72
        · have t_59 : p1.toInt = 0 := toI_nne c_59 rfl (by decide : (0 : Int32).toInt = 0)
          refine lv_iload_n hx hb dX0_least_62 rfl (lv_at hl 1 rfl) ?_
          refine lv_goto (tgt := 72) hx hb dX0_least_63 (by decide) ?_
          refine W.widen (k := 0) (n := 0) (by decide +kernel) (by decide +kernel) ?_
          exact W.iret (v := l2_x4) hx hb hr (fun t9_ ht hW => ⟨⟨l2_x4, (), rfl, (by (try dsimp only); have hB4 : ∃ b, cBest (iC_clauses.toInt, fC_wants, fC_wantsNot, fC_weight) 4096 b l2_x4.toInt := (by rw [show 4096 = l3_x4.toInt.toNat from by omega]; exact hB); first | exact ⟨fun _ => hB4, fun _ => by rw [show l2_x4.toInt = -1 from t_55]; exact cBest.nob hB4 t_55⟩ | exact ⟨fun _ => hB4, fun h9 => absurd t_59 h9⟩ | exact ⟨fun h9 => absurd h9 t_59, fun _ => ClI.lost hCI hB4 t_55 b_v22⟩), by rw [ht]; exact hP, hD⟩, hS.F ht⟩) hS.2.2 dX0_least_72
    · have t_8 : ¬ l3_x4.toInt ≥ 4096 := toI_nge c_8 rfl (by decide : (4096 : Int32).toInt = 4096)
      refine lv_aload_n hx hb dX0_least_11 rfl (lv_at hl 2 rfl) ?_
      refine va_get (D := (dC, dI)) (ci := 0) (v := .ref (aC 3)) (C := RX0) (T := TX0) (N := 7) hx hb hts iwsMX0_least_in0 hown hK hP 0 rfl rfl 4 (by decide) (hts (.fieldLink RX0 21 "OptimaWorks$ClauseDesk" "broken" "[I") (by decide +kernel)) (fun _ h9 => h9) rfl dX0_least_12 ?_
      refine lv_iload_n hx hb dX0_least_15 rfl (lv_at hl 0 rfl) ?_
      refine va_iald (cA := kC 3) (n := 4096) (f := fC_broken) hx hb hK hP 4 3 rfl rfl (vp_in_iff.mpr ⟨b_l3_x4.1, (Int.lt_of_lt_of_le (Int.not_le.mp t_8) (by decide))⟩) dX0_least_16 ?_
      refine lv_topi (fun v23 hv23 => ?_)
      have b_v23 : v23 = fC_broken (l3_x4).toNatClampNeg := hv23
      clear hv23
      refine lv_aload_n hx hb dX0_least_17 rfl (lv_at hl 2 rfl) ?_
      refine va_get (D := (dC, dI)) (ci := 0) (v := .int iC_musts) (C := RX0) (T := TX0) (N := 7) hx hb hts iwsMX0_least_in0 hown hK hP 0 rfl rfl 6 (by decide) (hts (.fieldLink RX0 31 "OptimaWorks$ClauseDesk" "musts" "I") (by decide +kernel)) (fun _ h9 => h9) rfl dX0_least_18 ?_
      refine lv_iand hx hb dX0_least_21 ?_
      refine lv_topi (fun v24 hv24 => ?_)
      have b_v24 : v24 = v23 &&& iC_musts := hv24
      clear hv24
      refine W.cut (pc := 47) (fun H locs ls stk => ∃ (l2_j10 : Int32), ((-1) ≤ l2_j10.toInt ∧ l2_j10.toInt ≤ 4095) ∧ (∃ b, cBest (iC_clauses.toInt, fC_wants, fC_wantsNot, fC_weight) (l3_x4.toInt.toNat + 1) b l2_j10.toInt) ∧  stk = [] ∧ va_P (dC, dI) vwCl (WC hC aC kC iC_clauses fC_wants fC_wantsNot fC_weight fC_broken fC_loss iC_musts) H ∧ va_D A (WC hC aC kC iC_clauses fC_wants fC_wantsNot fC_weight fC_broken fC_loss iC_musts) ∧ va_S A s.heap H locs ∧ lv_has ls 4 [(3, .int l3_x4), (2, .int l2_j10), (0, .ref (hC 0)), (1, .int p1)]) (fun join10 => ?_) ?_
      · refine lv_if_ne (tgt := 47) hx hb dX0_least_22 (by decide) (fun c_22 => ?_) (fun c_22 => ?_)
        · have t_22 : v24.toInt ≠ 0 := toI_ne c_22 rfl (by decide : (0 : Int32).toInt = 0)
          have hl : lv_has _ _ ([(3, .int l3_x4), (2, .int l2_x4), (0, .ref (hC 0)), (1, .int p1)]) := lv_sub hl [0, 1, 2, 3] rfl
          exact join10 _ _ _ _ ⟨l2_x4, (b_l2_x4), (show ∃ b, cBest (iC_clauses.toInt, fC_wants, fC_wantsNot, fC_weight) (l3_x4.toInt.toNat + 1) b l2_x4.toInt from by first | (exact ClI.lno hCv hCI hB (by omega) (by rw [b_v24, b_v23] <;> rfl) t_22) | (exact ClI.lnew hCv hCI hB (by omega) (by rw [b_v24, b_v23] <;> rfl) t_22 t_27 (by omega)) | (exact ClI.lless hCv hCI hB (by omega) (by rw [b_v24, b_v23] <;> rfl) t_22 t_27 b_v25 b_v26 (by omega) (by omega)) | (exact ClI.lkeep hCI hB (by omega) t_27 b_v25 b_v26 (by omega))), rfl, hP, hD, hS, hl⟩
        · have t_22 : v24.toInt = 0 := toI_nne c_22 rfl (by decide : (0 : Int32).toInt = 0)
          refine lv_iload_n hx hb dX0_least_25 rfl (lv_at hl 1 rfl) ?_
          refine lv_iconst (v := (-1)) hx hb dX0_least_26 (by decide) ?_
          refine lv_icmp_eq (tgt := 45) hx hb dX0_least_27 (by decide) (fun c_27 => ?_) (fun c_27 => ?_)
          · have t_27 : l2_x4.toInt = (-1) := toI_eq c_27 rfl (by decide : ((-1) : Int32).toInt = (-1))
            refine lv_iload_n hx hb dX0_least_45 rfl (lv_at hl 0 rfl) ?_
            refine lv_istore_n hx hb dX0_least_46 rfl hl (by decide) rfl (fun ls (hl : lv_has ls _ ([(2, .int l3_x4), (3, .int l3_x4), (0, .ref (hC 0)), (1, .int p1)])) => ?_)
            have hl : lv_has _ _ ([(3, .int l3_x4), (2, .int l3_x4), (0, .ref (hC 0)), (1, .int p1)]) := lv_sub hl [1, 0, 2, 3] rfl
            exact join10 _ _ _ _ ⟨l3_x4, (by first | exact b_l3_x4 | with_reducible assumption | exact ⟨by omega, by omega⟩ | assumption), (show ∃ b, cBest (iC_clauses.toInt, fC_wants, fC_wantsNot, fC_weight) (l3_x4.toInt.toNat + 1) b l3_x4.toInt from by first | (exact ClI.lno hCv hCI hB (by omega) (by rw [b_v24, b_v23] <;> rfl) t_22) | (exact ClI.lnew hCv hCI hB (by omega) (by rw [b_v24, b_v23] <;> rfl) t_22 t_27 (by omega)) | (exact ClI.lless hCv hCI hB (by omega) (by rw [b_v24, b_v23] <;> rfl) t_22 t_27 b_v25 b_v26 (by omega) (by omega)) | (exact ClI.lkeep hCI hB (by omega) t_27 b_v25 b_v26 (by omega))), rfl, hP, hD, hS, hl⟩
          · have t_27 : ¬ l2_x4.toInt = (-1) := toI_neq c_27 rfl (by decide : ((-1) : Int32).toInt = (-1))
            refine lv_aload_n hx hb dX0_least_30 rfl (lv_at hl 2 rfl) ?_
            refine va_get (D := (dC, dI)) (ci := 0) (v := .ref (aC 4)) (C := RX0) (T := TX0) (N := 7) hx hb hts iwsMX0_least_in0 hown hK hP 0 rfl rfl 5 (by decide) (hts _ hm_m_X0_least_0) (fun _ h9 => h9) rfl dX0_least_31 ?_
            refine lv_iload_n hx hb dX0_least_34 rfl (lv_at hl 0 rfl) ?_
            refine va_iald (cA := kC 4) (n := 4096) (f := fC_loss) hx hb hK hP 5 4 rfl rfl (vp_in_iff.mpr ⟨b_l3_x4.1, (by omega)⟩) dX0_least_35 ?_
            refine lv_topi (fun v27 hv27 => ?_)
            have b_v27 : v27 = fC_loss (l3_x4).toNatClampNeg := hv27
            clear hv27
            refine lv_aload_n hx hb dX0_least_36 rfl (lv_at hl 2 rfl) ?_
            refine va_get (D := (dC, dI)) (ci := 0) (v := .ref (aC 4)) (C := RX0) (T := TX0) (N := 7) hx hb hts iwsMX0_least_in0 hown hK hP 0 rfl rfl 5 (by decide) (hts _ hm_m_X0_least_0) (fun _ h9 => h9) rfl dX0_least_37 ?_
            refine lv_iload_n hx hb dX0_least_40 rfl (lv_at hl 1 rfl) ?_
            refine va_iald (cA := kC 4) (n := 4096) (f := fC_loss) hx hb hK hP 5 4 rfl rfl (vp_in_iff.mpr ⟨(by omega), (Int.lt_of_le_of_lt (b_l2_x4.2) (by decide))⟩) dX0_least_41 ?_
            refine lv_topi (fun v28 hv28 => ?_)
            have b_v28 : v28 = fC_loss (l2_x4).toNatClampNeg := hv28
            clear hv28
            refine lv_icmp_ge (tgt := 47) hx hb dX0_least_42 (by decide) (fun c_42 => ?_) (fun c_42 => ?_)
            · have t_42 : v27.toInt ≥ v28.toInt := toI_ge c_42 rfl rfl
              have hl : lv_has _ _ ([(3, .int l3_x4), (2, .int l2_x4), (0, .ref (hC 0)), (1, .int p1)]) := lv_sub hl [0, 1, 2, 3] rfl
              exact join10 _ _ _ _ ⟨l2_x4, (b_l2_x4), (show ∃ b, cBest (iC_clauses.toInt, fC_wants, fC_wantsNot, fC_weight) (l3_x4.toInt.toNat + 1) b l2_x4.toInt from by first | (exact ClI.lno hCv hCI hB (by omega) (by rw [b_v24, b_v23] <;> rfl) t_22) | (exact ClI.lnew hCv hCI hB (by omega) (by rw [b_v24, b_v23] <;> rfl) t_22 t_27 (by omega)) | (exact ClI.lless hCv hCI hB (by omega) (by rw [b_v24, b_v23] <;> rfl) t_22 t_27 b_v27 b_v28 (by omega) (by omega)) | (exact ClI.lkeep hCI hB (by omega) t_27 b_v27 b_v28 (by omega))), rfl, hP, hD, hS, hl⟩
            · have t_42 : ¬ v27.toInt ≥ v28.toInt := toI_nge c_42 rfl rfl
              refine lv_iload_n hx hb dX0_least_45 rfl (lv_at hl 0 rfl) ?_
              refine lv_istore_n hx hb dX0_least_46 rfl hl (by decide) rfl (fun ls (hl : lv_has ls _ ([(2, .int l3_x4), (3, .int l3_x4), (0, .ref (hC 0)), (1, .int p1)])) => ?_)
              have hl : lv_has _ _ ([(3, .int l3_x4), (2, .int l3_x4), (0, .ref (hC 0)), (1, .int p1)]) := lv_sub hl [1, 0, 2, 3] rfl
              exact join10 _ _ _ _ ⟨l3_x4, (by first | exact b_l3_x4 | with_reducible assumption | exact ⟨by omega, by omega⟩ | assumption), (show ∃ b, cBest (iC_clauses.toInt, fC_wants, fC_wantsNot, fC_weight) (l3_x4.toInt.toNat + 1) b l3_x4.toInt from by first | (exact ClI.lno hCv hCI hB (by omega) (by rw [b_v24, b_v23] <;> rfl) t_22) | (exact ClI.lnew hCv hCI hB (by omega) (by rw [b_v24, b_v23] <;> rfl) t_22 t_27 (by omega)) | (exact ClI.lless hCv hCI hB (by omega) (by rw [b_v24, b_v23] <;> rfl) t_22 t_27 b_v27 b_v28 (by omega) (by omega)) | (exact ClI.lkeep hCI hB (by omega) t_27 b_v27 b_v28 (by omega))), rfl, hP, hD, hS, hl⟩
      · rintro H locs ls stk ⟨l2_j10, b_l2_j10, hB2, rfl, hP, hD, hS, hl⟩
        refine lv_iinc (v := (iI (l3_x4.toInt + 1))) hx hb dX0_least_47 hl (k := 0) rfl (iI_add2 (iI_of _) (by decide : (1 : Int32) = iI 1)) (by decide) rfl (fun ls (hl : lv_has ls _ ([(3, .int (iI (l3_x4.toInt + 1))), (2, .int l2_j10), (0, .ref (hC 0)), (1, .int p1)])) => ?_)
        refine lv_goto (tgt := 4) hx hb dX0_least_50 (by decide) ?_
        have hl : lv_has _ _ ([(3, .int (iI (l3_x4.toInt + 1))), (2, .int l2_j10), (0, .ref (hC 0)), (1, .int p1)]) := lv_sub hl [0, 1, 2, 3] rfl
        exact ihx4 (iI (l3_x4.toInt + 1)) l2_j10 _ _ _ (iI_rng (Int.le_trans (by decide) (Int.add_le_add (b_l3_x4.1) (Int.le_refl _))) (by omega) (by decide) (by decide)) (b_l2_j10) (show ∃ b, cBest (iC_clauses.toInt, fC_wants, fC_wantsNot, fC_weight) (iI (l3_x4.toInt + 1)).toInt.toNat b l2_j10.toInt from by rw [iI_t (by omega) (by omega), show (l3_x4.toInt + 1).toNat = l3_x4.toInt.toNat + 1 from by omega]; exact hB2) (by have e9 : ((iI (l3_x4.toInt + 1))).toInt = (l3_x4.toInt + 1) := (iI_t (Int.le_trans (by decide) (Int.add_le_add (b_l3_x4.1) (Int.le_refl _))) (Int.le_trans (Int.add_le_add (b_l3_x4.2) (Int.le_refl _)) (by decide))); omega) hP hD hS hl
theorem dX0_models_0 : decode cX0_models 0 = .ok (.iconst 0, 1) := dk_3 (by decide +kernel)
theorem dX0_models_1 : decode cX0_models 1 = .ok (.istore_n 1, 1) := dk_60 (by decide +kernel)
theorem dX0_models_2 : decode cX0_models 2 = .ok (.iconst 0, 1) := dk_3 (by decide +kernel)
theorem dX0_models_3 : decode cX0_models 3 = .ok (.istore_n 2, 1) := dk_61 (by decide +kernel)
theorem dX0_models_4 : decode cX0_models 4 = .ok (.iload_n 2, 1) := dk_28 (by decide +kernel)
theorem dX0_models_5 : decode cX0_models 5 = .ok (.sipush 4096, 3) := dk_17 (by decide +kernel)
theorem dX0_models_8 : decode cX0_models 8 = .ok (.if_icmp .ge 26, 3) := dk_162 (by decide +kernel)
theorem dX0_models_11 : decode cX0_models 11 = .ok (.iload_n 1, 1) := dk_27 (by decide +kernel)
theorem dX0_models_12 : decode cX0_models 12 = .ok (.aload_n 0, 1) := dk_42 (by decide +kernel)
theorem dX0_models_13 : decode cX0_models 13 = .ok (.getfield 21, 3) := dk_180 (by decide +kernel)
theorem dX0_models_16 : decode cX0_models 16 = .ok (.iload_n 2, 1) := dk_28 (by decide +kernel)
theorem dX0_models_17 : decode cX0_models 17 = .ok (.iaload, 1) := dk_46 (by decide +kernel)
theorem dX0_models_18 : decode cX0_models 18 = .ok (.ifCond .ne 7, 3) := dk_154 (by decide +kernel)
theorem dX0_models_21 : decode cX0_models 21 = .ok (.iconst 1, 1) := dk_4 (by decide +kernel)
theorem dX0_models_22 : decode cX0_models 22 = .ok (.goto 4, 3) := dk_167 (by decide +kernel)
theorem dX0_models_25 : decode cX0_models 25 = .ok (.iconst 0, 1) := dk_3 (by decide +kernel)
theorem dX0_models_26 : decode cX0_models 26 = .ok (.iadd, 1) := dk_96 (by decide +kernel)
theorem dX0_models_27 : decode cX0_models 27 = .ok (.istore_n 1, 1) := dk_60 (by decide +kernel)
theorem dX0_models_28 : decode cX0_models 28 = .ok (.iinc 2 1, 3) := dk_132 (by decide +kernel)
theorem dX0_models_31 : decode cX0_models 31 = .ok (.goto (-27), 3) := dk_167 (by decide +kernel)
theorem dX0_models_34 : decode cX0_models 34 = .ok (.iload_n 1, 1) := dk_27 (by decide +kernel)
theorem dX0_models_35 : decode cX0_models 35 = .ok (.ireturn, 1) := dk_172 (by decide +kernel)
def wsMX0_models : List Cond := .code yX0_models cX0_models 3 (some .int) :: ([.fieldLink RX0 21 "OptimaWorks$ClauseDesk" "broken" "[I"] ++ wsX00)
theorem iwsMX0_models_in0 : ∀ w ∈ wsX00, w ∈ wsMX0_models := fun _ h => List.mem_cons_of_mem _ (List.mem_append_right _ h)
theorem gdwsMX0_models : wsMX0_models.all goodWord = true := gdC rfl (gdA (by decide +kernel : ([.fieldLink RX0 21 "OptimaWorks$ClauseDesk" "broken" "[I"] : List Cond).all goodWord = true) gdwsX00)
set_option maxHeartbeats 4000000 in
set_option maxRecDepth 100000 in
/-- rows that keep all -/
theorem m_X0_models (l : Launch) (dC : Nat → ClassId) (dI : Nat → Nat → Nat) (hC : Nat → Nat) (aC : Nat → Nat) (kC : Nat → ClassId) (iC_clauses : Int32) (fC_wants : Nat → Int32) (fC_wantsNot : Nat → Int32) (fC_weight : Nat → Int32) (fC_broken : Nat → Int32) (fC_loss : Nat → Int32) (iC_musts : Int32) (b_iC_clauses : 0 ≤ iC_clauses.toInt ∧ iC_clauses.toInt ≤ 24) (hCv : cVal (iC_clauses.toInt, fC_wants, fC_wantsNot, fC_weight)) (hCI : ClI (iC_clauses.toInt, fC_wants, fC_wantsNot, fC_weight) fC_broken fC_loss iC_musts) (sz : Nat) : Met l yX0_models wsMX0_models ({ frames := 0, cells := 0, slots := 0, locals := 0 }) (va_Pc [.ref (hC 0)] (fun U => U.heap.size = sz ∧ va_P (dC, dI) vwCl (WC hC aC kC iC_clauses fC_wants fC_wantsNot fC_weight fC_broken fC_loss iC_musts) U.heap ∧ va_K (dC, dI) vwCl (tC kC) U ∧ va_D (fun _ => True) (WC hC aC kC iC_clauses fC_wants fC_wantsNot fC_weight fC_broken fC_loss iC_musts))) (va_Qi (fun (r : Int32) (u : Unit) => (r.toInt = ((cMods (iC_clauses.toInt, fC_wants, fC_wantsNot, fC_weight) (cFull iC_clauses.toInt.toNat) : Nat) : Int))) (fun (u : Unit) t => va_P (dC, dI) vwCl (WC hC aC kC iC_clauses fC_wants fC_wantsNot fC_weight fC_broken fC_loss iC_musts) t.heap ∧ va_D (va_A (WC hC aC kC iC_clauses fC_wants fC_wantsNot fC_weight fC_broken fC_loss iC_musts) sz) (WC hC aC kC iC_clauses fC_wants fC_wantsNot fC_weight fC_broken fC_loss iC_musts)) (va_A (WC hC aC kC iC_clauses fC_wants fC_wantsNot fC_weight fC_broken fC_loss iC_musts) sz)) 0 0 (va_A (WC hC aC kC iC_clauses fC_wants fC_wantsNot fC_weight fC_broken fC_loss iC_musts) sz) := by
  refine Met.ofW (cc := cX0_models) (maxL := 3) (ret := (some .int)) (by decide) rfl ?_
  intro p e s m args below meth c s₁ B hml hv
  obtain ⟨rfl, hsz, hP, hK, hD0⟩ := hv
  have hx := B.exec
  have hb := B.bytes
  have hr := B.returns
  have hts := atoms_spec (ws := wsMX0_models) B.pre
  have hown : s.vm.findClass RX0 = some m.cls := findClass_of_methodNamed B.named
  have hlocks := B.notSynchronized
  subst hsz
  have hD := hD0.self (sz := s.heap.size)
  generalize hAe : va_A (WC hC aC kC iC_clauses fC_wants fC_wantsNot fC_weight fC_broken fC_loss iC_musts) s.heap.size = A at hD ⊢
  have hA : ∀ q : Nat, s.heap.size ≤ q → A q := fun q h => by rw [← hAe]; exact Or.inr h
  have hS : va_S A s.heap s.heap [] := va_S.rf
  have hl := lv_entry ([.ref (hC 0)]) (n := 3) (Nat.le_of_ble_eq_true rfl)
  rw [lg_entry_eq]
  generalize (lg_sl ([.ref (hC 0)]) ++ List.replicate (3 - (lg_sl ([.ref (hC 0)])).length) Slot.unset).toArray = ls at hl ⊢
  have hl : lv_has ls 3 [(0, .ref (hC 0))] := hl
  refine lv_iconst (v := 0) hx hb dX0_models_0 (by decide) ?_
  refine lv_istore_n hx hb dX0_models_1 rfl hl (by decide) rfl (fun ls (hl : lv_has ls _ ([(1, .int 0), (0, .ref (hC 0))])) => ?_)
  refine lv_iconst (v := 0) hx hb dX0_models_2 (by decide) ?_
  refine lv_istore_n hx hb dX0_models_3 rfl hl (by decide) rfl (fun ls (hl : lv_has ls _ ([(2, .int 0), (1, .int 0), (0, .ref (hC 0))])) => ?_)
  have hl : lv_has _ _ ([(2, .int 0), (1, .int 0), (0, .ref (hC 0))]) := lv_sub hl [0, 1, 2] rfl
  refine (fun (loop : ∀ (n9 : Nat) (l2_x4 : Int32) (l1_x4 : Int32) (H : Heap) (locs : List Loc) (ls : Array Slot), (0 ≤ l2_x4.toInt ∧ l2_x4.toInt ≤ 4096) → (l1_x4.toInt = ((cCnt (iC_clauses.toInt, fC_wants, fC_wantsNot, fC_weight) l2_x4.toInt.toNat : Nat) : Int)) → (4096 - l2_x4.toInt < ((n9 : Nat) : Int)) → va_P (dC, dI) vwCl (WC hC aC kC iC_clauses fC_wants fC_wantsNot fC_weight fC_broken fC_loss iC_musts) H → va_D A (WC hC aC kC iC_clauses fC_wants fC_wantsNot fC_weight fC_broken fC_loss iC_musts) → va_S A s.heap H locs → lv_has ls 3 [(2, .int l2_x4), (1, .int l1_x4), (0, .ref (hC 0))] → W p l e _ s m _ below meth c H locs 0 0 _ (F0 m 4 ls [])) => loop (4097) 0 0 _ _ _ (show 0 ≤ (0 : Int32).toInt ∧ (0 : Int32).toInt ≤ 4096 from by decide) (show (0 : Int32).toInt = ((cCnt (iC_clauses.toInt, fC_wants, fC_wantsNot, fC_weight) (0 : Int32).toInt.toNat : Nat) : Int) from by rw [show (0 : Int32).toInt.toNat = 0 from by decide]; rfl) ((by have e9 : (0 : Int32).toInt = 0 := (by decide : (0 : Int32).toInt = 0); omega)) hP hD hS hl) ?_
  intro n9
  induction n9 with
  | zero => intro l2_x4 l1_x4 H locs ls b_l2_x4 hN hf9; exact False.elim (by omega)
  | succ n9 ihx4 =>
    intro l2_x4 l1_x4 H locs ls b_l2_x4 hN hfx4 hP hD hS hl
    refine lv_iload_n hx hb dX0_models_4 rfl (lv_at hl 0 rfl) ?_
    refine lv_sipush (v := 4096) hx hb dX0_models_5 (by decide) ?_
    refine lv_icmp_ge (tgt := 34) hx hb dX0_models_8 (by decide) (fun c_8 => ?_) (fun c_8 => ?_)
    · have t_8 : l2_x4.toInt ≥ 4096 := toI_ge c_8 rfl (by decide : (4096 : Int32).toInt = 4096)
      refine lv_iload_n hx hb dX0_models_34 rfl (lv_at hl 1 rfl) ?_
      refine W.widen (k := 0) (n := 0) (by decide +kernel) (by decide +kernel) ?_
      exact W.iret (v := l1_x4) hx hb hr (fun t9_ ht hW => ⟨⟨l1_x4, (), rfl, (by (try dsimp only); show l1_x4.toInt = ((cCnt (iC_clauses.toInt, fC_wants, fC_wantsNot, fC_weight) 4096 : Nat) : Int); rw [show 4096 = l2_x4.toInt.toNat from by omega]; exact hN), by rw [ht]; exact hP, hD⟩, hS.F ht⟩) hS.2.2 dX0_models_35
    · have t_8 : ¬ l2_x4.toInt ≥ 4096 := toI_nge c_8 rfl (by decide : (4096 : Int32).toInt = 4096)
      have hcl := cCnt_le (iC_clauses.toInt, fC_wants, fC_wantsNot, fC_weight) l2_x4.toInt.toNat
      refine lv_iload_n hx hb dX0_models_11 rfl (lv_at hl 1 rfl) ?_
      refine lv_aload_n hx hb dX0_models_12 rfl (lv_at hl 2 rfl) ?_
      refine va_get (D := (dC, dI)) (ci := 0) (v := .ref (aC 3)) (C := RX0) (T := TX0) (N := 7) hx hb hts iwsMX0_models_in0 hown hK hP 0 rfl rfl 4 (by decide) (hts (.fieldLink RX0 21 "OptimaWorks$ClauseDesk" "broken" "[I") (by decide +kernel)) (fun _ h9 => h9) rfl dX0_models_13 ?_
      refine lv_iload_n hx hb dX0_models_16 rfl (lv_at hl 0 rfl) ?_
      refine va_iald (cA := kC 3) (n := 4096) (f := fC_broken) hx hb hK hP 4 3 rfl rfl (vp_in_iff.mpr ⟨b_l2_x4.1, (Int.lt_of_lt_of_le (Int.not_le.mp t_8) (by decide))⟩) dX0_models_17 ?_
      refine lv_topi (fun v13 hv13 => ?_)
      have b_v13 : v13 = fC_broken (l2_x4).toNatClampNeg := hv13
      clear hv13
      refine lv_if_ne (tgt := 25) hx hb dX0_models_18 (by decide) (fun c_18 => ?_) (fun c_18 => ?_)
      · have t_18 : v13.toInt ≠ 0 := toI_ne c_18 rfl (by decide : (0 : Int32).toInt = 0)
        refine lv_iconst (v := 0) hx hb dX0_models_25 (by decide) ?_
        refine lv_iadd hx hb dX0_models_26 ?_
        refine lv_topi (fun y14 hy14 => ?_)
        obtain rfl : (iI (l1_x4.toInt + 0)) = y14 := (hy14.trans (iI_add2 (iI_of _) (by decide : (0 : Int32) = iI 0))).symm
        refine lv_istore_n hx hb dX0_models_27 rfl hl (by decide) rfl (fun ls (hl : lv_has ls _ ([(1, .int (iI (l1_x4.toInt + 0))), (2, .int l2_x4), (0, .ref (hC 0))])) => ?_)
        refine lv_iinc (v := (iI (l2_x4.toInt + 1))) hx hb dX0_models_28 hl (k := 1) rfl (iI_add2 (iI_of _) (by decide : (1 : Int32) = iI 1)) (by decide) rfl (fun ls (hl : lv_has ls _ ([(2, .int (iI (l2_x4.toInt + 1))), (1, .int (iI (l1_x4.toInt + 0))), (0, .ref (hC 0))])) => ?_)
        refine lv_goto (tgt := 4) hx hb dX0_models_31 (by decide) ?_
        have hl : lv_has _ _ ([(2, .int (iI (l2_x4.toInt + 1))), (1, .int (iI (l1_x4.toInt + 0))), (0, .ref (hC 0))]) := lv_sub hl [0, 1, 2] rfl
        exact ihx4 (iI (l2_x4.toInt + 1)) (iI (l1_x4.toInt + 0)) _ _ _ (iI_rng (Int.le_trans (by decide) (Int.add_le_add (b_l2_x4.1) (Int.le_refl _))) (by omega) (by decide) (by decide)) (show (iI (l1_x4.toInt + 0)).toInt = ((cCnt (iC_clauses.toInt, fC_wants, fC_wantsNot, fC_weight) (iI (l2_x4.toInt + 1)).toInt.toNat : Nat) : Int) from by first | (have hc9 := ClI.cnt1 hCv hCI (m := l2_x4.toInt.toNat) (by omega) b_v13 t_18; rw [iI_t (by omega) (by omega), iI_t (by omega) (by omega), show (l2_x4.toInt + 1).toNat = l2_x4.toInt.toNat + 1 from by omega, hc9]; omega) | (have hc9 := ClI.cnt0 hCv hCI (m := l2_x4.toInt.toNat) (by omega) b_v13 t_18; rw [iI_t (by omega) (by omega), iI_t (by omega) (by omega), show (l2_x4.toInt + 1).toNat = l2_x4.toInt.toNat + 1 from by omega, hc9]; omega)) (by have e9 : ((iI (l2_x4.toInt + 1))).toInt = (l2_x4.toInt + 1) := (iI_t (Int.le_trans (by decide) (Int.add_le_add (b_l2_x4.1) (Int.le_refl _))) (Int.le_trans (Int.add_le_add (b_l2_x4.2) (Int.le_refl _)) (by decide))); omega) hP hD hS hl
      · have t_18 : v13.toInt = 0 := toI_nne c_18 rfl (by decide : (0 : Int32).toInt = 0)
        refine lv_iconst (v := 1) hx hb dX0_models_21 (by decide) ?_
        refine lv_goto (tgt := 26) hx hb dX0_models_22 (by decide) ?_
        refine lv_iadd hx hb dX0_models_26 ?_
        refine lv_topi (fun y15 hy15 => ?_)
        obtain rfl : (iI (l1_x4.toInt + 1)) = y15 := (hy15.trans (iI_add2 (iI_of _) (by decide : (1 : Int32) = iI 1))).symm
        refine lv_istore_n hx hb dX0_models_27 rfl hl (by decide) rfl (fun ls (hl : lv_has ls _ ([(1, .int (iI (l1_x4.toInt + 1))), (2, .int l2_x4), (0, .ref (hC 0))])) => ?_)
        refine lv_iinc (v := (iI (l2_x4.toInt + 1))) hx hb dX0_models_28 hl (k := 1) rfl (iI_add2 (iI_of _) (by decide : (1 : Int32) = iI 1)) (by decide) rfl (fun ls (hl : lv_has ls _ ([(2, .int (iI (l2_x4.toInt + 1))), (1, .int (iI (l1_x4.toInt + 1))), (0, .ref (hC 0))])) => ?_)
        refine lv_goto (tgt := 4) hx hb dX0_models_31 (by decide) ?_
        have hl : lv_has _ _ ([(2, .int (iI (l2_x4.toInt + 1))), (1, .int (iI (l1_x4.toInt + 1))), (0, .ref (hC 0))]) := lv_sub hl [0, 1, 2] rfl
        exact ihx4 (iI (l2_x4.toInt + 1)) (iI (l1_x4.toInt + 1)) _ _ _ (iI_rng (Int.le_trans (by decide) (Int.add_le_add (b_l2_x4.1) (Int.le_refl _))) (by omega) (by decide) (by decide)) (show (iI (l1_x4.toInt + 1)).toInt = ((cCnt (iC_clauses.toInt, fC_wants, fC_wantsNot, fC_weight) (iI (l2_x4.toInt + 1)).toInt.toNat : Nat) : Int) from by first | (have hc9 := ClI.cnt1 hCv hCI (m := l2_x4.toInt.toNat) (by omega) b_v13 t_18; rw [iI_t (by omega) (by omega), iI_t (by omega) (by omega), show (l2_x4.toInt + 1).toNat = l2_x4.toInt.toNat + 1 from by omega, hc9]; omega) | (have hc9 := ClI.cnt0 hCv hCI (m := l2_x4.toInt.toNat) (by omega) b_v13 t_18; rw [iI_t (by omega) (by omega), iI_t (by omega) (by omega), show (l2_x4.toInt + 1).toNat = l2_x4.toInt.toNat + 1 from by omega, hc9]; omega)) (by have e9 : ((iI (l2_x4.toInt + 1))).toInt = (l2_x4.toInt + 1) := (iI_t (Int.le_trans (by decide) (Int.add_le_add (b_l2_x4.1) (Int.le_refl _))) (Int.le_trans (Int.add_le_add (b_l2_x4.2) (Int.le_refl _)) (by decide))); omega) hP hD hS hl
theorem dX0_canKeep_0 : decode cX0_canKeep 0 = .ok (.iconst 0, 1) := dk_3 (by decide +kernel)
theorem dX0_canKeep_1 : decode cX0_canKeep 1 = .ok (.istore_n 2, 1) := dk_61 (by decide +kernel)
theorem dX0_canKeep_2 : decode cX0_canKeep 2 = .ok (.iload_n 2, 1) := dk_28 (by decide +kernel)
theorem dX0_canKeep_3 : decode cX0_canKeep 3 = .ok (.sipush 4096, 3) := dk_17 (by decide +kernel)
theorem dX0_canKeep_6 : decode cX0_canKeep 6 = .ok (.if_icmp .ge 22, 3) := dk_162 (by decide +kernel)
theorem dX0_canKeep_9 : decode cX0_canKeep 9 = .ok (.aload_n 0, 1) := dk_42 (by decide +kernel)
theorem dX0_canKeep_10 : decode cX0_canKeep 10 = .ok (.getfield 21, 3) := dk_180 (by decide +kernel)
theorem dX0_canKeep_13 : decode cX0_canKeep 13 = .ok (.iload_n 2, 1) := dk_28 (by decide +kernel)
theorem dX0_canKeep_14 : decode cX0_canKeep 14 = .ok (.iaload, 1) := dk_46 (by decide +kernel)
theorem dX0_canKeep_15 : decode cX0_canKeep 15 = .ok (.iload_n 1, 1) := dk_27 (by decide +kernel)
theorem dX0_canKeep_16 : decode cX0_canKeep 16 = .ok (.iand, 1) := dk_126 (by decide +kernel)
theorem dX0_canKeep_17 : decode cX0_canKeep 17 = .ok (.ifCond .ne 5, 3) := dk_154 (by decide +kernel)
theorem dX0_canKeep_20 : decode cX0_canKeep 20 = .ok (.iconst 1, 1) := dk_4 (by decide +kernel)
theorem dX0_canKeep_21 : decode cX0_canKeep 21 = .ok (.ireturn, 1) := dk_172 (by decide +kernel)
theorem dX0_canKeep_22 : decode cX0_canKeep 22 = .ok (.iinc 2 1, 3) := dk_132 (by decide +kernel)
theorem dX0_canKeep_25 : decode cX0_canKeep 25 = .ok (.goto (-23), 3) := dk_167 (by decide +kernel)
theorem dX0_canKeep_28 : decode cX0_canKeep 28 = .ok (.iconst 0, 1) := dk_3 (by decide +kernel)
theorem dX0_canKeep_29 : decode cX0_canKeep 29 = .ok (.ireturn, 1) := dk_172 (by decide +kernel)
def wsMX0_canKeep : List Cond := .code yX0_canKeep cX0_canKeep 3 (some .boolean) :: ([.fieldLink RX0 21 "OptimaWorks$ClauseDesk" "broken" "[I"] ++ wsX00)
theorem iwsMX0_canKeep_in0 : ∀ w ∈ wsX00, w ∈ wsMX0_canKeep := fun _ h => List.mem_cons_of_mem _ (List.mem_append_right _ h)
theorem gdwsMX0_canKeep : wsMX0_canKeep.all goodWord = true := gdC rfl (gdA (by decide +kernel : ([.fieldLink RX0 21 "OptimaWorks$ClauseDesk" "broken" "[I"] : List Cond).all goodWord = true) gdwsX00)
set_option maxHeartbeats 4000000 in
set_option maxRecDepth 100000 in
/-- can a set be kept -/
theorem m_X0_canKeep (l : Launch) (dC : Nat → ClassId) (dI : Nat → Nat → Nat) (hC : Nat → Nat) (aC : Nat → Nat) (kC : Nat → ClassId) (iC_clauses : Int32) (fC_wants : Nat → Int32) (fC_wantsNot : Nat → Int32) (fC_weight : Nat → Int32) (fC_broken : Nat → Int32) (fC_loss : Nat → Int32) (iC_musts : Int32) (p1 : Int32) (b_iC_clauses : 0 ≤ iC_clauses.toInt ∧ iC_clauses.toInt ≤ 24) (hCv : cVal (iC_clauses.toInt, fC_wants, fC_wantsNot, fC_weight)) (hCI : ClI (iC_clauses.toInt, fC_wants, fC_wantsNot, fC_weight) fC_broken fC_loss iC_musts) (sz : Nat) : Met l yX0_canKeep wsMX0_canKeep ({ frames := 0, cells := 0, slots := 0, locals := 0 }) (va_Pc [.ref (hC 0), .int p1] (fun U => U.heap.size = sz ∧ va_P (dC, dI) vwCl (WC hC aC kC iC_clauses fC_wants fC_wantsNot fC_weight fC_broken fC_loss iC_musts) U.heap ∧ va_K (dC, dI) vwCl (tC kC) U ∧ va_D (fun _ => True) (WC hC aC kC iC_clauses fC_wants fC_wantsNot fC_weight fC_broken fC_loss iC_musts))) (va_Qi (fun (r : Int32) (u : Unit) => (0 ≤ r.toInt ∧ r.toInt ≤ 1) ∧ (r.toInt ≠ 0 → cCan (iC_clauses.toInt, fC_wants, fC_wantsNot, fC_weight) p1) ∧ (r.toInt = 0 → ¬ cCan (iC_clauses.toInt, fC_wants, fC_wantsNot, fC_weight) p1)) (fun (u : Unit) t => va_P (dC, dI) vwCl (WC hC aC kC iC_clauses fC_wants fC_wantsNot fC_weight fC_broken fC_loss iC_musts) t.heap ∧ va_D (va_A (WC hC aC kC iC_clauses fC_wants fC_wantsNot fC_weight fC_broken fC_loss iC_musts) sz) (WC hC aC kC iC_clauses fC_wants fC_wantsNot fC_weight fC_broken fC_loss iC_musts)) (va_A (WC hC aC kC iC_clauses fC_wants fC_wantsNot fC_weight fC_broken fC_loss iC_musts) sz)) 0 0 (va_A (WC hC aC kC iC_clauses fC_wants fC_wantsNot fC_weight fC_broken fC_loss iC_musts) sz) := by
  refine Met.ofW (cc := cX0_canKeep) (maxL := 3) (ret := (some .boolean)) (by decide) rfl ?_
  intro p e s m args below meth c s₁ B hml hv
  obtain ⟨rfl, hsz, hP, hK, hD0⟩ := hv
  have hx := B.exec
  have hb := B.bytes
  have hr := B.returns
  have hts := atoms_spec (ws := wsMX0_canKeep) B.pre
  have hown : s.vm.findClass RX0 = some m.cls := findClass_of_methodNamed B.named
  have hlocks := B.notSynchronized
  subst hsz
  have hD := hD0.self (sz := s.heap.size)
  generalize hAe : va_A (WC hC aC kC iC_clauses fC_wants fC_wantsNot fC_weight fC_broken fC_loss iC_musts) s.heap.size = A at hD ⊢
  have hA : ∀ q : Nat, s.heap.size ≤ q → A q := fun q h => by rw [← hAe]; exact Or.inr h
  have hS : va_S A s.heap s.heap [] := va_S.rf
  have hl := lv_entry ([.ref (hC 0), .int p1]) (n := 3) (Nat.le_of_ble_eq_true rfl)
  rw [lg_entry_eq]
  generalize (lg_sl ([.ref (hC 0), .int p1]) ++ List.replicate (3 - (lg_sl ([.ref (hC 0), .int p1])).length) Slot.unset).toArray = ls at hl ⊢
  have hl : lv_has ls 3 [(0, .ref (hC 0)), (1, .int p1)] := hl
  refine lv_iconst (v := 0) hx hb dX0_canKeep_0 (by decide) ?_
  refine lv_istore_n hx hb dX0_canKeep_1 rfl hl (by decide) rfl (fun ls (hl : lv_has ls _ ([(2, .int 0), (0, .ref (hC 0)), (1, .int p1)])) => ?_)
  have hl : lv_has _ _ ([(2, .int 0), (0, .ref (hC 0)), (1, .int p1)]) := lv_sub hl [0, 1, 2] rfl
  refine (fun (loop : ∀ (n9 : Nat) (l2_x2 : Int32) (H : Heap) (locs : List Loc) (ls : Array Slot), (0 ≤ l2_x2.toInt ∧ l2_x2.toInt ≤ 4096) → (∀ k, k < l2_x2.toInt.toNat → ¬ cSat (iC_clauses.toInt, fC_wants, fC_wantsNot, fC_weight) p1 k iC_clauses.toInt.toNat = true) → (4096 - l2_x2.toInt < ((n9 : Nat) : Int)) → va_P (dC, dI) vwCl (WC hC aC kC iC_clauses fC_wants fC_wantsNot fC_weight fC_broken fC_loss iC_musts) H → va_D A (WC hC aC kC iC_clauses fC_wants fC_wantsNot fC_weight fC_broken fC_loss iC_musts) → va_S A s.heap H locs → lv_has ls 3 [(2, .int l2_x2), (0, .ref (hC 0)), (1, .int p1)] → W p l e _ s m _ below meth c H locs 0 0 _ (F0 m 2 ls [])) => loop (4097) 0 _ _ _ (show 0 ≤ (0 : Int32).toInt ∧ (0 : Int32).toInt ≤ 4096 from by decide) (show ∀ k, k < (0 : Int32).toInt.toNat → ¬ cSat (iC_clauses.toInt, fC_wants, fC_wantsNot, fC_weight) p1 k iC_clauses.toInt.toNat = true from fun k hk => absurd hk (by rw [show (0 : Int32).toInt.toNat = 0 from by decide]; exact Nat.not_lt_zero k)) ((by have e9 : (0 : Int32).toInt = 0 := (by decide : (0 : Int32).toInt = 0); omega)) hP hD hS hl) ?_
  intro n9
  induction n9 with
  | zero => intro l2_x2 H locs ls b_l2_x2 hN hf9; exact False.elim (by omega)
  | succ n9 ihx2 =>
    intro l2_x2 H locs ls b_l2_x2 hN hfx2 hP hD hS hl
    refine lv_iload_n hx hb dX0_canKeep_2 rfl (lv_at hl 0 rfl) ?_
    refine lv_sipush (v := 4096) hx hb dX0_canKeep_3 (by decide) ?_
    refine lv_icmp_ge (tgt := 28) hx hb dX0_canKeep_6 (by decide) (fun c_6 => ?_) (fun c_6 => ?_)
    · have t_6 : l2_x2.toInt ≥ 4096 := toI_ge c_6 rfl (by decide : (4096 : Int32).toInt = 4096)
      refine lv_iconst (v := 0) hx hb dX0_canKeep_28 (by decide) ?_
      refine W.widen (k := 0) (n := 0) (by decide +kernel) (by decide +kernel) ?_
      exact W.zret (v := 0) hx hb hr rfl (fun t9_ ht hW => ⟨⟨(0 : Int32), (), rfl, ⟨(show 0 ≤ (0 : Int32).toInt ∧ (0 : Int32).toInt ≤ 1 from by decide), (by (try dsimp only); exact (fun h9 => absurd (show (0 : Int32).toInt = 0 from by decide) h9)), (by (try dsimp only); exact (fun _ => cCan.no hN (by omega)))⟩, by rw [ht]; exact hP, hD⟩, hS.F ht⟩) hS.2.2 dX0_canKeep_29
    · have t_6 : ¬ l2_x2.toInt ≥ 4096 := toI_nge c_6 rfl (by decide : (4096 : Int32).toInt = 4096)
      refine lv_aload_n hx hb dX0_canKeep_9 rfl (lv_at hl 1 rfl) ?_
      refine va_get (D := (dC, dI)) (ci := 0) (v := .ref (aC 3)) (C := RX0) (T := TX0) (N := 7) hx hb hts iwsMX0_canKeep_in0 hown hK hP 0 rfl rfl 4 (by decide) (hts (.fieldLink RX0 21 "OptimaWorks$ClauseDesk" "broken" "[I") (by decide +kernel)) (fun _ h9 => h9) rfl dX0_canKeep_10 ?_
      refine lv_iload_n hx hb dX0_canKeep_13 rfl (lv_at hl 0 rfl) ?_
      refine va_iald (cA := kC 3) (n := 4096) (f := fC_broken) hx hb hK hP 4 3 rfl rfl (vp_in_iff.mpr ⟨b_l2_x2.1, (Int.lt_of_lt_of_le (Int.not_le.mp t_6) (by decide))⟩) dX0_canKeep_14 ?_
      refine lv_topi (fun v5 hv5 => ?_)
      have b_v5 : v5 = fC_broken (l2_x2).toNatClampNeg := hv5
      clear hv5
      refine lv_iload_n hx hb dX0_canKeep_15 rfl (lv_at hl 2 rfl) ?_
      refine lv_iand hx hb dX0_canKeep_16 ?_
      refine lv_topi (fun v6 hv6 => ?_)
      have b_v6 : v6 = v5 &&& p1 := hv6
      clear hv6
      refine lv_if_ne (tgt := 22) hx hb dX0_canKeep_17 (by decide) (fun c_17 => ?_) (fun c_17 => ?_)
      · have t_17 : v6.toInt ≠ 0 := toI_ne c_17 rfl (by decide : (0 : Int32).toInt = 0)
        refine lv_iinc (v := (iI (l2_x2.toInt + 1))) hx hb dX0_canKeep_22 hl (k := 0) rfl (iI_add2 (iI_of _) (by decide : (1 : Int32) = iI 1)) (by decide) rfl (fun ls (hl : lv_has ls _ ([(2, .int (iI (l2_x2.toInt + 1))), (0, .ref (hC 0)), (1, .int p1)])) => ?_)
        refine lv_goto (tgt := 2) hx hb dX0_canKeep_25 (by decide) ?_
        have hl : lv_has _ _ ([(2, .int (iI (l2_x2.toInt + 1))), (0, .ref (hC 0)), (1, .int p1)]) := lv_sub hl [0, 1, 2] rfl
        exact ihx2 (iI (l2_x2.toInt + 1)) _ _ _ (iI_rng (Int.le_trans (by decide) (Int.add_le_add (b_l2_x2.1) (Int.le_refl _))) (by omega) (by decide) (by decide)) (show ∀ k, k < (iI (l2_x2.toInt + 1)).toInt.toNat → ¬ cSat (iC_clauses.toInt, fC_wants, fC_wantsNot, fC_weight) p1 k iC_clauses.toInt.toNat = true from by rw [iI_t (by omega) (by omega), show (l2_x2.toInt + 1).toNat = l2_x2.toInt.toNat + 1 from by omega]; exact ClI.nkeep hCv hCI hN (by omega) (by rw [b_v6, b_v5] <;> rfl) t_17) (by have e9 : ((iI (l2_x2.toInt + 1))).toInt = (l2_x2.toInt + 1) := (iI_t (Int.le_trans (by decide) (Int.add_le_add (b_l2_x2.1) (Int.le_refl _))) (Int.le_trans (Int.add_le_add (b_l2_x2.2) (Int.le_refl _)) (by decide))); omega) hP hD hS hl
      · have t_17 : v6.toInt = 0 := toI_nne c_17 rfl (by decide : (0 : Int32).toInt = 0)
        refine lv_iconst (v := 1) hx hb dX0_canKeep_20 (by decide) ?_
        refine W.widen (k := 0) (n := 0) (by decide +kernel) (by decide +kernel) ?_
        exact W.zret (v := 1) hx hb hr rfl (fun t9_ ht hW => ⟨⟨(1 : Int32), (), rfl, ⟨(show 0 ≤ (1 : Int32).toInt ∧ (1 : Int32).toInt ≤ 1 from by decide), (by (try dsimp only); exact (fun _ => ClI.ykeep (m := l2_x2.toInt.toNat) hCv hCI (by omega) (by rw [b_v6, b_v5] <;> rfl) t_17)), (by (try dsimp only); exact (fun h9 => absurd h9 (by decide)))⟩, by rw [ht]; exact hP, hD⟩, hS.F ht⟩) hS.2.2 dX0_canKeep_21
theorem dX0_core_0 : decode cX0_core 0 = .ok (.iconst 1, 1) := dk_4 (by decide +kernel)
theorem dX0_core_1 : decode cX0_core 1 = .ok (.aload_n 0, 1) := dk_42 (by decide +kernel)
theorem dX0_core_2 : decode cX0_core 2 = .ok (.getfield 27, 3) := dk_180 (by decide +kernel)
theorem dX0_core_5 : decode cX0_core 5 = .ok (.ishl, 1) := dk_120 (by decide +kernel)
theorem dX0_core_6 : decode cX0_core 6 = .ok (.iconst 1, 1) := dk_4 (by decide +kernel)
theorem dX0_core_7 : decode cX0_core 7 = .ok (.isub, 1) := dk_100 (by decide +kernel)
theorem dX0_core_8 : decode cX0_core 8 = .ok (.istore_n 1, 1) := dk_60 (by decide +kernel)
theorem dX0_core_9 : decode cX0_core 9 = .ok (.aload_n 0, 1) := dk_42 (by decide +kernel)
theorem dX0_core_10 : decode cX0_core 10 = .ok (.iload_n 1, 1) := dk_27 (by decide +kernel)
theorem dX0_core_11 : decode cX0_core 11 = .ok (.invokevirtual 38, 3) := dk_182 (by decide +kernel)
theorem dX0_core_14 : decode cX0_core 14 = .ok (.ifCond .eq 5, 3) := dk_153 (by decide +kernel)
theorem dX0_core_17 : decode cX0_core 17 = .ok (.iconst 0, 1) := dk_3 (by decide +kernel)
theorem dX0_core_18 : decode cX0_core 18 = .ok (.ireturn, 1) := dk_172 (by decide +kernel)
theorem dX0_core_19 : decode cX0_core 19 = .ok (.aload_n 0, 1) := dk_42 (by decide +kernel)
theorem dX0_core_20 : decode cX0_core 20 = .ok (.getfield 27, 3) := dk_180 (by decide +kernel)
theorem dX0_core_23 : decode cX0_core 23 = .ok (.iconst 1, 1) := dk_4 (by decide +kernel)
theorem dX0_core_24 : decode cX0_core 24 = .ok (.isub, 1) := dk_100 (by decide +kernel)
theorem dX0_core_25 : decode cX0_core 25 = .ok (.istore_n 2, 1) := dk_61 (by decide +kernel)
theorem dX0_core_26 : decode cX0_core 26 = .ok (.iload_n 2, 1) := dk_28 (by decide +kernel)
theorem dX0_core_27 : decode cX0_core 27 = .ok (.ifCond .lt 27, 3) := dk_155 (by decide +kernel)
theorem dX0_core_30 : decode cX0_core 30 = .ok (.iload_n 1, 1) := dk_27 (by decide +kernel)
theorem dX0_core_31 : decode cX0_core 31 = .ok (.iconst 1, 1) := dk_4 (by decide +kernel)
theorem dX0_core_32 : decode cX0_core 32 = .ok (.iload_n 2, 1) := dk_28 (by decide +kernel)
theorem dX0_core_33 : decode cX0_core 33 = .ok (.ishl, 1) := dk_120 (by decide +kernel)
theorem dX0_core_34 : decode cX0_core 34 = .ok (.iconst (-1), 1) := dk_2 (by decide +kernel)
theorem dX0_core_35 : decode cX0_core 35 = .ok (.ixor, 1) := dk_130 (by decide +kernel)
theorem dX0_core_36 : decode cX0_core 36 = .ok (.iand, 1) := dk_126 (by decide +kernel)
theorem dX0_core_37 : decode cX0_core 37 = .ok (.istore_n 3, 1) := dk_62 (by decide +kernel)
theorem dX0_core_38 : decode cX0_core 38 = .ok (.aload_n 0, 1) := dk_42 (by decide +kernel)
theorem dX0_core_39 : decode cX0_core 39 = .ok (.iload_n 3, 1) := dk_29 (by decide +kernel)
theorem dX0_core_40 : decode cX0_core 40 = .ok (.invokevirtual 38, 3) := dk_182 (by decide +kernel)
theorem dX0_core_43 : decode cX0_core 43 = .ok (.ifCond .ne 5, 3) := dk_154 (by decide +kernel)
theorem dX0_core_46 : decode cX0_core 46 = .ok (.iload_n 3, 1) := dk_29 (by decide +kernel)
theorem dX0_core_47 : decode cX0_core 47 = .ok (.istore_n 1, 1) := dk_60 (by decide +kernel)
theorem dX0_core_48 : decode cX0_core 48 = .ok (.iinc 2 (-1), 3) := dk_132 (by decide +kernel)
theorem dX0_core_51 : decode cX0_core 51 = .ok (.goto (-25), 3) := dk_167 (by decide +kernel)
theorem dX0_core_54 : decode cX0_core 54 = .ok (.iload_n 1, 1) := dk_27 (by decide +kernel)
theorem dX0_core_55 : decode cX0_core 55 = .ok (.ireturn, 1) := dk_172 (by decide +kernel)
def wsMX0_core : List Cond := .code yX0_core cX0_core 4 (some .int) :: ([.fieldLink RX0 27 "OptimaWorks$ClauseDesk" "clauses" "I"] ++ wsX00 ++ (wsV RX0 38 RX0 yX0_canKeep wsMX0_canKeep))
theorem iwsMX0_core_in0 : ∀ w ∈ wsX00, w ∈ wsMX0_core := fun _ h => List.mem_cons_of_mem _ (List.mem_append_left _ (List.mem_append_right _ h))
theorem gwsMX0_core_0 : GoodIn wsMX0_core (wsV RX0 38 RX0 yX0_canKeep wsMX0_canKeep) := goodIn_sub (fun _ h => List.mem_cons_of_mem _ (List.mem_append_right _ h)) (gdV (by decide +kernel) gdwsMX0_canKeep)
theorem gdwsMX0_core : wsMX0_core.all goodWord = true := gdC rfl (gdA (gdA (by decide +kernel : ([.fieldLink RX0 27 "OptimaWorks$ClauseDesk" "clauses" "I"] : List Cond).all goodWord = true) gdwsX00) (gdV (by decide +kernel) gdwsMX0_canKeep))
theorem hm_m_X0_core_0 : (.fieldLink RX0 27 "OptimaWorks$ClauseDesk" "clauses" "I" : Cond) ∈ wsMX0_core := by decide +kernel
set_option maxHeartbeats 4000000 in
set_option maxRecDepth 100000 in
/-- a core -/
theorem m_X0_core (l : Launch) (dC : Nat → ClassId) (dI : Nat → Nat → Nat) (hC : Nat → Nat) (aC : Nat → Nat) (kC : Nat → ClassId) (iC_clauses : Int32) (fC_wants : Nat → Int32) (fC_wantsNot : Nat → Int32) (fC_weight : Nat → Int32) (fC_broken : Nat → Int32) (fC_loss : Nat → Int32) (iC_musts : Int32) (b_iC_clauses : 0 ≤ iC_clauses.toInt ∧ iC_clauses.toInt ≤ 24) (hCv : cVal (iC_clauses.toInt, fC_wants, fC_wantsNot, fC_weight)) (hCI : ClI (iC_clauses.toInt, fC_wants, fC_wantsNot, fC_weight) fC_broken fC_loss iC_musts) (sz : Nat) : Met l yX0_core wsMX0_core ({ frames := 1, cells := 0, slots := 0, locals := 22 }) (va_Pc [.ref (hC 0)] (fun U => U.heap.size = sz ∧ va_P (dC, dI) vwCl (WC hC aC kC iC_clauses fC_wants fC_wantsNot fC_weight fC_broken fC_loss iC_musts) U.heap ∧ va_K (dC, dI) vwCl (tC kC) U ∧ va_D (fun _ => True) (WC hC aC kC iC_clauses fC_wants fC_wantsNot fC_weight fC_broken fC_loss iC_musts))) (va_Qi (fun (r : Int32) (u : Unit) => ((cCan (iC_clauses.toInt, fC_wants, fC_wantsNot, fC_weight) (cFull iC_clauses.toInt.toNat) ∧ r = 0) ∨ (¬ cCan (iC_clauses.toInt, fC_wants, fC_wantsNot, fC_weight) (cFull iC_clauses.toInt.toNat) ∧ cCore (iC_clauses.toInt, fC_wants, fC_wantsNot, fC_weight) iC_clauses.toInt.toNat (cFull iC_clauses.toInt.toNat) r))) (fun (u : Unit) t => va_P (dC, dI) vwCl (WC hC aC kC iC_clauses fC_wants fC_wantsNot fC_weight fC_broken fC_loss iC_musts) t.heap ∧ va_D (va_A (WC hC aC kC iC_clauses fC_wants fC_wantsNot fC_weight fC_broken fC_loss iC_musts) sz) (WC hC aC kC iC_clauses fC_wants fC_wantsNot fC_weight fC_broken fC_loss iC_musts)) (va_A (WC hC aC kC iC_clauses fC_wants fC_wantsNot fC_weight fC_broken fC_loss iC_musts) sz)) 0 0 (va_A (WC hC aC kC iC_clauses fC_wants fC_wantsNot fC_weight fC_broken fC_loss iC_musts) sz) := by
  refine Met.ofW (cc := cX0_core) (maxL := 4) (ret := (some .int)) (by decide) rfl ?_
  intro p e s m args below meth c s₁ B hml hv
  obtain ⟨rfl, hsz, hP, hK, hD0⟩ := hv
  have hx := B.exec
  have hb := B.bytes
  have hr := B.returns
  have hts := atoms_spec (ws := wsMX0_core) B.pre
  have hown : s.vm.findClass RX0 = some m.cls := findClass_of_methodNamed B.named
  have hlocks := B.notSynchronized
  subst hsz
  have hD := hD0.self (sz := s.heap.size)
  generalize hAe : va_A (WC hC aC kC iC_clauses fC_wants fC_wantsNot fC_weight fC_broken fC_loss iC_musts) s.heap.size = A at hD ⊢
  have hA : ∀ q : Nat, s.heap.size ≤ q → A q := fun q h => by rw [← hAe]; exact Or.inr h
  have hS : va_S A s.heap s.heap [] := va_S.rf
  have hl := lv_entry ([.ref (hC 0)]) (n := 4) (Nat.le_of_ble_eq_true rfl)
  rw [lg_entry_eq]
  generalize (lg_sl ([.ref (hC 0)]) ++ List.replicate (4 - (lg_sl ([.ref (hC 0)])).length) Slot.unset).toArray = ls at hl ⊢
  have hl : lv_has ls 4 [(0, .ref (hC 0))] := hl
  refine lv_iconst (v := 1) hx hb dX0_core_0 (by decide) ?_
  refine lv_aload_n hx hb dX0_core_1 rfl (lv_at hl 0 rfl) ?_
  refine va_get (D := (dC, dI)) (ci := 0) (v := .int iC_clauses) (C := RX0) (T := TX0) (N := 7) hx hb hts iwsMX0_core_in0 hown hK hP 0 rfl rfl 0 (by decide) (hts _ hm_m_X0_core_0) (fun _ h9 => h9) rfl dX0_core_2 ?_
  refine lv_ishl hx hb dX0_core_5 ?_
  refine lv_topi (fun v1 hv1 => ?_)
  have b_v1 : v1 = (1 : Int32) <<< (iC_clauses &&& 31) := hv1
  clear hv1
  refine lv_iconst (v := 1) hx hb dX0_core_6 (by decide) ?_
  refine lv_isub hx hb dX0_core_7 ?_
  refine lv_topi (fun y2 hy2 => ?_)
  obtain rfl : (iI (v1.toInt - 1)) = y2 := (hy2.trans (iI_sub2 (iI_of _) (by decide : (1 : Int32) = iI 1))).symm
  refine lv_istore_n hx hb dX0_core_8 rfl hl (by decide) rfl (fun ls (hl : lv_has ls _ ([(1, .int (iI (v1.toInt - 1))), (0, .ref (hC 0))])) => ?_)
  have eF : (iI (v1.toInt - 1)) = cFull iC_clauses.toInt.toNat := cFull_of (by omega) (by rw [← b_v1]; exact (iI_sub2 (iI_of _) (by decide : (1 : Int32) = iI 1)).symm)
  refine lv_aload_n hx hb dX0_core_9 rfl (lv_at hl 1 rfl) ?_
  refine lv_iload_n hx hb dX0_core_10 rfl (lv_at hl 0 rfl) ?_
  have hFc := allFree hD hS hA
  refine va_calli (va_runV (As := [.int (iI (v1.toInt - 1))]) (rest := []) ⟨hx, hb, hml, hown, hts⟩ (m_X0_canKeep l dC dI hC aC kC iC_clauses fC_wants fC_wantsNot fC_weight fC_broken fC_loss iC_musts (iI (v1.toInt - 1)) (b_iC_clauses) (hCv) (hCI) s.heap.size) (cwV 1 hts gwsMX0_core_0 rfl rfl rfl hd_yX0_canKeep_RX0 (by decide +kernel)) (fz_pre (va_recv hK hP (ci := 0) (q0 := 0) rfl rfl) hP hK hD) rfl rfl hl.1 rfl (lv_room (Nat.le_of_ble_eq_true rfl)) dX0_core_11 (by decide +kernel)) hS (fun q _ h => hFc q h) hFc (fun r3 u t9_ H locs ht hvm hw9 hB9 hz1 hk1 hS => ?_)
  revert hw9
  refine fz_a3 ?_
  intro b_r3 f3_0 f3_1
  have hP : va_P (dC, dI) vwCl (WC hC aC kC iC_clauses fC_wants fC_wantsNot fC_weight fC_broken fC_loss iC_musts) H := fz_P ht hB9.1
  have hD := fz_sd hP (hB9.2.weaken (fun _ q _ h => hFc q.1 h)) rfl
  have hk11y := f3_0
  have hk11n := f3_1
  refine lv_if_eq (tgt := 19) hx hb dX0_core_14 (by decide) (fun c_14 => ?_) (fun c_14 => ?_)
  · have t_14 : r3.toInt = 0 := toI_eq c_14 rfl (by decide : (0 : Int32).toInt = 0)
    have hnc : ¬ cCan (iC_clauses.toInt, fC_wants, fC_wantsNot, fC_weight) (cFull iC_clauses.toInt.toNat) := (by rw [← eF]; exact hk11n t_14)
    refine lv_aload_n hx hb dX0_core_19 rfl (lv_at hl 1 rfl) ?_
    refine va_get (D := (dC, dI)) (ci := 0) (v := .int iC_clauses) (C := RX0) (T := TX0) (N := 7) hx hb hts iwsMX0_core_in0 hown hK hP 0 rfl rfl 0 (by decide) (hts _ hm_m_X0_core_0) (fun _ h9 => h9) rfl dX0_core_20 ?_
    refine lv_iconst (v := 1) hx hb dX0_core_23 (by decide) ?_
    refine lv_isub hx hb dX0_core_24 ?_
    refine lv_topi (fun y4 hy4 => ?_)
    obtain rfl : (iI (iC_clauses.toInt - 1)) = y4 := (hy4.trans (iI_sub2 (iI_of _) (by decide : (1 : Int32) = iI 1))).symm
    refine lv_istore_n hx hb dX0_core_25 rfl hl (by decide) rfl (fun ls (hl : lv_has ls _ ([(2, .int (iI (iC_clauses.toInt - 1))), (1, .int (iI (v1.toInt - 1))), (0, .ref (hC 0))])) => ?_)
    have hl : lv_has _ _ ([(2, .int (iI (iC_clauses.toInt - 1))), (1, .int (iI (v1.toInt - 1))), (0, .ref (hC 0))]) := lv_sub hl [0, 1, 2] rfl
    refine (fun (loop : ∀ (n9 : Nat) (l2_x26 : Int32) (l1_x26 : Int32) (H : Heap) (locs : List Loc) (ls : Array Slot), ((-1) ≤ l2_x26.toInt ∧ l2_x26.toInt ≤ 23) → (∀ r, cCore (iC_clauses.toInt, fC_wants, fC_wantsNot, fC_weight) (l2_x26.toInt + 1).toNat l1_x26 r → cCore (iC_clauses.toInt, fC_wants, fC_wantsNot, fC_weight) iC_clauses.toInt.toNat (cFull iC_clauses.toInt.toNat) r) → (l2_x26.toInt - (-1) < ((n9 : Nat) : Int)) → va_P (dC, dI) vwCl (WC hC aC kC iC_clauses fC_wants fC_wantsNot fC_weight fC_broken fC_loss iC_musts) H → va_D A (WC hC aC kC iC_clauses fC_wants fC_wantsNot fC_weight fC_broken fC_loss iC_musts) → va_S A s.heap H locs → lv_has ls 4 [(2, .int l2_x26), (1, .int l1_x26), (0, .ref (hC 0))] → W p l e _ s m _ below meth c H locs 0 0 _ (F0 m 26 ls [])) => loop (25) (iI (iC_clauses.toInt - 1)) (iI (v1.toInt - 1)) _ _ _ (iI_rng (Int.le_trans (by decide) (Int.sub_le_sub (b_iC_clauses.1) (Int.le_refl _))) (Int.le_trans (Int.sub_le_sub (b_iC_clauses.2) (Int.le_refl _)) (by decide)) (by decide) (by decide)) (show ∀ r, cCore (iC_clauses.toInt, fC_wants, fC_wantsNot, fC_weight) ((iI (iC_clauses.toInt - 1)).toInt + 1).toNat (iI (v1.toInt - 1)) r → cCore (iC_clauses.toInt, fC_wants, fC_wantsNot, fC_weight) iC_clauses.toInt.toNat (cFull iC_clauses.toInt.toNat) r from by rw [eF, iI_t (by omega) (by omega), show (iC_clauses.toInt - 1 + 1).toNat = iC_clauses.toInt.toNat from by omega]; exact fun _ h9 => h9) ((by have e9 : ((iI (iC_clauses.toInt - 1))).toInt = (iC_clauses.toInt - 1) := (iI_t (Int.le_trans (by decide) (Int.sub_le_sub (b_iC_clauses.1) (Int.le_refl _))) (Int.le_trans (Int.sub_le_sub (b_iC_clauses.2) (Int.le_refl _)) (by decide))); omega)) hP hD hS hl) ?_
    intro n9
    induction n9 with
    | zero => intro l2_x26 l1_x26 H locs ls b_l2_x26 hO hf9; exact False.elim (by omega)
    | succ n9 ihx26 =>
      intro l2_x26 l1_x26 H locs ls b_l2_x26 hO hfx26 hP hD hS hl
      refine lv_iload_n hx hb dX0_core_26 rfl (lv_at hl 0 rfl) ?_
      refine lv_if_lt (tgt := 54) hx hb dX0_core_27 (by decide) (fun c_27 => ?_) (fun c_27 => ?_)
      · have t_27 : l2_x26.toInt < 0 := toI_lt c_27 rfl (by decide : (0 : Int32).toInt = 0)
        refine lv_iload_n hx hb dX0_core_54 rfl (lv_at hl 1 rfl) ?_
        refine W.widen (k := 0) (n := 0) (by decide +kernel) (by decide +kernel) ?_
        exact W.iret (v := l1_x26) hx hb hr (fun t9_ ht hW => ⟨⟨l1_x26, (), rfl, (by (try dsimp only); exact Or.inr ⟨hnc, cCore.e hO (by omega)⟩), by rw [ht]; exact hP, hD⟩, hS.F ht⟩) hS.2.2 dX0_core_55
      · have t_27 : ¬ l2_x26.toInt < 0 := toI_nlt c_27 rfl (by decide : (0 : Int32).toInt = 0)
        refine lv_iload_n hx hb dX0_core_30 rfl (lv_at hl 1 rfl) ?_
        refine lv_iconst (v := 1) hx hb dX0_core_31 (by decide) ?_
        refine lv_iload_n hx hb dX0_core_32 rfl (lv_at hl 0 rfl) ?_
        refine lv_ishl hx hb dX0_core_33 ?_
        refine lv_topi (fun v25 hv25 => ?_)
        have b_v25 : v25 = (1 : Int32) <<< (l2_x26 &&& 31) := hv25
        clear hv25
        refine lv_iconst (v := (-1)) hx hb dX0_core_34 (by decide) ?_
        refine lv_ixor hx hb dX0_core_35 ?_
        refine lv_topi (fun v26 hv26 => ?_)
        have b_v26 : v26 = v25 ^^^ ((-1) : Int32) := hv26
        clear hv26
        refine lv_iand hx hb dX0_core_36 ?_
        refine lv_topi (fun v27 hv27 => ?_)
        have b_v27 : v27 = l1_x26 &&& v26 := hv27
        clear hv27
        refine lv_istore_n hx hb dX0_core_37 rfl hl (by decide) rfl (fun ls (hl : lv_has ls _ ([(3, .int v27), (2, .int l2_x26), (1, .int l1_x26), (0, .ref (hC 0))])) => ?_)
        have eL : v27 = cLess l1_x26 l2_x26.toInt.toNat := cLess_of (by omega) (by rw [b_v27, b_v26, b_v25])
        refine lv_aload_n hx hb dX0_core_38 rfl (lv_at hl 3 rfl) ?_
        refine lv_iload_n hx hb dX0_core_39 rfl (lv_at hl 0 rfl) ?_
        have hFc := allFree hD hS hA
        refine va_calli (va_runV (As := [.int v27]) (rest := []) ⟨hx, hb, hml, hown, hts⟩ (m_X0_canKeep l dC dI hC aC kC iC_clauses fC_wants fC_wantsNot fC_weight fC_broken fC_loss iC_musts v27 (b_iC_clauses) (hCv) (hCI) H.size) (cwV 1 hts gwsMX0_core_0 rfl rfl rfl hd_yX0_canKeep_RX0 (by decide +kernel)) (fz_pre (va_recv hK hP (ci := 0) (q0 := 0) rfl rfl) hP hK hD) rfl rfl hl.1 rfl (lv_room (Nat.le_of_ble_eq_true rfl)) dX0_core_40 (by decide +kernel)) hS (fun q _ h => hFc q h) hFc (fun r28 u t9_ H locs ht hvm hw9 hB9 hz1 hk1 hS => ?_)
        revert hw9
        refine fz_a3 ?_
        intro b_r28 f28_0 f28_1
        have hP : va_P (dC, dI) vwCl (WC hC aC kC iC_clauses fC_wants fC_wantsNot fC_weight fC_broken fC_loss iC_musts) H := fz_P ht hB9.1
        have hD := fz_sd hP (hB9.2.weaken (fun _ q _ h => hFc q.1 h)) rfl
        have hk40y := f28_0
        have hk40n := f28_1
        refine W.cut (pc := 48) (fun H locs ls stk => ∃ (l1_j12 : Int32), (∀ r, cCore (iC_clauses.toInt, fC_wants, fC_wantsNot, fC_weight) l2_x26.toInt.toNat l1_j12 r → cCore (iC_clauses.toInt, fC_wants, fC_wantsNot, fC_weight) iC_clauses.toInt.toNat (cFull iC_clauses.toInt.toNat) r) ∧  stk = [] ∧ va_P (dC, dI) vwCl (WC hC aC kC iC_clauses fC_wants fC_wantsNot fC_weight fC_broken fC_loss iC_musts) H ∧ va_D A (WC hC aC kC iC_clauses fC_wants fC_wantsNot fC_weight fC_broken fC_loss iC_musts) ∧ va_S A s.heap H locs ∧ lv_has ls 4 [(3, .int v27), (2, .int l2_x26), (1, .int l1_j12), (0, .ref (hC 0))]) (fun join12 => ?_) ?_
        · refine lv_if_ne (tgt := 48) hx hb dX0_core_43 (by decide) (fun c_43 => ?_) (fun c_43 => ?_)
          · have t_43 : r28.toInt ≠ 0 := toI_ne c_43 rfl (by decide : (0 : Int32).toInt = 0)
            have hl : lv_has _ _ ([(3, .int v27), (2, .int l2_x26), (1, .int l1_x26), (0, .ref (hC 0))]) := lv_sub hl [0, 1, 2, 3] rfl
            exact join12 _ _ _ _ ⟨l1_x26, (show ∀ r, cCore (iC_clauses.toInt, fC_wants, fC_wantsNot, fC_weight) l2_x26.toInt.toNat l1_x26 r → cCore (iC_clauses.toInt, fC_wants, fC_wantsNot, fC_weight) iC_clauses.toInt.toNat (cFull iC_clauses.toInt.toNat) r from by first | exact cCore.y hO (by omega) (by rw [← eL]; exact hk40y t_43) | exact cCore.n hO (by omega) eL (hk40n t_43)), rfl, hP, hD, hS, hl⟩
          · have t_43 : r28.toInt = 0 := toI_nne c_43 rfl (by decide : (0 : Int32).toInt = 0)
            refine lv_iload_n hx hb dX0_core_46 rfl (lv_at hl 0 rfl) ?_
            refine lv_istore_n hx hb dX0_core_47 rfl hl (by decide) rfl (fun ls (hl : lv_has ls _ ([(1, .int v27), (3, .int v27), (2, .int l2_x26), (0, .ref (hC 0))])) => ?_)
            have hl : lv_has _ _ ([(3, .int v27), (2, .int l2_x26), (1, .int v27), (0, .ref (hC 0))]) := lv_sub hl [1, 2, 0, 3] rfl
            exact join12 _ _ _ _ ⟨v27, (show ∀ r, cCore (iC_clauses.toInt, fC_wants, fC_wantsNot, fC_weight) l2_x26.toInt.toNat v27 r → cCore (iC_clauses.toInt, fC_wants, fC_wantsNot, fC_weight) iC_clauses.toInt.toNat (cFull iC_clauses.toInt.toNat) r from by first | exact cCore.y hO (by omega) (by rw [← eL]; exact hk40y t_43) | exact cCore.n hO (by omega) eL (hk40n t_43)), rfl, hP, hD, hS, hl⟩
        · rintro H locs ls stk ⟨l1_j12, hO2, rfl, hP, hD, hS, hl⟩
          refine lv_iinc (v := (iI (l2_x26.toInt + (-1)))) hx hb dX0_core_48 hl (k := 1) rfl (iI_add2 (iI_of _) (by decide : ((-1) : Int32) = iI (-1))) (by decide) rfl (fun ls (hl : lv_has ls _ ([(2, .int (iI (l2_x26.toInt + (-1)))), (3, .int v27), (1, .int l1_j12), (0, .ref (hC 0))])) => ?_)
          refine lv_goto (tgt := 26) hx hb dX0_core_51 (by decide) ?_
          have hl : lv_has _ _ ([(2, .int (iI (l2_x26.toInt + (-1)))), (1, .int l1_j12), (0, .ref (hC 0))]) := lv_sub hl [0, 2, 3] rfl
          exact ihx26 (iI (l2_x26.toInt + (-1))) l1_j12 _ _ _ (iI_rng (by omega) (Int.le_trans (Int.add_le_add (b_l2_x26.2) (Int.le_refl _)) (by decide)) (by decide) (by decide)) (show ∀ r, cCore (iC_clauses.toInt, fC_wants, fC_wantsNot, fC_weight) ((iI (l2_x26.toInt + (-1))).toInt + 1).toNat l1_j12 r → cCore (iC_clauses.toInt, fC_wants, fC_wantsNot, fC_weight) iC_clauses.toInt.toNat (cFull iC_clauses.toInt.toNat) r from by rw [iI_t (by omega) (by omega), show (l2_x26.toInt + -1 + 1).toNat = l2_x26.toInt.toNat from by omega]; exact hO2) (by have e9 : ((iI (l2_x26.toInt + (-1)))).toInt = (l2_x26.toInt + (-1)) := (iI_t (Int.le_trans (by decide) (Int.add_le_add (b_l2_x26.1) (Int.le_refl _))) (Int.le_trans (Int.add_le_add (b_l2_x26.2) (Int.le_refl _)) (by decide))); omega) hP hD hS hl
  · have t_14 : ¬ r3.toInt = 0 := toI_neq c_14 rfl (by decide : (0 : Int32).toInt = 0)
    refine lv_iconst (v := 0) hx hb dX0_core_17 (by decide) ?_
    refine W.widen (k := 0) (n := 0) (by decide +kernel) (by decide +kernel) ?_
    exact W.iret (v := 0) hx hb hr (fun t9_ ht hW => ⟨⟨(0 : Int32), (), rfl, (by (try dsimp only); exact Or.inl ⟨by rw [← eF]; exact hk11y t_14, rfl⟩), by rw [ht]; exact hP, hD⟩, hS.F ht⟩) hS.2.2 dX0_core_18
end
section
/-! rules and members, for the desk of values -/
def RuV (k a b c lh : Nat → Int32) : Prop := ∀ r : Nat, ((k r).toInt = 1 → (0 ≤ (a r).toInt ∧ (a r).toInt ≤ 9) ∧ 0 ≤ (c r).toInt ∧ (c r).toInt ≤ 9) ∧ ((k r).toInt = 4 → (0 ≤ (a r).toInt ∧ (a r).toInt ≤ 9) ∧ (0 ≤ (b r).toInt ∧ (b r).toInt ≤ 9) ∧ (a r).toInt ≤ (lh r).toInt ∧ (b r).toInt ≤ (lh r).toInt)
theorem RuV.set {k a b c lh : Nat → Int32} (h : RuV k a b c lh) {k' a' b' c' lh' : Nat → Int32} {n : Nat} {x p q r m : Int32} (h1 : k' = upd k n x) (h2 : a' = upd a n p) (h3 : b' = upd b n q) (h4 : c' = upd c n r) (h5 : lh' = upd lh n m) (hx : (x.toInt = 1 → (0 ≤ p.toInt ∧ p.toInt ≤ 9) ∧ 0 ≤ r.toInt ∧ r.toInt ≤ 9) ∧ (x.toInt = 4 → (0 ≤ p.toInt ∧ p.toInt ≤ 9) ∧ (0 ≤ q.toInt ∧ q.toInt ≤ 9) ∧ p.toInt ≤ m.toInt ∧ q.toInt ≤ m.toInt)) : RuV k' a' b' c' lh' := fun j => by
  subst h1; subst h2; subst h3; subst h4; subst h5
  by_cases e : j = n
  · rw [e, pk_us, pk_us, pk_us, pk_us, pk_us]; exact hx
  · rw [pk_un e, pk_un e, pk_un e, pk_un e, pk_un e]; exact h j
def MemO (f : Nat → Int32) (n : Int) : Prop := ∀ q : Nat, (q : Int) < n → 0 ≤ (f q).toInt ∧ (f q).toInt ≤ 9
theorem MemO.push {f f' : Nat → Int32} {n n' x : Int32} (h : MemO f n.toInt) (hf : f' = upd f n.toNatClampNeg x) (hx : 0 ≤ x.toInt ∧ x.toInt ≤ 9) (h0 : 0 ≤ n.toInt) (hn : n'.toInt = n.toInt + 1) : MemO f' n'.toInt := fun q hq => by
  have hc : n.toNatClampNeg = n.toInt.toNat := rfl
  rw [hf, hc]
  by_cases e : q = n.toInt.toNat
  · rw [e, pk_us]; exact hx
  · rw [pk_un e]; exact h q (by omega)
theorem MemO.at {f : Nat → Int32} {n : Int} {i : Int32} (h : MemO f n) (h0 : 0 ≤ i.toInt) (h1 : i.toInt < n) : 0 ≤ (f i.toNatClampNeg).toInt ∧ (f i.toNatClampNeg).toInt ≤ 9 := h i.toInt.toNat (by omega)
theorem MemO.zero {f : Nat → Int32} {n : Int32} (h : n.toInt ≤ 0) : MemO f n.toInt := fun q hq => by omega
/-- values up to a holder are chosen -/
def MemC (f : Nat → Int32) (n : Int) : Prop := ∀ q : Nat, (q : Int) < n → 0 ≤ (f q).toInt
theorem MemC.set {f f' : Nat → Int32} {n x : Int32} {m : Int} (h : MemC f n.toInt) (hf : f' = upd f n.toNatClampNeg x) (h0 : 0 ≤ n.toInt) (hx : 0 ≤ x.toInt) (hm : m = n.toInt + 1) : MemC f' m := fun q hq => by
  have hc : n.toNatClampNeg = n.toInt.toNat := rfl
  rw [hf, hc]
  by_cases e : q = n.toInt.toNat
  · rw [e, pk_us]; exact hx
  · rw [pk_un e]; exact h q (by omega)
theorem MemC.any {f f' : Nat → Int32} {n x : Int32} {k m : Int} (h : MemC f k) (hf : f' = upd f n.toNatClampNeg x) (h0 : 0 ≤ n.toInt) (hm : m ≤ n.toInt) (hk : m ≤ k) : MemC f' m := fun q hq => by
  have hc : n.toNatClampNeg = n.toInt.toNat := rfl
  rw [hf, hc, pk_un (by omega)]
  exact h q (by omega)
theorem MemC.less {f : Nat → Int32} {k m : Int} (h : MemC f k) (hk : m ≤ k) : MemC f m := fun q hq => h q (by omega)
end
section
theorem hd_yX7_change_RX7 : yX7_change.cls = RX7 ∧ yX7_change.cls ≠ "java/lang/invoke/MethodHandle" ∧ yX7_change.cls ≠ "java/lang/invoke/VarHandle" ∧ (parseMethodDescriptor yX7_change.desc).map (fun d => d.parameters.length) = some 0 := by decide +kernel
theorem hd_yX7_isSet_RX7 : yX7_isSet.cls = RX7 ∧ yX7_isSet.cls ≠ "java/lang/invoke/MethodHandle" ∧ yX7_isSet.cls ≠ "java/lang/invoke/VarHandle" ∧ (parseMethodDescriptor yX7_isSet.desc).map (fun d => d.parameters.length) = some 1 := by decide +kernel
theorem hd_yX7_isHolder_RX7 : yX7_isHolder.cls = RX7 ∧ yX7_isHolder.cls ≠ "java/lang/invoke/MethodHandle" ∧ yX7_isHolder.cls ≠ "java/lang/invoke/VarHandle" ∧ (parseMethodDescriptor yX7_isHolder.desc).map (fun d => d.parameters.length) = some 1 := by decide +kernel
def WV (hV : Nat → Nat) (aV : Nat → Nat) (kV : Nat → ClassId) (iV_holders : Int32) (iV_rules : Int32) (fV_pairs : Nat → Int32) (fV_domain : Nat → Int32) (fV_kind : Nat → Int32) (fV_a : Nat → Int32) (fV_b : Nat → Int32) (fV_c : Nat → Int32) (fV_rulePairs : Nat → Int32) (fV_lastHolder : Nat → Int32) (fV_now : Nat → Int32) (iV_doneFor : Int32) (iV_changed : Int32) (gV_fore : Nat → Int64) (gV_back : Nat → Int64) (fV_together : Nat → Int32) (fV_member : Nat → Int32) (gV_list : Nat → Int64) (dV_list : Nat) (nV_list : Nat) (iV_listed : Int32) (iV_listDone : Int32) : va_W := [(hV 0, .inr (7, [.int iV_holders, .int iV_rules, .ref (aV 0), .ref (aV 1), .ref (aV 2), .ref (aV 3), .ref (aV 4), .ref (aV 5), .ref (aV 6), .ref (aV 7), .ref (aV 8), .int iV_doneFor, .int iV_changed, .ref (aV 9), .ref (aV 10), .ref (aV 11), .ref (aV 12), .ref dV_list, .int iV_listed, .int iV_listDone])), (aV 0, .inl (kV 0, 16, .inl fV_pairs)), (aV 1, .inl (kV 1, 10, .inl fV_domain)), (aV 2, .inl (kV 2, 12, .inl fV_kind)), (aV 3, .inl (kV 3, 12, .inl fV_a)), (aV 4, .inl (kV 4, 12, .inl fV_b)), (aV 5, .inl (kV 5, 12, .inl fV_c)), (aV 6, .inl (kV 6, 192, .inl fV_rulePairs)), (aV 7, .inl (kV 7, 12, .inl fV_lastHolder)), (aV 8, .inl (kV 8, 10, .inl fV_now)), (aV 9, .inl (kV 9, 33, .inr (.inl gV_fore))), (aV 10, .inl (kV 10, 33, .inr (.inl gV_back))), (aV 11, .inl (kV 11, 1024, .inl fV_together)), (aV 12, .inl (kV 12, 10, .inl fV_member)), (dV_list, .inl (kV 13, nV_list, .inr (.inl gV_list)))]
def tV (kV : Nat → ClassId) : List (ClassId × FieldType) := [(kV 0, .int), (kV 1, .int), (kV 2, .int), (kV 3, .int), (kV 4, .int), (kV 5, .int), (kV 6, .int), (kV 7, .int), (kV 8, .int), (kV 9, .long), (kV 10, .long), (kV 11, .int), (kV 12, .int), (kV 13, .long)]
theorem dX7_change_0 : decode cX7_change 0 = .ok (.aload_n 0, 1) := dk_42 (by decide +kernel)
theorem dX7_change_1 : decode cX7_change 1 = .ok (.iconst (-1), 1) := dk_2 (by decide +kernel)
theorem dX7_change_2 : decode cX7_change 2 = .ok (.putfield 39, 3) := dk_181 (by decide +kernel)
theorem dX7_change_5 : decode cX7_change 5 = .ok (.aload_n 0, 1) := dk_42 (by decide +kernel)
theorem dX7_change_6 : decode cX7_change 6 = .ok (.iconst 0, 1) := dk_3 (by decide +kernel)
theorem dX7_change_7 : decode cX7_change 7 = .ok (.putfield 68, 3) := dk_181 (by decide +kernel)
theorem dX7_change_10 : decode cX7_change 10 = .ok (.return_, 1) := dk_177 (by decide +kernel)
def wsMX7_change : List Cond := .code yX7_change cX7_change 1 none :: ([.fieldLink RX7 39 "OptimaWorks$ValueDesk" "doneFor" "I", .fieldLink RX7 68 "OptimaWorks$ValueDesk" "listDone" "Z"] ++ wsX70)
theorem iwsMX7_change_in7 : ∀ w ∈ wsX70, w ∈ wsMX7_change := fun _ h => List.mem_cons_of_mem _ (List.mem_append_right _ h)
theorem gdwsMX7_change : wsMX7_change.all goodWord = true := gdC rfl (gdA (by decide +kernel : ([.fieldLink RX7 39 "OptimaWorks$ValueDesk" "doneFor" "I", .fieldLink RX7 68 "OptimaWorks$ValueDesk" "listDone" "Z"] : List Cond).all goodWord = true) gdwsX70)
set_option maxHeartbeats 4000000 in
set_option maxRecDepth 100000 in
/-- something changed -/
theorem m_X7_change (l : Launch) (dC : Nat → ClassId) (dI : Nat → Nat → Nat) (hV : Nat → Nat) (aV : Nat → Nat) (kV : Nat → ClassId) (iV_holders : Int32) (iV_rules : Int32) (fV_pairs : Nat → Int32) (fV_domain : Nat → Int32) (fV_kind : Nat → Int32) (fV_a : Nat → Int32) (fV_b : Nat → Int32) (fV_c : Nat → Int32) (fV_rulePairs : Nat → Int32) (fV_lastHolder : Nat → Int32) (fV_now : Nat → Int32) (iV_doneFor : Int32) (iV_changed : Int32) (gV_fore : Nat → Int64) (gV_back : Nat → Int64) (fV_together : Nat → Int32) (fV_member : Nat → Int32) (gV_list : Nat → Int64) (dV_list : Nat) (nV_list : Nat) (iV_listed : Int32) (iV_listDone : Int32) (b_iV_holders : 0 ≤ iV_holders.toInt ∧ iV_holders.toInt ≤ 10) (b_iV_rules : 0 ≤ iV_rules.toInt ∧ iV_rules.toInt ≤ 12) (b_fV_kind : ∀ q : Nat, 0 ≤ (fV_kind q).toInt ∧ (fV_kind q).toInt ≤ 4) (b_iV_changed : 0 ≤ iV_changed.toInt ∧ iV_changed.toInt ≤ 1) (b_fV_member : ∀ q : Nat, (-1) ≤ (fV_member q).toInt ∧ (fV_member q).toInt ≤ 15) (b_nV_list : 0 ≤ nV_list ∧ nV_list ≤ 20000) (b_iV_listed : (-1) ≤ iV_listed.toInt ∧ iV_listed.toInt ≤ 5000) (b_iV_listDone : 0 ≤ iV_listDone.toInt ∧ iV_listDone.toInt ≤ 1) (b_RuV : RuV fV_kind fV_a fV_b fV_c fV_lastHolder) (b_lst : iV_listed.toInt ≤ ((nV_list : Nat) : Int)) (sz : Nat) : Met l yX7_change wsMX7_change ({ frames := 0, cells := 0, slots := 0, locals := 0 }) (va_Pc [.ref (hV 0)] (fun U => U.heap.size = sz ∧ va_P (dC, dI) vwCl (WV hV aV kV iV_holders iV_rules fV_pairs fV_domain fV_kind fV_a fV_b fV_c fV_rulePairs fV_lastHolder fV_now iV_doneFor iV_changed gV_fore gV_back fV_together fV_member gV_list dV_list nV_list iV_listed iV_listDone) U.heap ∧ va_K (dC, dI) vwCl (tV kV) U ∧ va_D (fun _ => True) (WV hV aV kV iV_holders iV_rules fV_pairs fV_domain fV_kind fV_a fV_b fV_c fV_rulePairs fV_lastHolder fV_now iV_doneFor iV_changed gV_fore gV_back fV_together fV_member gV_list dV_list nV_list iV_listed iV_listDone))) (va_Qv (fun (u : (Int32) × (Int32)) => (0 ≤ (u.2).toInt ∧ (u.2).toInt ≤ 1)) (fun (u : (Int32) × (Int32)) t => va_P (dC, dI) vwCl (WV hV aV kV iV_holders iV_rules fV_pairs fV_domain fV_kind fV_a fV_b fV_c fV_rulePairs fV_lastHolder fV_now (u.1) iV_changed gV_fore gV_back fV_together fV_member gV_list dV_list nV_list iV_listed (u.2)) t.heap ∧ va_D (va_A (WV hV aV kV iV_holders iV_rules fV_pairs fV_domain fV_kind fV_a fV_b fV_c fV_rulePairs fV_lastHolder fV_now iV_doneFor iV_changed gV_fore gV_back fV_together fV_member gV_list dV_list nV_list iV_listed iV_listDone) sz) (WV hV aV kV iV_holders iV_rules fV_pairs fV_domain fV_kind fV_a fV_b fV_c fV_rulePairs fV_lastHolder fV_now (u.1) iV_changed gV_fore gV_back fV_together fV_member gV_list dV_list nV_list iV_listed (u.2))) (va_A (WV hV aV kV iV_holders iV_rules fV_pairs fV_domain fV_kind fV_a fV_b fV_c fV_rulePairs fV_lastHolder fV_now iV_doneFor iV_changed gV_fore gV_back fV_together fV_member gV_list dV_list nV_list iV_listed iV_listDone) sz)) 0 0 (va_A (WV hV aV kV iV_holders iV_rules fV_pairs fV_domain fV_kind fV_a fV_b fV_c fV_rulePairs fV_lastHolder fV_now iV_doneFor iV_changed gV_fore gV_back fV_together fV_member gV_list dV_list nV_list iV_listed iV_listDone) sz) := by
  refine Met.ofW (cc := cX7_change) (maxL := 1) (ret := none) (by decide) rfl ?_
  intro p e s m args below meth c s₁ B hml hv
  obtain ⟨rfl, hsz, hP, hK, hD0⟩ := hv
  have hx := B.exec
  have hb := B.bytes
  have hr := B.returns
  have hts := atoms_spec (ws := wsMX7_change) B.pre
  have hown : s.vm.findClass RX7 = some m.cls := findClass_of_methodNamed B.named
  have hlocks := B.notSynchronized
  subst hsz
  have hD := hD0.self (sz := s.heap.size)
  generalize hAe : va_A (WV hV aV kV iV_holders iV_rules fV_pairs fV_domain fV_kind fV_a fV_b fV_c fV_rulePairs fV_lastHolder fV_now iV_doneFor iV_changed gV_fore gV_back fV_together fV_member gV_list dV_list nV_list iV_listed iV_listDone) s.heap.size = A at hD ⊢
  have hA : ∀ q : Nat, s.heap.size ≤ q → A q := fun q h => by rw [← hAe]; exact Or.inr h
  have hS : va_S A s.heap s.heap [] := va_S.rf
  have hl := lv_entry ([.ref (hV 0)]) (n := 1) (Nat.le_of_ble_eq_true rfl)
  rw [lg_entry_eq]
  generalize (lg_sl ([.ref (hV 0)]) ++ List.replicate (1 - (lg_sl ([.ref (hV 0)])).length) Slot.unset).toArray = ls at hl ⊢
  have hl : lv_has ls 1 [(0, .ref (hV 0))] := hl
  refine lv_aload_n hx hb dX7_change_0 rfl (lv_at hl 0 rfl) ?_
  refine lv_iconst (v := (-1)) hx hb dX7_change_1 (by decide) ?_
  refine va_put (D := (dC, dI)) (ci := 7) (v := .int (-1)) (ty := .int) (C := RX7) (T := TX7) (N := 20) hx hb hts iwsMX7_change_in7 tyX7 tyX7_ok nmX7 hown hK hP hD hS 0 rfl rfl 11 (by decide) (hts (.fieldLink RX7 39 "OptimaWorks$ValueDesk" "doneFor" "I") (by decide +kernel)) (fun _ h9 => h9) rfl (by decide +kernel) rfl rfl (Nat.le_of_ble_eq_true rfl) dX7_change_2 (fun H locs hP hD hS => ?_)
  have hP : va_P (dC, dI) vwCl (WV hV aV kV iV_holders iV_rules fV_pairs fV_domain fV_kind fV_a fV_b fV_c fV_rulePairs fV_lastHolder fV_now (-1) iV_changed gV_fore gV_back fV_together fV_member gV_list dV_list nV_list iV_listed iV_listDone) H := hP
  have hD := fz_sd hP (hD) rfl
  refine lv_aload_n hx hb dX7_change_5 rfl (lv_at hl 0 rfl) ?_
  refine lv_iconst (v := 0) hx hb dX7_change_6 (by decide) ?_
  refine va_put (D := (dC, dI)) (ci := 7) (v := .int 0) (ty := .boolean) (C := RX7) (T := TX7) (N := 20) hx hb hts iwsMX7_change_in7 tyX7 tyX7_ok nmX7 hown hK hP hD hS 0 rfl rfl 19 (by decide) (hts (.fieldLink RX7 68 "OptimaWorks$ValueDesk" "listDone" "Z") (by decide +kernel)) (fun _ h9 => h9) rfl (by decide +kernel) rfl rfl (Nat.le_of_ble_eq_true rfl) dX7_change_7 (fun H locs hP hD hS => ?_)
  have hP : va_P (dC, dI) vwCl (WV hV aV kV iV_holders iV_rules fV_pairs fV_domain fV_kind fV_a fV_b fV_c fV_rulePairs fV_lastHolder fV_now (-1) iV_changed gV_fore gV_back fV_together fV_member gV_list dV_list nV_list iV_listed 0) H := hP
  have hD := fz_sd hP (hD) rfl
  refine W.widen (k := 0) (n := 0) (by decide +kernel) (by decide +kernel) ?_
  exact W.vret hx hb hr (fun t9_ ht hW => ⟨⟨((-1), 0), rfl, (by (try dsimp only); exact (show 0 ≤ (0 : Int32).toInt ∧ (0 : Int32).toInt ≤ 1 from by decide)), by rw [ht]; exact hP, hD⟩, hS.F ht⟩) hS.2.2 dX7_change_10
theorem dX7_forget_0 : decode cX7_forget 0 = .ok (.aload_n 0, 1) := dk_42 (by decide +kernel)
theorem dX7_forget_1 : decode cX7_forget 1 = .ok (.iconst 0, 1) := dk_3 (by decide +kernel)
theorem dX7_forget_2 : decode cX7_forget 2 = .ok (.putfield 59, 3) := dk_181 (by decide +kernel)
theorem dX7_forget_5 : decode cX7_forget 5 = .ok (.aload_n 0, 1) := dk_42 (by decide +kernel)
theorem dX7_forget_6 : decode cX7_forget 6 = .ok (.iconst 0, 1) := dk_3 (by decide +kernel)
theorem dX7_forget_7 : decode cX7_forget 7 = .ok (.putfield 62, 3) := dk_181 (by decide +kernel)
theorem dX7_forget_10 : decode cX7_forget 10 = .ok (.aload_n 0, 1) := dk_42 (by decide +kernel)
theorem dX7_forget_11 : decode cX7_forget 11 = .ok (.invokevirtual 65, 3) := dk_182 (by decide +kernel)
theorem dX7_forget_14 : decode cX7_forget 14 = .ok (.return_, 1) := dk_177 (by decide +kernel)
def wsMX7_forget : List Cond := .code yX7_forget cX7_forget 1 none :: ([.fieldLink RX7 59 "OptimaWorks$ValueDesk" "holders" "I", .fieldLink RX7 62 "OptimaWorks$ValueDesk" "rules" "I"] ++ wsX70 ++ (wsV RX7 65 RX7 yX7_change wsMX7_change))
theorem iwsMX7_forget_in7 : ∀ w ∈ wsX70, w ∈ wsMX7_forget := fun _ h => List.mem_cons_of_mem _ (List.mem_append_left _ (List.mem_append_right _ h))
theorem gwsMX7_forget_0 : GoodIn wsMX7_forget (wsV RX7 65 RX7 yX7_change wsMX7_change) := goodIn_sub (fun _ h => List.mem_cons_of_mem _ (List.mem_append_right _ h)) (gdV (by decide +kernel) gdwsMX7_change)
theorem gdwsMX7_forget : wsMX7_forget.all goodWord = true := gdC rfl (gdA (gdA (by decide +kernel : ([.fieldLink RX7 59 "OptimaWorks$ValueDesk" "holders" "I", .fieldLink RX7 62 "OptimaWorks$ValueDesk" "rules" "I"] : List Cond).all goodWord = true) gdwsX70) (gdV (by decide +kernel) gdwsMX7_change))
set_option maxHeartbeats 4000000 in
set_option maxRecDepth 100000 in
/-- all forgotten -/
theorem m_X7_forget (l : Launch) (dC : Nat → ClassId) (dI : Nat → Nat → Nat) (hV : Nat → Nat) (aV : Nat → Nat) (kV : Nat → ClassId) (iV_holders : Int32) (iV_rules : Int32) (fV_pairs : Nat → Int32) (fV_domain : Nat → Int32) (fV_kind : Nat → Int32) (fV_a : Nat → Int32) (fV_b : Nat → Int32) (fV_c : Nat → Int32) (fV_rulePairs : Nat → Int32) (fV_lastHolder : Nat → Int32) (fV_now : Nat → Int32) (iV_doneFor : Int32) (iV_changed : Int32) (gV_fore : Nat → Int64) (gV_back : Nat → Int64) (fV_together : Nat → Int32) (fV_member : Nat → Int32) (gV_list : Nat → Int64) (dV_list : Nat) (nV_list : Nat) (iV_listed : Int32) (iV_listDone : Int32) (b_iV_holders : 0 ≤ iV_holders.toInt ∧ iV_holders.toInt ≤ 10) (b_iV_rules : 0 ≤ iV_rules.toInt ∧ iV_rules.toInt ≤ 12) (b_fV_kind : ∀ q : Nat, 0 ≤ (fV_kind q).toInt ∧ (fV_kind q).toInt ≤ 4) (b_iV_changed : 0 ≤ iV_changed.toInt ∧ iV_changed.toInt ≤ 1) (b_fV_member : ∀ q : Nat, (-1) ≤ (fV_member q).toInt ∧ (fV_member q).toInt ≤ 15) (b_nV_list : 0 ≤ nV_list ∧ nV_list ≤ 20000) (b_iV_listed : (-1) ≤ iV_listed.toInt ∧ iV_listed.toInt ≤ 5000) (b_iV_listDone : 0 ≤ iV_listDone.toInt ∧ iV_listDone.toInt ≤ 1) (b_RuV : RuV fV_kind fV_a fV_b fV_c fV_lastHolder) (b_lst : iV_listed.toInt ≤ ((nV_list : Nat) : Int)) (sz : Nat) : Met l yX7_forget wsMX7_forget ({ frames := 1, cells := 0, slots := 0, locals := 20 }) (va_Pc [.ref (hV 0)] (fun U => U.heap.size = sz ∧ va_P (dC, dI) vwCl (WV hV aV kV iV_holders iV_rules fV_pairs fV_domain fV_kind fV_a fV_b fV_c fV_rulePairs fV_lastHolder fV_now iV_doneFor iV_changed gV_fore gV_back fV_together fV_member gV_list dV_list nV_list iV_listed iV_listDone) U.heap ∧ va_K (dC, dI) vwCl (tV kV) U ∧ va_D (fun _ => True) (WV hV aV kV iV_holders iV_rules fV_pairs fV_domain fV_kind fV_a fV_b fV_c fV_rulePairs fV_lastHolder fV_now iV_doneFor iV_changed gV_fore gV_back fV_together fV_member gV_list dV_list nV_list iV_listed iV_listDone))) (va_Qv (fun (u : (Int32) × (Int32) × (Int32) × (Int32)) => (0 ≤ (u.1).toInt ∧ (u.1).toInt ≤ 10) ∧ (0 ≤ (u.2.1).toInt ∧ (u.2.1).toInt ≤ 12) ∧ (0 ≤ (u.2.2.2).toInt ∧ (u.2.2.2).toInt ≤ 1) ∧ ((u.1).toInt = 0) ∧ ((u.2.1).toInt = 0)) (fun (u : (Int32) × (Int32) × (Int32) × (Int32)) t => va_P (dC, dI) vwCl (WV hV aV kV (u.1) (u.2.1) fV_pairs fV_domain fV_kind fV_a fV_b fV_c fV_rulePairs fV_lastHolder fV_now (u.2.2.1) iV_changed gV_fore gV_back fV_together fV_member gV_list dV_list nV_list iV_listed (u.2.2.2)) t.heap ∧ va_D (va_A (WV hV aV kV iV_holders iV_rules fV_pairs fV_domain fV_kind fV_a fV_b fV_c fV_rulePairs fV_lastHolder fV_now iV_doneFor iV_changed gV_fore gV_back fV_together fV_member gV_list dV_list nV_list iV_listed iV_listDone) sz) (WV hV aV kV (u.1) (u.2.1) fV_pairs fV_domain fV_kind fV_a fV_b fV_c fV_rulePairs fV_lastHolder fV_now (u.2.2.1) iV_changed gV_fore gV_back fV_together fV_member gV_list dV_list nV_list iV_listed (u.2.2.2))) (va_A (WV hV aV kV iV_holders iV_rules fV_pairs fV_domain fV_kind fV_a fV_b fV_c fV_rulePairs fV_lastHolder fV_now iV_doneFor iV_changed gV_fore gV_back fV_together fV_member gV_list dV_list nV_list iV_listed iV_listDone) sz)) 0 0 (va_A (WV hV aV kV iV_holders iV_rules fV_pairs fV_domain fV_kind fV_a fV_b fV_c fV_rulePairs fV_lastHolder fV_now iV_doneFor iV_changed gV_fore gV_back fV_together fV_member gV_list dV_list nV_list iV_listed iV_listDone) sz) := by
  refine Met.ofW (cc := cX7_forget) (maxL := 1) (ret := none) (by decide) rfl ?_
  intro p e s m args below meth c s₁ B hml hv
  obtain ⟨rfl, hsz, hP, hK, hD0⟩ := hv
  have hx := B.exec
  have hb := B.bytes
  have hr := B.returns
  have hts := atoms_spec (ws := wsMX7_forget) B.pre
  have hown : s.vm.findClass RX7 = some m.cls := findClass_of_methodNamed B.named
  have hlocks := B.notSynchronized
  subst hsz
  have hD := hD0.self (sz := s.heap.size)
  generalize hAe : va_A (WV hV aV kV iV_holders iV_rules fV_pairs fV_domain fV_kind fV_a fV_b fV_c fV_rulePairs fV_lastHolder fV_now iV_doneFor iV_changed gV_fore gV_back fV_together fV_member gV_list dV_list nV_list iV_listed iV_listDone) s.heap.size = A at hD ⊢
  have hA : ∀ q : Nat, s.heap.size ≤ q → A q := fun q h => by rw [← hAe]; exact Or.inr h
  have hS : va_S A s.heap s.heap [] := va_S.rf
  have hl := lv_entry ([.ref (hV 0)]) (n := 1) (Nat.le_of_ble_eq_true rfl)
  rw [lg_entry_eq]
  generalize (lg_sl ([.ref (hV 0)]) ++ List.replicate (1 - (lg_sl ([.ref (hV 0)])).length) Slot.unset).toArray = ls at hl ⊢
  have hl : lv_has ls 1 [(0, .ref (hV 0))] := hl
  refine lv_aload_n hx hb dX7_forget_0 rfl (lv_at hl 0 rfl) ?_
  refine lv_iconst (v := 0) hx hb dX7_forget_1 (by decide) ?_
  refine va_put (D := (dC, dI)) (ci := 7) (v := .int 0) (ty := .int) (C := RX7) (T := TX7) (N := 20) hx hb hts iwsMX7_forget_in7 tyX7 tyX7_ok nmX7 hown hK hP hD hS 0 rfl rfl 0 (by decide) (hts (.fieldLink RX7 59 "OptimaWorks$ValueDesk" "holders" "I") (by decide +kernel)) (fun _ h9 => h9) rfl (by decide +kernel) rfl rfl (Nat.le_of_ble_eq_true rfl) dX7_forget_2 (fun H locs hP hD hS => ?_)
  have hP : va_P (dC, dI) vwCl (WV hV aV kV 0 iV_rules fV_pairs fV_domain fV_kind fV_a fV_b fV_c fV_rulePairs fV_lastHolder fV_now iV_doneFor iV_changed gV_fore gV_back fV_together fV_member gV_list dV_list nV_list iV_listed iV_listDone) H := hP
  have hD := fz_sd hP (hD) rfl
  refine lv_aload_n hx hb dX7_forget_5 rfl (lv_at hl 0 rfl) ?_
  refine lv_iconst (v := 0) hx hb dX7_forget_6 (by decide) ?_
  refine va_put (D := (dC, dI)) (ci := 7) (v := .int 0) (ty := .int) (C := RX7) (T := TX7) (N := 20) hx hb hts iwsMX7_forget_in7 tyX7 tyX7_ok nmX7 hown hK hP hD hS 0 rfl rfl 1 (by decide) (hts (.fieldLink RX7 62 "OptimaWorks$ValueDesk" "rules" "I") (by decide +kernel)) (fun _ h9 => h9) rfl (by decide +kernel) rfl rfl (Nat.le_of_ble_eq_true rfl) dX7_forget_7 (fun H locs hP hD hS => ?_)
  have hP : va_P (dC, dI) vwCl (WV hV aV kV 0 0 fV_pairs fV_domain fV_kind fV_a fV_b fV_c fV_rulePairs fV_lastHolder fV_now iV_doneFor iV_changed gV_fore gV_back fV_together fV_member gV_list dV_list nV_list iV_listed iV_listDone) H := hP
  have hD := fz_sd hP (hD) rfl
  refine lv_aload_n hx hb dX7_forget_10 rfl (lv_at hl 0 rfl) ?_
  have hFc := allFree hD hS hA
  refine va_callv (va_runV (As := []) (rest := []) ⟨hx, hb, hml, hown, hts⟩ (m_X7_change l dC dI hV aV kV 0 0 fV_pairs fV_domain fV_kind fV_a fV_b fV_c fV_rulePairs fV_lastHolder fV_now iV_doneFor iV_changed gV_fore gV_back fV_together fV_member gV_list dV_list nV_list iV_listed iV_listDone (show 0 ≤ (0 : Int32).toInt ∧ (0 : Int32).toInt ≤ 10 from by decide) (show 0 ≤ (0 : Int32).toInt ∧ (0 : Int32).toInt ≤ 12 from by decide) b_fV_kind (b_iV_changed) b_fV_member (by first | exact b_nV_list | with_reducible assumption | exact ⟨by omega, by omega⟩ | assumption) (b_iV_listed) (b_iV_listDone) (by first | with_reducible assumption | omega | assumption) (by first | with_reducible assumption | omega | assumption) H.size) (cwV 0 hts gwsMX7_forget_0 rfl rfl rfl hd_yX7_change_RX7 (by decide +kernel)) (fz_pre (va_recv hK hP (ci := 7) (q0 := 0) rfl rfl) hP hK hD) rfl rfl hl.1 rfl (lv_room (Nat.le_of_ble_eq_true rfl)) dX7_forget_11 (by decide +kernel)) hS (fun q _ h => hFc q h) hFc (fun u t9_ H locs ht hvm hw9 hB9 hz1 hk1 hS => ?_)
  revert u hw9 hB9
  refine fz_p2 ?_
  intro iV_doneFor_1 iV_listDone_1 hw9 hB9
  try dsimp only at hw9 hB9
  have b_iV_listDone_1 := hw9
  try dsimp only at b_iV_listDone_1
  have hP : va_P (dC, dI) vwCl (WV hV aV kV 0 0 fV_pairs fV_domain fV_kind fV_a fV_b fV_c fV_rulePairs fV_lastHolder fV_now iV_doneFor_1 iV_changed gV_fore gV_back fV_together fV_member gV_list dV_list nV_list iV_listed iV_listDone_1) H := fz_P ht hB9.1
  have hD := fz_sd hP (hB9.2.weaken (fun _ q _ h => hFc q.1 h)) rfl
  refine W.widen (k := 0) (n := 0) (by decide +kernel) (by decide +kernel) ?_
  exact W.vret hx hb hr (fun t9_ ht hW => ⟨⟨(0, 0, iV_doneFor_1, iV_listDone_1), rfl, ⟨(by (try dsimp only); exact (show 0 ≤ (0 : Int32).toInt ∧ (0 : Int32).toInt ≤ 10 from by decide)), (by (try dsimp only); exact (show 0 ≤ (0 : Int32).toInt ∧ (0 : Int32).toInt ≤ 12 from by decide)), (by (try dsimp only); exact (by first | exact b_iV_listDone_1 | with_reducible assumption | exact ⟨by omega, by omega⟩ | assumption)), (by (try dsimp only); decide), (by (try dsimp only); decide)⟩, by rw [ht]; exact hP, hD⟩, hS.F ht⟩) hS.2.2 dX7_forget_14
theorem dX7_isHolder_0 : decode cX7_isHolder 0 = .ok (.iload_n 1, 1) := dk_27 (by decide +kernel)
theorem dX7_isHolder_1 : decode cX7_isHolder 1 = .ok (.ifCond .lt 15, 3) := dk_155 (by decide +kernel)
theorem dX7_isHolder_4 : decode cX7_isHolder 4 = .ok (.iload_n 1, 1) := dk_27 (by decide +kernel)
theorem dX7_isHolder_5 : decode cX7_isHolder 5 = .ok (.aload_n 0, 1) := dk_42 (by decide +kernel)
theorem dX7_isHolder_6 : decode cX7_isHolder 6 = .ok (.getfield 59, 3) := dk_180 (by decide +kernel)
theorem dX7_isHolder_9 : decode cX7_isHolder 9 = .ok (.if_icmp .ge 7, 3) := dk_162 (by decide +kernel)
theorem dX7_isHolder_12 : decode cX7_isHolder 12 = .ok (.iconst 1, 1) := dk_4 (by decide +kernel)
theorem dX7_isHolder_13 : decode cX7_isHolder 13 = .ok (.goto 4, 3) := dk_167 (by decide +kernel)
theorem dX7_isHolder_16 : decode cX7_isHolder 16 = .ok (.iconst 0, 1) := dk_3 (by decide +kernel)
theorem dX7_isHolder_17 : decode cX7_isHolder 17 = .ok (.ireturn, 1) := dk_172 (by decide +kernel)
def wsMX7_isHolder : List Cond := .code yX7_isHolder cX7_isHolder 2 (some .boolean) :: ([.fieldLink RX7 59 "OptimaWorks$ValueDesk" "holders" "I"] ++ wsX70)
theorem iwsMX7_isHolder_in7 : ∀ w ∈ wsX70, w ∈ wsMX7_isHolder := fun _ h => List.mem_cons_of_mem _ (List.mem_append_right _ h)
theorem gdwsMX7_isHolder : wsMX7_isHolder.all goodWord = true := gdC rfl (gdA (by decide +kernel : ([.fieldLink RX7 59 "OptimaWorks$ValueDesk" "holders" "I"] : List Cond).all goodWord = true) gdwsX70)
set_option maxHeartbeats 4000000 in
set_option maxRecDepth 100000 in
/-- is it a holder -/
theorem m_X7_isHolder (l : Launch) (dC : Nat → ClassId) (dI : Nat → Nat → Nat) (hV : Nat → Nat) (aV : Nat → Nat) (kV : Nat → ClassId) (iV_holders : Int32) (iV_rules : Int32) (fV_pairs : Nat → Int32) (fV_domain : Nat → Int32) (fV_kind : Nat → Int32) (fV_a : Nat → Int32) (fV_b : Nat → Int32) (fV_c : Nat → Int32) (fV_rulePairs : Nat → Int32) (fV_lastHolder : Nat → Int32) (fV_now : Nat → Int32) (iV_doneFor : Int32) (iV_changed : Int32) (gV_fore : Nat → Int64) (gV_back : Nat → Int64) (fV_together : Nat → Int32) (fV_member : Nat → Int32) (gV_list : Nat → Int64) (dV_list : Nat) (nV_list : Nat) (iV_listed : Int32) (iV_listDone : Int32) (p1 : Int32) (b_iV_holders : 0 ≤ iV_holders.toInt ∧ iV_holders.toInt ≤ 10) (b_iV_rules : 0 ≤ iV_rules.toInt ∧ iV_rules.toInt ≤ 12) (b_fV_kind : ∀ q : Nat, 0 ≤ (fV_kind q).toInt ∧ (fV_kind q).toInt ≤ 4) (b_iV_changed : 0 ≤ iV_changed.toInt ∧ iV_changed.toInt ≤ 1) (b_fV_member : ∀ q : Nat, (-1) ≤ (fV_member q).toInt ∧ (fV_member q).toInt ≤ 15) (b_nV_list : 0 ≤ nV_list ∧ nV_list ≤ 20000) (b_iV_listed : (-1) ≤ iV_listed.toInt ∧ iV_listed.toInt ≤ 5000) (b_iV_listDone : 0 ≤ iV_listDone.toInt ∧ iV_listDone.toInt ≤ 1) (b_RuV : RuV fV_kind fV_a fV_b fV_c fV_lastHolder) (b_lst : iV_listed.toInt ≤ ((nV_list : Nat) : Int)) (sz : Nat) : Met l yX7_isHolder wsMX7_isHolder ({ frames := 0, cells := 0, slots := 0, locals := 0 }) (va_Pc [.ref (hV 0), .int p1] (fun U => U.heap.size = sz ∧ va_P (dC, dI) vwCl (WV hV aV kV iV_holders iV_rules fV_pairs fV_domain fV_kind fV_a fV_b fV_c fV_rulePairs fV_lastHolder fV_now iV_doneFor iV_changed gV_fore gV_back fV_together fV_member gV_list dV_list nV_list iV_listed iV_listDone) U.heap ∧ va_K (dC, dI) vwCl (tV kV) U ∧ va_D (fun _ => True) (WV hV aV kV iV_holders iV_rules fV_pairs fV_domain fV_kind fV_a fV_b fV_c fV_rulePairs fV_lastHolder fV_now iV_doneFor iV_changed gV_fore gV_back fV_together fV_member gV_list dV_list nV_list iV_listed iV_listDone))) (va_Qi (fun (r : Int32) (u : Unit) => (0 ≤ r.toInt ∧ r.toInt ≤ 1) ∧ (r.toInt ≠ 0 → 0 ≤ p1.toInt ∧ p1.toInt < iV_holders.toInt) ∧ ((r.toInt = 1 ∧ (0 ≤ p1.toInt ∧ p1.toInt < iV_holders.toInt)) ∨ (r.toInt = 0 ∧ ¬ (0 ≤ p1.toInt ∧ p1.toInt < iV_holders.toInt)))) (fun (u : Unit) t => va_P (dC, dI) vwCl (WV hV aV kV iV_holders iV_rules fV_pairs fV_domain fV_kind fV_a fV_b fV_c fV_rulePairs fV_lastHolder fV_now iV_doneFor iV_changed gV_fore gV_back fV_together fV_member gV_list dV_list nV_list iV_listed iV_listDone) t.heap ∧ va_D (va_A (WV hV aV kV iV_holders iV_rules fV_pairs fV_domain fV_kind fV_a fV_b fV_c fV_rulePairs fV_lastHolder fV_now iV_doneFor iV_changed gV_fore gV_back fV_together fV_member gV_list dV_list nV_list iV_listed iV_listDone) sz) (WV hV aV kV iV_holders iV_rules fV_pairs fV_domain fV_kind fV_a fV_b fV_c fV_rulePairs fV_lastHolder fV_now iV_doneFor iV_changed gV_fore gV_back fV_together fV_member gV_list dV_list nV_list iV_listed iV_listDone)) (va_A (WV hV aV kV iV_holders iV_rules fV_pairs fV_domain fV_kind fV_a fV_b fV_c fV_rulePairs fV_lastHolder fV_now iV_doneFor iV_changed gV_fore gV_back fV_together fV_member gV_list dV_list nV_list iV_listed iV_listDone) sz)) 0 0 (va_A (WV hV aV kV iV_holders iV_rules fV_pairs fV_domain fV_kind fV_a fV_b fV_c fV_rulePairs fV_lastHolder fV_now iV_doneFor iV_changed gV_fore gV_back fV_together fV_member gV_list dV_list nV_list iV_listed iV_listDone) sz) := by
  refine Met.ofW (cc := cX7_isHolder) (maxL := 2) (ret := (some .boolean)) (by decide) rfl ?_
  intro p e s m args below meth c s₁ B hml hv
  obtain ⟨rfl, hsz, hP, hK, hD0⟩ := hv
  have hx := B.exec
  have hb := B.bytes
  have hr := B.returns
  have hts := atoms_spec (ws := wsMX7_isHolder) B.pre
  have hown : s.vm.findClass RX7 = some m.cls := findClass_of_methodNamed B.named
  have hlocks := B.notSynchronized
  subst hsz
  have hD := hD0.self (sz := s.heap.size)
  generalize hAe : va_A (WV hV aV kV iV_holders iV_rules fV_pairs fV_domain fV_kind fV_a fV_b fV_c fV_rulePairs fV_lastHolder fV_now iV_doneFor iV_changed gV_fore gV_back fV_together fV_member gV_list dV_list nV_list iV_listed iV_listDone) s.heap.size = A at hD ⊢
  have hA : ∀ q : Nat, s.heap.size ≤ q → A q := fun q h => by rw [← hAe]; exact Or.inr h
  have hS : va_S A s.heap s.heap [] := va_S.rf
  have hl := lv_entry ([.ref (hV 0), .int p1]) (n := 2) (Nat.le_of_ble_eq_true rfl)
  rw [lg_entry_eq]
  generalize (lg_sl ([.ref (hV 0), .int p1]) ++ List.replicate (2 - (lg_sl ([.ref (hV 0), .int p1])).length) Slot.unset).toArray = ls at hl ⊢
  have hl : lv_has ls 2 [(0, .ref (hV 0)), (1, .int p1)] := hl
  refine lv_iload_n hx hb dX7_isHolder_0 rfl (lv_at hl 1 rfl) ?_
  refine W.cut (pc := 17) (fun H locs ls stk => ∃ (k0_j2 : Int32), (0 ≤ k0_j2.toInt ∧ k0_j2.toInt ≤ 1) ∧ (k0_j2.toInt ≠ 0 → 0 ≤ p1.toInt ∧ p1.toInt < iV_holders.toInt) ∧ ((k0_j2.toInt = 1 ∧ (0 ≤ p1.toInt ∧ p1.toInt < iV_holders.toInt)) ∨ (k0_j2.toInt = 0 ∧ ¬ (0 ≤ p1.toInt ∧ p1.toInt < iV_holders.toInt))) ∧  stk = [.int k0_j2] ∧ va_P (dC, dI) vwCl (WV hV aV kV iV_holders iV_rules fV_pairs fV_domain fV_kind fV_a fV_b fV_c fV_rulePairs fV_lastHolder fV_now iV_doneFor iV_changed gV_fore gV_back fV_together fV_member gV_list dV_list nV_list iV_listed iV_listDone) H ∧ va_D A (WV hV aV kV iV_holders iV_rules fV_pairs fV_domain fV_kind fV_a fV_b fV_c fV_rulePairs fV_lastHolder fV_now iV_doneFor iV_changed gV_fore gV_back fV_together fV_member gV_list dV_list nV_list iV_listed iV_listDone) ∧ va_S A s.heap H locs ∧ lv_has ls 2 [(0, .ref (hV 0)), (1, .int p1)]) (fun join2 => ?_) ?_
  · refine lv_if_lt (tgt := 16) hx hb dX7_isHolder_1 (by decide) (fun c_1 => ?_) (fun c_1 => ?_)
    · have t_1 : p1.toInt < 0 := toI_lt c_1 rfl (by decide : (0 : Int32).toInt = 0)
      refine lv_iconst (v := 0) hx hb dX7_isHolder_16 (by decide) ?_
      have hl : lv_has _ _ ([(0, .ref (hV 0)), (1, .int p1)]) := lv_sub hl [0, 1] rfl
      exact join2 _ _ _ _ ⟨0, (show 0 ≤ (0 : Int32).toInt ∧ (0 : Int32).toInt ≤ 1 from by decide), (show (0 : Int32).toInt ≠ 0 → 0 ≤ p1.toInt ∧ p1.toInt < iV_holders.toInt from by first | (intro h9; exact absurd (by decide) h9) | (intro h9; exact ⟨by omega, by omega⟩)), (show ((0 : Int32).toInt = 1 ∧ (0 ≤ p1.toInt ∧ p1.toInt < iV_holders.toInt)) ∨ ((0 : Int32).toInt = 0 ∧ ¬ (0 ≤ p1.toInt ∧ p1.toInt < iV_holders.toInt)) from by first | exact Or.inl ⟨by decide, by omega⟩ | exact Or.inr ⟨by decide, by omega⟩), rfl, hP, hD, hS, hl⟩
    · have t_1 : ¬ p1.toInt < 0 := toI_nlt c_1 rfl (by decide : (0 : Int32).toInt = 0)
      refine lv_iload_n hx hb dX7_isHolder_4 rfl (lv_at hl 1 rfl) ?_
      refine lv_aload_n hx hb dX7_isHolder_5 rfl (lv_at hl 0 rfl) ?_
      refine va_get (D := (dC, dI)) (ci := 7) (v := .int iV_holders) (C := RX7) (T := TX7) (N := 20) hx hb hts iwsMX7_isHolder_in7 hown hK hP 0 rfl rfl 0 (by decide) (hts (.fieldLink RX7 59 "OptimaWorks$ValueDesk" "holders" "I") (by decide +kernel)) (fun _ h9 => h9) rfl dX7_isHolder_6 ?_
      refine lv_icmp_ge (tgt := 16) hx hb dX7_isHolder_9 (by decide) (fun c_9 => ?_) (fun c_9 => ?_)
      · have t_9 : p1.toInt ≥ iV_holders.toInt := toI_ge c_9 rfl rfl
        refine lv_iconst (v := 0) hx hb dX7_isHolder_16 (by decide) ?_
        have hl : lv_has _ _ ([(0, .ref (hV 0)), (1, .int p1)]) := lv_sub hl [0, 1] rfl
        exact join2 _ _ _ _ ⟨0, (show 0 ≤ (0 : Int32).toInt ∧ (0 : Int32).toInt ≤ 1 from by decide), (show (0 : Int32).toInt ≠ 0 → 0 ≤ p1.toInt ∧ p1.toInt < iV_holders.toInt from by first | (intro h9; exact absurd (by decide) h9) | (intro h9; exact ⟨by omega, by omega⟩)), (show ((0 : Int32).toInt = 1 ∧ (0 ≤ p1.toInt ∧ p1.toInt < iV_holders.toInt)) ∨ ((0 : Int32).toInt = 0 ∧ ¬ (0 ≤ p1.toInt ∧ p1.toInt < iV_holders.toInt)) from by first | exact Or.inl ⟨by decide, by omega⟩ | exact Or.inr ⟨by decide, by omega⟩), rfl, hP, hD, hS, hl⟩
      · have t_9 : ¬ p1.toInt ≥ iV_holders.toInt := toI_nge c_9 rfl rfl
        refine lv_iconst (v := 1) hx hb dX7_isHolder_12 (by decide) ?_
        refine lv_goto (tgt := 17) hx hb dX7_isHolder_13 (by decide) ?_
        have hl : lv_has _ _ ([(0, .ref (hV 0)), (1, .int p1)]) := lv_sub hl [0, 1] rfl
        exact join2 _ _ _ _ ⟨1, (show 0 ≤ (1 : Int32).toInt ∧ (1 : Int32).toInt ≤ 1 from by decide), (show (1 : Int32).toInt ≠ 0 → 0 ≤ p1.toInt ∧ p1.toInt < iV_holders.toInt from by first | (intro h9; exact absurd (by decide) h9) | (intro h9; exact ⟨by omega, by omega⟩)), (show ((1 : Int32).toInt = 1 ∧ (0 ≤ p1.toInt ∧ p1.toInt < iV_holders.toInt)) ∨ ((1 : Int32).toInt = 0 ∧ ¬ (0 ≤ p1.toInt ∧ p1.toInt < iV_holders.toInt)) from by first | exact Or.inl ⟨by decide, by omega⟩ | exact Or.inr ⟨by decide, by omega⟩), rfl, hP, hD, hS, hl⟩
  · rintro H locs ls stk ⟨k0_j2, b_k0_j2, hj, hj2, rfl, hP, hD, hS, hl⟩
    refine W.widen (k := 0) (n := 0) (by decide +kernel) (by decide +kernel) ?_
    exact W.zret (v := k0_j2) hx hb hr (by rcases z01 (x := k0_j2) (b_k0_j2) with h9 | h9 <;> rw [h9] <;> rfl) (fun t9_ ht hW => ⟨⟨k0_j2, (), rfl, ⟨(b_k0_j2), (by (try dsimp only); exact (hj)), (by (try dsimp only); exact (hj2))⟩, by rw [ht]; exact hP, hD⟩, hS.F ht⟩) hS.2.2 dX7_isHolder_17
theorem dX7_isSet_0 : decode cX7_isSet 0 = .ok (.iload_n 1, 1) := dk_27 (by decide +kernel)
theorem dX7_isSet_1 : decode cX7_isSet 1 = .ok (.ifCond .le 17, 3) := dk_158 (by decide +kernel)
theorem dX7_isSet_4 : decode cX7_isSet 4 = .ok (.iload_n 1, 1) := dk_27 (by decide +kernel)
theorem dX7_isSet_5 : decode cX7_isSet 5 = .ok (.iconst 1, 1) := dk_4 (by decide +kernel)
theorem dX7_isSet_6 : decode cX7_isSet 6 = .ok (.aload_n 0, 1) := dk_42 (by decide +kernel)
theorem dX7_isSet_7 : decode cX7_isSet 7 = .ok (.getfield 59, 3) := dk_180 (by decide +kernel)
theorem dX7_isSet_10 : decode cX7_isSet 10 = .ok (.ishl, 1) := dk_120 (by decide +kernel)
theorem dX7_isSet_11 : decode cX7_isSet 11 = .ok (.if_icmp .ge 7, 3) := dk_162 (by decide +kernel)
theorem dX7_isSet_14 : decode cX7_isSet 14 = .ok (.iconst 1, 1) := dk_4 (by decide +kernel)
theorem dX7_isSet_15 : decode cX7_isSet 15 = .ok (.goto 4, 3) := dk_167 (by decide +kernel)
theorem dX7_isSet_18 : decode cX7_isSet 18 = .ok (.iconst 0, 1) := dk_3 (by decide +kernel)
theorem dX7_isSet_19 : decode cX7_isSet 19 = .ok (.ireturn, 1) := dk_172 (by decide +kernel)
def wsMX7_isSet : List Cond := .code yX7_isSet cX7_isSet 2 (some .boolean) :: ([.fieldLink RX7 59 "OptimaWorks$ValueDesk" "holders" "I"] ++ wsX70)
theorem iwsMX7_isSet_in7 : ∀ w ∈ wsX70, w ∈ wsMX7_isSet := fun _ h => List.mem_cons_of_mem _ (List.mem_append_right _ h)
theorem gdwsMX7_isSet : wsMX7_isSet.all goodWord = true := gdC rfl (gdA (by decide +kernel : ([.fieldLink RX7 59 "OptimaWorks$ValueDesk" "holders" "I"] : List Cond).all goodWord = true) gdwsX70)
set_option maxHeartbeats 4000000 in
set_option maxRecDepth 100000 in
/-- is it a set -/
theorem m_X7_isSet (l : Launch) (dC : Nat → ClassId) (dI : Nat → Nat → Nat) (hV : Nat → Nat) (aV : Nat → Nat) (kV : Nat → ClassId) (iV_holders : Int32) (iV_rules : Int32) (fV_pairs : Nat → Int32) (fV_domain : Nat → Int32) (fV_kind : Nat → Int32) (fV_a : Nat → Int32) (fV_b : Nat → Int32) (fV_c : Nat → Int32) (fV_rulePairs : Nat → Int32) (fV_lastHolder : Nat → Int32) (fV_now : Nat → Int32) (iV_doneFor : Int32) (iV_changed : Int32) (gV_fore : Nat → Int64) (gV_back : Nat → Int64) (fV_together : Nat → Int32) (fV_member : Nat → Int32) (gV_list : Nat → Int64) (dV_list : Nat) (nV_list : Nat) (iV_listed : Int32) (iV_listDone : Int32) (p1 : Int32) (b_iV_holders : 0 ≤ iV_holders.toInt ∧ iV_holders.toInt ≤ 10) (b_iV_rules : 0 ≤ iV_rules.toInt ∧ iV_rules.toInt ≤ 12) (b_fV_kind : ∀ q : Nat, 0 ≤ (fV_kind q).toInt ∧ (fV_kind q).toInt ≤ 4) (b_iV_changed : 0 ≤ iV_changed.toInt ∧ iV_changed.toInt ≤ 1) (b_fV_member : ∀ q : Nat, (-1) ≤ (fV_member q).toInt ∧ (fV_member q).toInt ≤ 15) (b_nV_list : 0 ≤ nV_list ∧ nV_list ≤ 20000) (b_iV_listed : (-1) ≤ iV_listed.toInt ∧ iV_listed.toInt ≤ 5000) (b_iV_listDone : 0 ≤ iV_listDone.toInt ∧ iV_listDone.toInt ≤ 1) (b_RuV : RuV fV_kind fV_a fV_b fV_c fV_lastHolder) (b_lst : iV_listed.toInt ≤ ((nV_list : Nat) : Int)) (sz : Nat) : Met l yX7_isSet wsMX7_isSet ({ frames := 0, cells := 0, slots := 0, locals := 0 }) (va_Pc [.ref (hV 0), .int p1] (fun U => U.heap.size = sz ∧ va_P (dC, dI) vwCl (WV hV aV kV iV_holders iV_rules fV_pairs fV_domain fV_kind fV_a fV_b fV_c fV_rulePairs fV_lastHolder fV_now iV_doneFor iV_changed gV_fore gV_back fV_together fV_member gV_list dV_list nV_list iV_listed iV_listDone) U.heap ∧ va_K (dC, dI) vwCl (tV kV) U ∧ va_D (fun _ => True) (WV hV aV kV iV_holders iV_rules fV_pairs fV_domain fV_kind fV_a fV_b fV_c fV_rulePairs fV_lastHolder fV_now iV_doneFor iV_changed gV_fore gV_back fV_together fV_member gV_list dV_list nV_list iV_listed iV_listDone))) (va_Qi (fun (r : Int32) (u : Unit) => (0 ≤ r.toInt ∧ r.toInt ≤ 1) ∧ ((r.toInt = 1 ∧ (0 < p1.toInt ∧ p1.toInt < ((1 : Int32) <<< (iV_holders &&& 31)).toInt)) ∨ (r.toInt = 0 ∧ ¬ (0 < p1.toInt ∧ p1.toInt < ((1 : Int32) <<< (iV_holders &&& 31)).toInt)))) (fun (u : Unit) t => va_P (dC, dI) vwCl (WV hV aV kV iV_holders iV_rules fV_pairs fV_domain fV_kind fV_a fV_b fV_c fV_rulePairs fV_lastHolder fV_now iV_doneFor iV_changed gV_fore gV_back fV_together fV_member gV_list dV_list nV_list iV_listed iV_listDone) t.heap ∧ va_D (va_A (WV hV aV kV iV_holders iV_rules fV_pairs fV_domain fV_kind fV_a fV_b fV_c fV_rulePairs fV_lastHolder fV_now iV_doneFor iV_changed gV_fore gV_back fV_together fV_member gV_list dV_list nV_list iV_listed iV_listDone) sz) (WV hV aV kV iV_holders iV_rules fV_pairs fV_domain fV_kind fV_a fV_b fV_c fV_rulePairs fV_lastHolder fV_now iV_doneFor iV_changed gV_fore gV_back fV_together fV_member gV_list dV_list nV_list iV_listed iV_listDone)) (va_A (WV hV aV kV iV_holders iV_rules fV_pairs fV_domain fV_kind fV_a fV_b fV_c fV_rulePairs fV_lastHolder fV_now iV_doneFor iV_changed gV_fore gV_back fV_together fV_member gV_list dV_list nV_list iV_listed iV_listDone) sz)) 0 0 (va_A (WV hV aV kV iV_holders iV_rules fV_pairs fV_domain fV_kind fV_a fV_b fV_c fV_rulePairs fV_lastHolder fV_now iV_doneFor iV_changed gV_fore gV_back fV_together fV_member gV_list dV_list nV_list iV_listed iV_listDone) sz) := by
  refine Met.ofW (cc := cX7_isSet) (maxL := 2) (ret := (some .boolean)) (by decide) rfl ?_
  intro p e s m args below meth c s₁ B hml hv
  obtain ⟨rfl, hsz, hP, hK, hD0⟩ := hv
  have hx := B.exec
  have hb := B.bytes
  have hr := B.returns
  have hts := atoms_spec (ws := wsMX7_isSet) B.pre
  have hown : s.vm.findClass RX7 = some m.cls := findClass_of_methodNamed B.named
  have hlocks := B.notSynchronized
  subst hsz
  have hD := hD0.self (sz := s.heap.size)
  generalize hAe : va_A (WV hV aV kV iV_holders iV_rules fV_pairs fV_domain fV_kind fV_a fV_b fV_c fV_rulePairs fV_lastHolder fV_now iV_doneFor iV_changed gV_fore gV_back fV_together fV_member gV_list dV_list nV_list iV_listed iV_listDone) s.heap.size = A at hD ⊢
  have hA : ∀ q : Nat, s.heap.size ≤ q → A q := fun q h => by rw [← hAe]; exact Or.inr h
  have hS : va_S A s.heap s.heap [] := va_S.rf
  have hl := lv_entry ([.ref (hV 0), .int p1]) (n := 2) (Nat.le_of_ble_eq_true rfl)
  rw [lg_entry_eq]
  generalize (lg_sl ([.ref (hV 0), .int p1]) ++ List.replicate (2 - (lg_sl ([.ref (hV 0), .int p1])).length) Slot.unset).toArray = ls at hl ⊢
  have hl : lv_has ls 2 [(0, .ref (hV 0)), (1, .int p1)] := hl
  refine lv_iload_n hx hb dX7_isSet_0 rfl (lv_at hl 1 rfl) ?_
  refine W.cut (pc := 19) (fun H locs ls stk => ∃ (k0_j2 : Int32), (0 ≤ k0_j2.toInt ∧ k0_j2.toInt ≤ 1) ∧ ((k0_j2.toInt = 1 ∧ (0 < p1.toInt ∧ p1.toInt < ((1 : Int32) <<< (iV_holders &&& 31)).toInt)) ∨ (k0_j2.toInt = 0 ∧ ¬ (0 < p1.toInt ∧ p1.toInt < ((1 : Int32) <<< (iV_holders &&& 31)).toInt))) ∧  stk = [.int k0_j2] ∧ va_P (dC, dI) vwCl (WV hV aV kV iV_holders iV_rules fV_pairs fV_domain fV_kind fV_a fV_b fV_c fV_rulePairs fV_lastHolder fV_now iV_doneFor iV_changed gV_fore gV_back fV_together fV_member gV_list dV_list nV_list iV_listed iV_listDone) H ∧ va_D A (WV hV aV kV iV_holders iV_rules fV_pairs fV_domain fV_kind fV_a fV_b fV_c fV_rulePairs fV_lastHolder fV_now iV_doneFor iV_changed gV_fore gV_back fV_together fV_member gV_list dV_list nV_list iV_listed iV_listDone) ∧ va_S A s.heap H locs ∧ lv_has ls 2 [(0, .ref (hV 0)), (1, .int p1)]) (fun join2 => ?_) ?_
  · refine lv_if_le (tgt := 18) hx hb dX7_isSet_1 (by decide) (fun c_1 => ?_) (fun c_1 => ?_)
    · have t_1 : p1.toInt ≤ 0 := toI_le c_1 rfl (by decide : (0 : Int32).toInt = 0)
      refine lv_iconst (v := 0) hx hb dX7_isSet_18 (by decide) ?_
      have hl : lv_has _ _ ([(0, .ref (hV 0)), (1, .int p1)]) := lv_sub hl [0, 1] rfl
      exact join2 _ _ _ _ ⟨0, (show 0 ≤ (0 : Int32).toInt ∧ (0 : Int32).toInt ≤ 1 from by decide), (show ((0 : Int32).toInt = 1 ∧ (0 < p1.toInt ∧ p1.toInt < ((1 : Int32) <<< (iV_holders &&& 31)).toInt)) ∨ ((0 : Int32).toInt = 0 ∧ ¬ (0 < p1.toInt ∧ p1.toInt < ((1 : Int32) <<< (iV_holders &&& 31)).toInt)) from by first | exact Or.inl ⟨by decide, by omega⟩ | exact Or.inr ⟨by decide, by omega⟩), rfl, hP, hD, hS, hl⟩
    · have t_1 : ¬ p1.toInt ≤ 0 := toI_nle c_1 rfl (by decide : (0 : Int32).toInt = 0)
      refine lv_iload_n hx hb dX7_isSet_4 rfl (lv_at hl 1 rfl) ?_
      refine lv_iconst (v := 1) hx hb dX7_isSet_5 (by decide) ?_
      refine lv_aload_n hx hb dX7_isSet_6 rfl (lv_at hl 0 rfl) ?_
      refine va_get (D := (dC, dI)) (ci := 7) (v := .int iV_holders) (C := RX7) (T := TX7) (N := 20) hx hb hts iwsMX7_isSet_in7 hown hK hP 0 rfl rfl 0 (by decide) (hts (.fieldLink RX7 59 "OptimaWorks$ValueDesk" "holders" "I") (by decide +kernel)) (fun _ h9 => h9) rfl dX7_isSet_7 ?_
      refine lv_ishl hx hb dX7_isSet_10 ?_
      refine lv_topi (fun v2 hv2 => ?_)
      have b_v2 : 1 ≤ v2.toInt ∧ v2.toInt ≤ 1024 := by rw [hv2]; exact shl1_t (k := 10) rfl (by omega) (by omega) (by decide)
      have b1_v2 : v2.toInt ≤ ((1 : Int32) <<< (iV_holders &&& 31)).toInt ∧ ((1 : Int32) <<< (iV_holders &&& 31)).toInt ≤ v2.toInt := by rw [hv2]; exact ⟨Int.le_refl _, Int.le_refl _⟩
      clear hv2
      refine lv_icmp_ge (tgt := 18) hx hb dX7_isSet_11 (by decide) (fun c_11 => ?_) (fun c_11 => ?_)
      · have t_11 : p1.toInt ≥ v2.toInt := toI_ge c_11 rfl rfl
        refine lv_iconst (v := 0) hx hb dX7_isSet_18 (by decide) ?_
        have hl : lv_has _ _ ([(0, .ref (hV 0)), (1, .int p1)]) := lv_sub hl [0, 1] rfl
        exact join2 _ _ _ _ ⟨0, (show 0 ≤ (0 : Int32).toInt ∧ (0 : Int32).toInt ≤ 1 from by decide), (show ((0 : Int32).toInt = 1 ∧ (0 < p1.toInt ∧ p1.toInt < ((1 : Int32) <<< (iV_holders &&& 31)).toInt)) ∨ ((0 : Int32).toInt = 0 ∧ ¬ (0 < p1.toInt ∧ p1.toInt < ((1 : Int32) <<< (iV_holders &&& 31)).toInt)) from by first | exact Or.inl ⟨by decide, by omega⟩ | exact Or.inr ⟨by decide, by omega⟩), rfl, hP, hD, hS, hl⟩
      · have t_11 : ¬ p1.toInt ≥ v2.toInt := toI_nge c_11 rfl rfl
        refine lv_iconst (v := 1) hx hb dX7_isSet_14 (by decide) ?_
        refine lv_goto (tgt := 19) hx hb dX7_isSet_15 (by decide) ?_
        have hl : lv_has _ _ ([(0, .ref (hV 0)), (1, .int p1)]) := lv_sub hl [0, 1] rfl
        exact join2 _ _ _ _ ⟨1, (show 0 ≤ (1 : Int32).toInt ∧ (1 : Int32).toInt ≤ 1 from by decide), (show ((1 : Int32).toInt = 1 ∧ (0 < p1.toInt ∧ p1.toInt < ((1 : Int32) <<< (iV_holders &&& 31)).toInt)) ∨ ((1 : Int32).toInt = 0 ∧ ¬ (0 < p1.toInt ∧ p1.toInt < ((1 : Int32) <<< (iV_holders &&& 31)).toInt)) from by first | exact Or.inl ⟨by decide, by omega⟩ | exact Or.inr ⟨by decide, by omega⟩), rfl, hP, hD, hS, hl⟩
  · rintro H locs ls stk ⟨k0_j2, b_k0_j2, hj2, rfl, hP, hD, hS, hl⟩
    refine W.widen (k := 0) (n := 0) (by decide +kernel) (by decide +kernel) ?_
    exact W.zret (v := k0_j2) hx hb hr (by rcases z01 (x := k0_j2) (b_k0_j2) with h9 | h9 <;> rw [h9] <;> rfl) (fun t9_ ht hW => ⟨⟨k0_j2, (), rfl, ⟨(b_k0_j2), (by (try dsimp only); exact (hj2))⟩, by rw [ht]; exact hP, hD⟩, hS.F ht⟩) hS.2.2 dX7_isSet_19
theorem dX7_isWithin_0 : decode cX7_isWithin 0 = .ok (.iload_n 0, 1) := dk_26 (by decide +kernel)
theorem dX7_isWithin_1 : decode cX7_isWithin 1 = .ok (.iload_n 1, 1) := dk_27 (by decide +kernel)
theorem dX7_isWithin_2 : decode cX7_isWithin 2 = .ok (.ineg, 1) := dk_116 (by decide +kernel)
theorem dX7_isWithin_3 : decode cX7_isWithin 3 = .ok (.if_icmp .lt 12, 3) := dk_161 (by decide +kernel)
theorem dX7_isWithin_6 : decode cX7_isWithin 6 = .ok (.iload_n 0, 1) := dk_26 (by decide +kernel)
theorem dX7_isWithin_7 : decode cX7_isWithin 7 = .ok (.iload_n 1, 1) := dk_27 (by decide +kernel)
theorem dX7_isWithin_8 : decode cX7_isWithin 8 = .ok (.if_icmp .gt 7, 3) := dk_163 (by decide +kernel)
theorem dX7_isWithin_11 : decode cX7_isWithin 11 = .ok (.iconst 1, 1) := dk_4 (by decide +kernel)
theorem dX7_isWithin_12 : decode cX7_isWithin 12 = .ok (.goto 4, 3) := dk_167 (by decide +kernel)
theorem dX7_isWithin_15 : decode cX7_isWithin 15 = .ok (.iconst 0, 1) := dk_3 (by decide +kernel)
theorem dX7_isWithin_16 : decode cX7_isWithin 16 = .ok (.ireturn, 1) := dk_172 (by decide +kernel)
def wsMX7_isWithin : List Cond := .code yX7_isWithin cX7_isWithin 2 (some .boolean) :: ([])
theorem gdwsMX7_isWithin : wsMX7_isWithin.all goodWord = true := gdC rfl (by decide +kernel : ([] : List Cond).all goodWord = true)
set_option maxHeartbeats 4000000 in
set_option maxRecDepth 100000 in
/-- is it near -/
theorem m_X7_isWithin (l : Launch) (dC : Nat → ClassId) (dI : Nat → Nat → Nat) (p1 : Int32) (p2 : Int32) (b_p2 : 0 ≤ p2.toInt ∧ p2.toInt ≤ 1000) (sz : Nat) : Met l yX7_isWithin wsMX7_isWithin ({ frames := 0, cells := 0, slots := 0, locals := 0 }) (va_Pc [.int p1, .int p2] (fun U => U.heap.size = sz ∧ va_P (dC, dI) vwCl [] U.heap ∧ va_K (dC, dI) vwCl [] U ∧ va_D (fun _ => True) [])) (va_Qi (fun (r : Int32) (u : Unit) => (0 ≤ r.toInt ∧ r.toInt ≤ 1) ∧ ((r.toInt = 1 ∧ (-p2.toInt ≤ p1.toInt ∧ p1.toInt ≤ p2.toInt)) ∨ (r.toInt = 0 ∧ ¬ (-p2.toInt ≤ p1.toInt ∧ p1.toInt ≤ p2.toInt)))) (fun (u : Unit) t => True) (va_A [] sz)) 0 0 (va_A [] sz) := by
  refine Met.ofW (cc := cX7_isWithin) (maxL := 2) (ret := (some .boolean)) (by decide) rfl ?_
  intro p e s m args below meth c s₁ B hml hv
  obtain ⟨rfl, hsz, hP, hK, hD0⟩ := hv
  have hx := B.exec
  have hb := B.bytes
  have hr := B.returns
  have hts := atoms_spec (ws := wsMX7_isWithin) B.pre
  have hown : s.vm.findClass RX7 = some m.cls := findClass_of_methodNamed B.named
  have hlocks := B.notSynchronized
  subst hsz
  have hD := hD0.self (sz := s.heap.size)
  generalize hAe : va_A [] s.heap.size = A at hD ⊢
  have hA : ∀ q : Nat, s.heap.size ≤ q → A q := fun q h => by rw [← hAe]; exact Or.inr h
  have hS : va_S A s.heap s.heap [] := va_S.rf
  have hl := lv_entry ([.int p1, .int p2]) (n := 2) (Nat.le_of_ble_eq_true rfl)
  rw [lg_entry_eq]
  generalize (lg_sl ([.int p1, .int p2]) ++ List.replicate (2 - (lg_sl ([.int p1, .int p2])).length) Slot.unset).toArray = ls at hl ⊢
  have hl : lv_has ls 2 [(0, .int p1), (1, .int p2)] := hl
  refine lv_iload_n hx hb dX7_isWithin_0 rfl (lv_at hl 0 rfl) ?_
  refine lv_iload_n hx hb dX7_isWithin_1 rfl (lv_at hl 1 rfl) ?_
  refine lv_ineg hx hb dX7_isWithin_2 ?_
  refine lv_topi (fun y1 hy1 => ?_)
  obtain rfl : (iI (-p2.toInt)) = y1 := (hy1.trans (iI_neg2 (iI_of _))).symm
  refine W.cut (pc := 16) (fun H locs ls stk => ∃ (k0_j2 : Int32), (0 ≤ k0_j2.toInt ∧ k0_j2.toInt ≤ 1) ∧ ((k0_j2.toInt = 1 ∧ (-p2.toInt ≤ p1.toInt ∧ p1.toInt ≤ p2.toInt)) ∨ (k0_j2.toInt = 0 ∧ ¬ (-p2.toInt ≤ p1.toInt ∧ p1.toInt ≤ p2.toInt))) ∧  stk = [.int k0_j2] ∧ va_P (dC, dI) vwCl ([]) H ∧ va_D A ([]) ∧ va_S A s.heap H locs ∧ lv_has ls 2 [(0, .int p1), (1, .int p2)]) (fun join2 => ?_) ?_
  · refine lv_icmp_lt (tgt := 15) hx hb dX7_isWithin_3 (by decide) (fun c_3 => ?_) (fun c_3 => ?_)
    · first | (have t_3 : p1.toInt < (-p2.toInt) := toI_lt c_3 rfl (iI_t (by omega) (by omega))) | skip
      refine lv_iconst (v := 0) hx hb dX7_isWithin_15 (by decide) ?_
      have hl : lv_has _ _ ([(0, .int p1), (1, .int p2)]) := lv_sub hl [0, 1] rfl
      exact join2 _ _ _ _ ⟨0, (show 0 ≤ (0 : Int32).toInt ∧ (0 : Int32).toInt ≤ 1 from by decide), (show ((0 : Int32).toInt = 1 ∧ (-p2.toInt ≤ p1.toInt ∧ p1.toInt ≤ p2.toInt)) ∨ ((0 : Int32).toInt = 0 ∧ ¬ (-p2.toInt ≤ p1.toInt ∧ p1.toInt ≤ p2.toInt)) from by first | exact Or.inl ⟨by decide, by omega⟩ | exact Or.inr ⟨by decide, by omega⟩), rfl, hP, hD, hS, hl⟩
    · first | (have t_3 : ¬ p1.toInt < (-p2.toInt) := toI_nlt c_3 rfl (iI_t (by omega) (by omega))) | skip
      refine lv_iload_n hx hb dX7_isWithin_6 rfl (lv_at hl 0 rfl) ?_
      refine lv_iload_n hx hb dX7_isWithin_7 rfl (lv_at hl 1 rfl) ?_
      refine lv_icmp_gt (tgt := 15) hx hb dX7_isWithin_8 (by decide) (fun c_8 => ?_) (fun c_8 => ?_)
      · have t_8 : p1.toInt > p2.toInt := toI_gt c_8 rfl rfl
        refine lv_iconst (v := 0) hx hb dX7_isWithin_15 (by decide) ?_
        have hl : lv_has _ _ ([(0, .int p1), (1, .int p2)]) := lv_sub hl [0, 1] rfl
        exact join2 _ _ _ _ ⟨0, (show 0 ≤ (0 : Int32).toInt ∧ (0 : Int32).toInt ≤ 1 from by decide), (show ((0 : Int32).toInt = 1 ∧ (-p2.toInt ≤ p1.toInt ∧ p1.toInt ≤ p2.toInt)) ∨ ((0 : Int32).toInt = 0 ∧ ¬ (-p2.toInt ≤ p1.toInt ∧ p1.toInt ≤ p2.toInt)) from by first | exact Or.inl ⟨by decide, by omega⟩ | exact Or.inr ⟨by decide, by omega⟩), rfl, hP, hD, hS, hl⟩
      · have t_8 : ¬ p1.toInt > p2.toInt := toI_ngt c_8 rfl rfl
        refine lv_iconst (v := 1) hx hb dX7_isWithin_11 (by decide) ?_
        refine lv_goto (tgt := 16) hx hb dX7_isWithin_12 (by decide) ?_
        have hl : lv_has _ _ ([(0, .int p1), (1, .int p2)]) := lv_sub hl [0, 1] rfl
        exact join2 _ _ _ _ ⟨1, (show 0 ≤ (1 : Int32).toInt ∧ (1 : Int32).toInt ≤ 1 from by decide), (show ((1 : Int32).toInt = 1 ∧ (-p2.toInt ≤ p1.toInt ∧ p1.toInt ≤ p2.toInt)) ∨ ((1 : Int32).toInt = 0 ∧ ¬ (-p2.toInt ≤ p1.toInt ∧ p1.toInt ≤ p2.toInt)) from by first | exact Or.inl ⟨by decide, by omega⟩ | exact Or.inr ⟨by decide, by omega⟩), rfl, hP, hD, hS, hl⟩
  · rintro H locs ls stk ⟨k0_j2, b_k0_j2, hj2, rfl, hP, hD, hS, hl⟩
    refine W.widen (k := 0) (n := 0) (by decide +kernel) (by decide +kernel) ?_
    exact W.zret (v := k0_j2) hx hb hr (by rcases z01 (x := k0_j2) (b_k0_j2) with h9 | h9 <;> rw [h9] <;> rfl) (fun t9_ ht hW => ⟨⟨k0_j2, (), rfl, ⟨(b_k0_j2), (by (try dsimp only); exact (hj2))⟩, trivial⟩, hS.F ht⟩) hS.2.2 dX7_isWithin_16
theorem dX7_addHolder_0 : decode cX7_addHolder 0 = .ok (.aload_n 0, 1) := dk_42 (by decide +kernel)
theorem dX7_addHolder_1 : decode cX7_addHolder 1 = .ok (.getfield 15, 3) := dk_180 (by decide +kernel)
theorem dX7_addHolder_4 : decode cX7_addHolder 4 = .ok (.aload_n 0, 1) := dk_42 (by decide +kernel)
theorem dX7_addHolder_5 : decode cX7_addHolder 5 = .ok (.getfield 59, 3) := dk_180 (by decide +kernel)
theorem dX7_addHolder_8 : decode cX7_addHolder 8 = .ok (.iload_n 1, 1) := dk_27 (by decide +kernel)
theorem dX7_addHolder_9 : decode cX7_addHolder 9 = .ok (.iastore, 1) := dk_79 (by decide +kernel)
theorem dX7_addHolder_10 : decode cX7_addHolder 10 = .ok (.aload_n 0, 1) := dk_42 (by decide +kernel)
theorem dX7_addHolder_11 : decode cX7_addHolder 11 = .ok (.dup, 1) := dk_89 (by decide +kernel)
theorem dX7_addHolder_12 : decode cX7_addHolder 12 = .ok (.getfield 59, 3) := dk_180 (by decide +kernel)
theorem dX7_addHolder_15 : decode cX7_addHolder 15 = .ok (.iconst 1, 1) := dk_4 (by decide +kernel)
theorem dX7_addHolder_16 : decode cX7_addHolder 16 = .ok (.iadd, 1) := dk_96 (by decide +kernel)
theorem dX7_addHolder_17 : decode cX7_addHolder 17 = .ok (.putfield 59, 3) := dk_181 (by decide +kernel)
theorem dX7_addHolder_20 : decode cX7_addHolder 20 = .ok (.aload_n 0, 1) := dk_42 (by decide +kernel)
theorem dX7_addHolder_21 : decode cX7_addHolder 21 = .ok (.invokevirtual 65, 3) := dk_182 (by decide +kernel)
theorem dX7_addHolder_24 : decode cX7_addHolder 24 = .ok (.aload_n 0, 1) := dk_42 (by decide +kernel)
theorem dX7_addHolder_25 : decode cX7_addHolder 25 = .ok (.getfield 59, 3) := dk_180 (by decide +kernel)
theorem dX7_addHolder_28 : decode cX7_addHolder 28 = .ok (.iconst 1, 1) := dk_4 (by decide +kernel)
theorem dX7_addHolder_29 : decode cX7_addHolder 29 = .ok (.isub, 1) := dk_100 (by decide +kernel)
theorem dX7_addHolder_30 : decode cX7_addHolder 30 = .ok (.ireturn, 1) := dk_172 (by decide +kernel)
def wsMX7_addHolder : List Cond := .code yX7_addHolder cX7_addHolder 2 (some .int) :: ([.fieldLink RX7 15 "OptimaWorks$ValueDesk" "domain" "[I", .fieldLink RX7 59 "OptimaWorks$ValueDesk" "holders" "I"] ++ wsX70 ++ (wsV RX7 65 RX7 yX7_change wsMX7_change))
theorem iwsMX7_addHolder_in7 : ∀ w ∈ wsX70, w ∈ wsMX7_addHolder := fun _ h => List.mem_cons_of_mem _ (List.mem_append_left _ (List.mem_append_right _ h))
theorem gwsMX7_addHolder_0 : GoodIn wsMX7_addHolder (wsV RX7 65 RX7 yX7_change wsMX7_change) := goodIn_sub (fun _ h => List.mem_cons_of_mem _ (List.mem_append_right _ h)) (gdV (by decide +kernel) gdwsMX7_change)
theorem gdwsMX7_addHolder : wsMX7_addHolder.all goodWord = true := gdC rfl (gdA (gdA (by decide +kernel : ([.fieldLink RX7 15 "OptimaWorks$ValueDesk" "domain" "[I", .fieldLink RX7 59 "OptimaWorks$ValueDesk" "holders" "I"] : List Cond).all goodWord = true) gdwsX70) (gdV (by decide +kernel) gdwsMX7_change))
theorem hm_m_X7_addHolder_0 : (.fieldLink RX7 59 "OptimaWorks$ValueDesk" "holders" "I" : Cond) ∈ wsMX7_addHolder := by decide +kernel
set_option maxHeartbeats 4000000 in
set_option maxRecDepth 100000 in
/-- a holder more -/
theorem m_X7_addHolder (l : Launch) (dC : Nat → ClassId) (dI : Nat → Nat → Nat) (hV : Nat → Nat) (aV : Nat → Nat) (kV : Nat → ClassId) (iV_holders : Int32) (iV_rules : Int32) (fV_pairs : Nat → Int32) (fV_domain : Nat → Int32) (fV_kind : Nat → Int32) (fV_a : Nat → Int32) (fV_b : Nat → Int32) (fV_c : Nat → Int32) (fV_rulePairs : Nat → Int32) (fV_lastHolder : Nat → Int32) (fV_now : Nat → Int32) (iV_doneFor : Int32) (iV_changed : Int32) (gV_fore : Nat → Int64) (gV_back : Nat → Int64) (fV_together : Nat → Int32) (fV_member : Nat → Int32) (gV_list : Nat → Int64) (dV_list : Nat) (nV_list : Nat) (iV_listed : Int32) (iV_listDone : Int32) (p1 : Int32) (b_iV_holders : 0 ≤ iV_holders.toInt ∧ iV_holders.toInt ≤ 10) (b_iV_rules : 0 ≤ iV_rules.toInt ∧ iV_rules.toInt ≤ 12) (b_fV_kind : ∀ q : Nat, 0 ≤ (fV_kind q).toInt ∧ (fV_kind q).toInt ≤ 4) (b_iV_changed : 0 ≤ iV_changed.toInt ∧ iV_changed.toInt ≤ 1) (b_fV_member : ∀ q : Nat, (-1) ≤ (fV_member q).toInt ∧ (fV_member q).toInt ≤ 15) (b_nV_list : 0 ≤ nV_list ∧ nV_list ≤ 20000) (b_iV_listed : (-1) ≤ iV_listed.toInt ∧ iV_listed.toInt ≤ 5000) (b_iV_listDone : 0 ≤ iV_listDone.toInt ∧ iV_listDone.toInt ≤ 1) (b_RuV : RuV fV_kind fV_a fV_b fV_c fV_lastHolder) (b_lst : iV_listed.toInt ≤ ((nV_list : Nat) : Int)) (hlt : iV_holders.toInt < 10) (sz : Nat) : Met l yX7_addHolder wsMX7_addHolder ({ frames := 1, cells := 0, slots := 0, locals := 20 }) (va_Pc [.ref (hV 0), .int p1] (fun U => U.heap.size = sz ∧ va_P (dC, dI) vwCl (WV hV aV kV iV_holders iV_rules fV_pairs fV_domain fV_kind fV_a fV_b fV_c fV_rulePairs fV_lastHolder fV_now iV_doneFor iV_changed gV_fore gV_back fV_together fV_member gV_list dV_list nV_list iV_listed iV_listDone) U.heap ∧ va_K (dC, dI) vwCl (tV kV) U ∧ va_D (fun _ => True) (WV hV aV kV iV_holders iV_rules fV_pairs fV_domain fV_kind fV_a fV_b fV_c fV_rulePairs fV_lastHolder fV_now iV_doneFor iV_changed gV_fore gV_back fV_together fV_member gV_list dV_list nV_list iV_listed iV_listDone))) (va_Qi (fun (r : Int32) (u : (Int32) × (Nat → Int32) × (Int32) × (Int32)) => (0 ≤ (u.1).toInt ∧ (u.1).toInt ≤ 10) ∧ (0 ≤ (u.2.2.2).toInt ∧ (u.2.2.2).toInt ≤ 1) ∧ ((u.1).toInt = iV_holders.toInt + 1) ∧ (r.toInt = iV_holders.toInt) ∧ ((u.2.1) = upd fV_domain iV_holders.toInt.toNat p1)) (fun (u : (Int32) × (Nat → Int32) × (Int32) × (Int32)) t => va_P (dC, dI) vwCl (WV hV aV kV (u.1) iV_rules fV_pairs (u.2.1) fV_kind fV_a fV_b fV_c fV_rulePairs fV_lastHolder fV_now (u.2.2.1) iV_changed gV_fore gV_back fV_together fV_member gV_list dV_list nV_list iV_listed (u.2.2.2)) t.heap ∧ va_D (va_A (WV hV aV kV iV_holders iV_rules fV_pairs fV_domain fV_kind fV_a fV_b fV_c fV_rulePairs fV_lastHolder fV_now iV_doneFor iV_changed gV_fore gV_back fV_together fV_member gV_list dV_list nV_list iV_listed iV_listDone) sz) (WV hV aV kV (u.1) iV_rules fV_pairs (u.2.1) fV_kind fV_a fV_b fV_c fV_rulePairs fV_lastHolder fV_now (u.2.2.1) iV_changed gV_fore gV_back fV_together fV_member gV_list dV_list nV_list iV_listed (u.2.2.2))) (va_A (WV hV aV kV iV_holders iV_rules fV_pairs fV_domain fV_kind fV_a fV_b fV_c fV_rulePairs fV_lastHolder fV_now iV_doneFor iV_changed gV_fore gV_back fV_together fV_member gV_list dV_list nV_list iV_listed iV_listDone) sz)) 0 0 (va_A (WV hV aV kV iV_holders iV_rules fV_pairs fV_domain fV_kind fV_a fV_b fV_c fV_rulePairs fV_lastHolder fV_now iV_doneFor iV_changed gV_fore gV_back fV_together fV_member gV_list dV_list nV_list iV_listed iV_listDone) sz) := by
  refine Met.ofW (cc := cX7_addHolder) (maxL := 2) (ret := (some .int)) (by decide) rfl ?_
  intro p e s m args below meth c s₁ B hml hv
  obtain ⟨rfl, hsz, hP, hK, hD0⟩ := hv
  have hx := B.exec
  have hb := B.bytes
  have hr := B.returns
  have hts := atoms_spec (ws := wsMX7_addHolder) B.pre
  have hown : s.vm.findClass RX7 = some m.cls := findClass_of_methodNamed B.named
  have hlocks := B.notSynchronized
  subst hsz
  have hD := hD0.self (sz := s.heap.size)
  generalize hAe : va_A (WV hV aV kV iV_holders iV_rules fV_pairs fV_domain fV_kind fV_a fV_b fV_c fV_rulePairs fV_lastHolder fV_now iV_doneFor iV_changed gV_fore gV_back fV_together fV_member gV_list dV_list nV_list iV_listed iV_listDone) s.heap.size = A at hD ⊢
  have hA : ∀ q : Nat, s.heap.size ≤ q → A q := fun q h => by rw [← hAe]; exact Or.inr h
  have hS : va_S A s.heap s.heap [] := va_S.rf
  have hl := lv_entry ([.ref (hV 0), .int p1]) (n := 2) (Nat.le_of_ble_eq_true rfl)
  rw [lg_entry_eq]
  generalize (lg_sl ([.ref (hV 0), .int p1]) ++ List.replicate (2 - (lg_sl ([.ref (hV 0), .int p1])).length) Slot.unset).toArray = ls at hl ⊢
  have hl : lv_has ls 2 [(0, .ref (hV 0)), (1, .int p1)] := hl
  refine lv_aload_n hx hb dX7_addHolder_0 rfl (lv_at hl 0 rfl) ?_
  refine va_get (D := (dC, dI)) (ci := 7) (v := .ref (aV 1)) (C := RX7) (T := TX7) (N := 20) hx hb hts iwsMX7_addHolder_in7 hown hK hP 0 rfl rfl 3 (by decide) (hts (.fieldLink RX7 15 "OptimaWorks$ValueDesk" "domain" "[I") (by decide +kernel)) (fun _ h9 => h9) rfl dX7_addHolder_1 ?_
  refine lv_aload_n hx hb dX7_addHolder_4 rfl (lv_at hl 0 rfl) ?_
  refine va_get (D := (dC, dI)) (ci := 7) (v := .int iV_holders) (C := RX7) (T := TX7) (N := 20) hx hb hts iwsMX7_addHolder_in7 hown hK hP 0 rfl rfl 0 (by decide) (hts _ hm_m_X7_addHolder_0) (fun _ h9 => h9) rfl dX7_addHolder_5 ?_
  refine lv_iload_n hx hb dX7_addHolder_8 rfl (lv_at hl 1 rfl) ?_
  refine va_iast (cA := kV 1) (n := 10) (f := fV_domain) hx hb hK hP hD hS 2 1 rfl rfl (vp_in_iff.mpr ⟨b_iV_holders.1, (by omega)⟩) dX7_addHolder_9 (fun H locs hP hD hS => ?_)
  obtain ⟨u1, hu1⟩ : ∃ f9, f9 = upd fV_domain (iV_holders).toNatClampNeg p1 := ⟨_, rfl⟩
  have hP : va_P (dC, dI) vwCl (WV hV aV kV iV_holders iV_rules fV_pairs u1 fV_kind fV_a fV_b fV_c fV_rulePairs fV_lastHolder fV_now iV_doneFor iV_changed gV_fore gV_back fV_together fV_member gV_list dV_list nV_list iV_listed iV_listDone) H := by rw [hu1]; exact hP
  have hD : va_D A (WV hV aV kV iV_holders iV_rules fV_pairs u1 fV_kind fV_a fV_b fV_c fV_rulePairs fV_lastHolder fV_now iV_doneFor iV_changed gV_fore gV_back fV_together fV_member gV_list dV_list nV_list iV_listed iV_listDone) := by rw [hu1]; exact hD
  have b_u1 : u1 = upd fV_domain (iV_holders).toNatClampNeg p1 := hu1
  clear hu1
  refine lv_aload_n hx hb dX7_addHolder_10 rfl (lv_at hl 0 rfl) ?_
  refine lv_dup hx hb dX7_addHolder_11 rfl ?_
  refine va_get (D := (dC, dI)) (ci := 7) (v := .int iV_holders) (C := RX7) (T := TX7) (N := 20) hx hb hts iwsMX7_addHolder_in7 hown hK hP 0 rfl rfl 0 (by decide) (hts _ hm_m_X7_addHolder_0) (fun _ h9 => h9) rfl dX7_addHolder_12 ?_
  refine lv_iconst (v := 1) hx hb dX7_addHolder_15 (by decide) ?_
  refine lv_iadd hx hb dX7_addHolder_16 ?_
  refine lv_topi (fun y2 hy2 => ?_)
  obtain rfl : (iI (iV_holders.toInt + 1)) = y2 := (hy2.trans (iI_add2 (iI_of _) (by decide : (1 : Int32) = iI 1))).symm
  refine va_put (D := (dC, dI)) (ci := 7) (v := .int (iI (iV_holders.toInt + 1))) (ty := .int) (C := RX7) (T := TX7) (N := 20) hx hb hts iwsMX7_addHolder_in7 tyX7 tyX7_ok nmX7 hown hK hP hD hS 0 rfl rfl 0 (by decide) (hts _ hm_m_X7_addHolder_0) (fun _ h9 => h9) rfl (by decide +kernel) rfl rfl (Nat.le_of_ble_eq_true rfl) dX7_addHolder_17 (fun H locs hP hD hS => ?_)
  have hP : va_P (dC, dI) vwCl (WV hV aV kV (iI (iV_holders.toInt + 1)) iV_rules fV_pairs u1 fV_kind fV_a fV_b fV_c fV_rulePairs fV_lastHolder fV_now iV_doneFor iV_changed gV_fore gV_back fV_together fV_member gV_list dV_list nV_list iV_listed iV_listDone) H := hP
  have hD := fz_sd hP (hD) rfl
  refine lv_aload_n hx hb dX7_addHolder_20 rfl (lv_at hl 0 rfl) ?_
  have hFc := allFree hD hS hA
  refine va_callv (va_runV (As := []) (rest := []) ⟨hx, hb, hml, hown, hts⟩ (m_X7_change l dC dI hV aV kV (iI (iV_holders.toInt + 1)) iV_rules fV_pairs u1 fV_kind fV_a fV_b fV_c fV_rulePairs fV_lastHolder fV_now iV_doneFor iV_changed gV_fore gV_back fV_together fV_member gV_list dV_list nV_list iV_listed iV_listDone (iI_rng (Int.le_trans (by decide) (Int.add_le_add (b_iV_holders.1) (Int.le_refl _))) (by omega) (by decide) (by decide)) (b_iV_rules) b_fV_kind (b_iV_changed) b_fV_member (by first | exact b_nV_list | with_reducible assumption | exact ⟨by omega, by omega⟩ | assumption) (b_iV_listed) (b_iV_listDone) (by first | with_reducible assumption | omega | assumption) (by first | with_reducible assumption | omega | assumption) H.size) (cwV 0 hts gwsMX7_addHolder_0 rfl rfl rfl hd_yX7_change_RX7 (by decide +kernel)) (fz_pre (va_recv hK hP (ci := 7) (q0 := 0) rfl rfl) hP hK hD) rfl rfl hl.1 rfl (lv_room (Nat.le_of_ble_eq_true rfl)) dX7_addHolder_21 (by decide +kernel)) hS (fun q _ h => hFc q h) hFc (fun u t9_ H locs ht hvm hw9 hB9 hz1 hk1 hS => ?_)
  revert u hw9 hB9
  refine fz_p2 ?_
  intro iV_doneFor_3 iV_listDone_3 hw9 hB9
  try dsimp only at hw9 hB9
  have b_iV_listDone_3 := hw9
  try dsimp only at b_iV_listDone_3
  have hP : va_P (dC, dI) vwCl (WV hV aV kV (iI (iV_holders.toInt + 1)) iV_rules fV_pairs u1 fV_kind fV_a fV_b fV_c fV_rulePairs fV_lastHolder fV_now iV_doneFor_3 iV_changed gV_fore gV_back fV_together fV_member gV_list dV_list nV_list iV_listed iV_listDone_3) H := fz_P ht hB9.1
  have hD := fz_sd hP (hB9.2.weaken (fun _ q _ h => hFc q.1 h)) rfl
  refine lv_aload_n hx hb dX7_addHolder_24 rfl (lv_at hl 0 rfl) ?_
  refine va_get (D := (dC, dI)) (ci := 7) (v := .int (iI (iV_holders.toInt + 1))) (C := RX7) (T := TX7) (N := 20) hx hb hts iwsMX7_addHolder_in7 hown hK hP 0 rfl rfl 0 (by decide) (hts _ hm_m_X7_addHolder_0) (fun _ h9 => h9) rfl dX7_addHolder_25 ?_
  refine lv_iconst (v := 1) hx hb dX7_addHolder_28 (by decide) ?_
  refine lv_isub hx hb dX7_addHolder_29 ?_
  refine lv_topi (fun y4 hy4 => ?_)
  obtain rfl : (iI ((iV_holders.toInt + 1) - 1)) = y4 := (hy4.trans (iI_sub2 rfl (by decide : (1 : Int32) = iI 1))).symm
  refine W.widen (k := 0) (n := 0) (by decide +kernel) (by decide +kernel) ?_
  exact W.iret (v := (iI ((iV_holders.toInt + 1) - 1))) hx hb hr (fun t9_ ht hW => ⟨⟨(iI ((iV_holders.toInt + 1) - 1)), ((iI (iV_holders.toInt + 1)), u1, iV_doneFor_3, iV_listDone_3), rfl, ⟨(by (try dsimp only); exact (iI_rng (Int.le_trans (by decide) (Int.add_le_add (b_iV_holders.1) (Int.le_refl _))) (by omega) (by decide) (by decide))), (by (try dsimp only); exact (by first | exact b_iV_listDone_3 | with_reducible assumption | exact ⟨by omega, by omega⟩ | assumption)), (by (try dsimp only); first | (rw [iI_t (by omega) (by omega)] <;> omega) | omega), (by (try dsimp only); first | (rw [iI_t (by omega) (by omega)] <;> omega) | omega), b_u1⟩, by rw [ht]; exact hP, hD⟩, hS.F ht⟩) hS.2.2 dX7_addHolder_30
theorem dX7_isRule_0 : decode cX7_isRule 0 = .ok (.iload_n 1, 1) := dk_27 (by decide +kernel)
theorem dX7_isRule_1 : decode cX7_isRule 1 = .ok (.tableswitch 171 0 4 #[35, 41, 73, 108, 144], 35) := by decide +kernel
theorem dX7_isRule_36 : decode cX7_isRule 36 = .ok (.aload_n 0, 1) := dk_42 (by decide +kernel)
theorem dX7_isRule_37 : decode cX7_isRule 37 = .ok (.iload_n 2, 1) := dk_28 (by decide +kernel)
theorem dX7_isRule_38 : decode cX7_isRule 38 = .ok (.invokevirtual 72, 3) := dk_182 (by decide +kernel)
theorem dX7_isRule_41 : decode cX7_isRule 41 = .ok (.ireturn, 1) := dk_172 (by decide +kernel)
theorem dX7_isRule_42 : decode cX7_isRule 42 = .ok (.aload_n 0, 1) := dk_42 (by decide +kernel)
theorem dX7_isRule_43 : decode cX7_isRule 43 = .ok (.iload_n 2, 1) := dk_28 (by decide +kernel)
theorem dX7_isRule_44 : decode cX7_isRule 44 = .ok (.invokevirtual 76, 3) := dk_182 (by decide +kernel)
theorem dX7_isRule_47 : decode cX7_isRule 47 = .ok (.ifCond .eq 25, 3) := dk_153 (by decide +kernel)
theorem dX7_isRule_50 : decode cX7_isRule 50 = .ok (.iload_n 3, 1) := dk_29 (by decide +kernel)
theorem dX7_isRule_51 : decode cX7_isRule 51 = .ok (.bipush 15, 2) := dk_16 (by decide +kernel)
theorem dX7_isRule_53 : decode cX7_isRule 53 = .ok (.invokestatic 79, 3) := dk_184 (by decide +kernel)
theorem dX7_isRule_56 : decode cX7_isRule 56 = .ok (.ifCond .eq 16, 3) := dk_153 (by decide +kernel)
theorem dX7_isRule_59 : decode cX7_isRule 59 = .ok (.aload_n 0, 1) := dk_42 (by decide +kernel)
theorem dX7_isRule_60 : decode cX7_isRule 60 = .ok (.iload 4, 2) := dk_21 (by decide +kernel)
theorem dX7_isRule_62 : decode cX7_isRule 62 = .ok (.invokevirtual 76, 3) := dk_182 (by decide +kernel)
theorem dX7_isRule_65 : decode cX7_isRule 65 = .ok (.ifCond .eq 7, 3) := dk_153 (by decide +kernel)
theorem dX7_isRule_68 : decode cX7_isRule 68 = .ok (.iconst 1, 1) := dk_4 (by decide +kernel)
theorem dX7_isRule_69 : decode cX7_isRule 69 = .ok (.goto 4, 3) := dk_167 (by decide +kernel)
theorem dX7_isRule_72 : decode cX7_isRule 72 = .ok (.iconst 0, 1) := dk_3 (by decide +kernel)
theorem dX7_isRule_73 : decode cX7_isRule 73 = .ok (.ireturn, 1) := dk_172 (by decide +kernel)
theorem dX7_isRule_74 : decode cX7_isRule 74 = .ok (.aload_n 0, 1) := dk_42 (by decide +kernel)
theorem dX7_isRule_75 : decode cX7_isRule 75 = .ok (.iload_n 2, 1) := dk_28 (by decide +kernel)
theorem dX7_isRule_76 : decode cX7_isRule 76 = .ok (.invokevirtual 72, 3) := dk_182 (by decide +kernel)
theorem dX7_isRule_79 : decode cX7_isRule 79 = .ok (.ifCond .eq 28, 3) := dk_153 (by decide +kernel)
theorem dX7_isRule_82 : decode cX7_isRule 82 = .ok (.iload_n 3, 1) := dk_29 (by decide +kernel)
theorem dX7_isRule_83 : decode cX7_isRule 83 = .ok (.sipush 200, 3) := dk_17 (by decide +kernel)
theorem dX7_isRule_86 : decode cX7_isRule 86 = .ok (.invokestatic 79, 3) := dk_184 (by decide +kernel)
theorem dX7_isRule_89 : decode cX7_isRule 89 = .ok (.ifCond .eq 18, 3) := dk_153 (by decide +kernel)
theorem dX7_isRule_92 : decode cX7_isRule 92 = .ok (.iload 4, 2) := dk_21 (by decide +kernel)
theorem dX7_isRule_94 : decode cX7_isRule 94 = .ok (.sipush 200, 3) := dk_17 (by decide +kernel)
theorem dX7_isRule_97 : decode cX7_isRule 97 = .ok (.invokestatic 79, 3) := dk_184 (by decide +kernel)
theorem dX7_isRule_100 : decode cX7_isRule 100 = .ok (.ifCond .eq 7, 3) := dk_153 (by decide +kernel)
theorem dX7_isRule_103 : decode cX7_isRule 103 = .ok (.iconst 1, 1) := dk_4 (by decide +kernel)
theorem dX7_isRule_104 : decode cX7_isRule 104 = .ok (.goto 4, 3) := dk_167 (by decide +kernel)
theorem dX7_isRule_107 : decode cX7_isRule 107 = .ok (.iconst 0, 1) := dk_3 (by decide +kernel)
theorem dX7_isRule_108 : decode cX7_isRule 108 = .ok (.ireturn, 1) := dk_172 (by decide +kernel)
theorem dX7_isRule_109 : decode cX7_isRule 109 = .ok (.aload_n 0, 1) := dk_42 (by decide +kernel)
theorem dX7_isRule_110 : decode cX7_isRule 110 = .ok (.iload_n 2, 1) := dk_28 (by decide +kernel)
theorem dX7_isRule_111 : decode cX7_isRule 111 = .ok (.invokevirtual 72, 3) := dk_182 (by decide +kernel)
theorem dX7_isRule_114 : decode cX7_isRule 114 = .ok (.ifCond .eq 29, 3) := dk_153 (by decide +kernel)
theorem dX7_isRule_117 : decode cX7_isRule 117 = .ok (.iload_n 3, 1) := dk_29 (by decide +kernel)
theorem dX7_isRule_118 : decode cX7_isRule 118 = .ok (.sipush 200, 3) := dk_17 (by decide +kernel)
theorem dX7_isRule_121 : decode cX7_isRule 121 = .ok (.invokestatic 79, 3) := dk_184 (by decide +kernel)
theorem dX7_isRule_124 : decode cX7_isRule 124 = .ok (.ifCond .eq 19, 3) := dk_153 (by decide +kernel)
theorem dX7_isRule_127 : decode cX7_isRule 127 = .ok (.iload 4, 2) := dk_21 (by decide +kernel)
theorem dX7_isRule_129 : decode cX7_isRule 129 = .ok (.ifCond .lt 14, 3) := dk_155 (by decide +kernel)
theorem dX7_isRule_132 : decode cX7_isRule 132 = .ok (.iload 4, 2) := dk_21 (by decide +kernel)
theorem dX7_isRule_134 : decode cX7_isRule 134 = .ok (.bipush 16, 2) := dk_16 (by decide +kernel)
theorem dX7_isRule_136 : decode cX7_isRule 136 = .ok (.if_icmp .ge 7, 3) := dk_162 (by decide +kernel)
theorem dX7_isRule_139 : decode cX7_isRule 139 = .ok (.iconst 1, 1) := dk_4 (by decide +kernel)
theorem dX7_isRule_140 : decode cX7_isRule 140 = .ok (.goto 4, 3) := dk_167 (by decide +kernel)
theorem dX7_isRule_143 : decode cX7_isRule 143 = .ok (.iconst 0, 1) := dk_3 (by decide +kernel)
theorem dX7_isRule_144 : decode cX7_isRule 144 = .ok (.ireturn, 1) := dk_172 (by decide +kernel)
theorem dX7_isRule_145 : decode cX7_isRule 145 = .ok (.aload_n 0, 1) := dk_42 (by decide +kernel)
theorem dX7_isRule_146 : decode cX7_isRule 146 = .ok (.iload_n 2, 1) := dk_28 (by decide +kernel)
theorem dX7_isRule_147 : decode cX7_isRule 147 = .ok (.invokevirtual 76, 3) := dk_182 (by decide +kernel)
theorem dX7_isRule_150 : decode cX7_isRule 150 = .ok (.ifCond .eq 20, 3) := dk_153 (by decide +kernel)
theorem dX7_isRule_153 : decode cX7_isRule 153 = .ok (.aload_n 0, 1) := dk_42 (by decide +kernel)
theorem dX7_isRule_154 : decode cX7_isRule 154 = .ok (.iload_n 3, 1) := dk_29 (by decide +kernel)
theorem dX7_isRule_155 : decode cX7_isRule 155 = .ok (.invokevirtual 76, 3) := dk_182 (by decide +kernel)
theorem dX7_isRule_158 : decode cX7_isRule 158 = .ok (.ifCond .eq 12, 3) := dk_153 (by decide +kernel)
theorem dX7_isRule_161 : decode cX7_isRule 161 = .ok (.iload_n 2, 1) := dk_28 (by decide +kernel)
theorem dX7_isRule_162 : decode cX7_isRule 162 = .ok (.iload_n 3, 1) := dk_29 (by decide +kernel)
theorem dX7_isRule_163 : decode cX7_isRule 163 = .ok (.if_icmp .eq 7, 3) := dk_159 (by decide +kernel)
theorem dX7_isRule_166 : decode cX7_isRule 166 = .ok (.iconst 1, 1) := dk_4 (by decide +kernel)
theorem dX7_isRule_167 : decode cX7_isRule 167 = .ok (.goto 4, 3) := dk_167 (by decide +kernel)
theorem dX7_isRule_170 : decode cX7_isRule 170 = .ok (.iconst 0, 1) := dk_3 (by decide +kernel)
theorem dX7_isRule_171 : decode cX7_isRule 171 = .ok (.ireturn, 1) := dk_172 (by decide +kernel)
theorem dX7_isRule_172 : decode cX7_isRule 172 = .ok (.iconst 0, 1) := dk_3 (by decide +kernel)
theorem dX7_isRule_173 : decode cX7_isRule 173 = .ok (.ireturn, 1) := dk_172 (by decide +kernel)
def wsMX7_isRule : List Cond := .code yX7_isRule cX7_isRule 5 (some .boolean) :: ([] ++ (wsV RX7 72 RX7 yX7_isSet wsMX7_isSet) ++ (wsV RX7 76 RX7 yX7_isHolder wsMX7_isHolder) ++ (va_wsS RX7 79 yX7_isWithin wsMX7_isWithin))
theorem gwsMX7_isRule_0 : GoodIn wsMX7_isRule (wsV RX7 72 RX7 yX7_isSet wsMX7_isSet) := goodIn_sub (fun _ h => List.mem_cons_of_mem _ (List.mem_append_left _ (List.mem_append_left _ (List.mem_append_right _ h)))) (gdV (by decide +kernel) gdwsMX7_isSet)
theorem gwsMX7_isRule_1 : GoodIn wsMX7_isRule (wsV RX7 76 RX7 yX7_isHolder wsMX7_isHolder) := goodIn_sub (fun _ h => List.mem_cons_of_mem _ (List.mem_append_left _ (List.mem_append_right _ h))) (gdV (by decide +kernel) gdwsMX7_isHolder)
theorem gwsMX7_isRule_2 : GoodIn wsMX7_isRule (va_wsS RX7 79 yX7_isWithin wsMX7_isWithin) := goodIn_sub (fun _ h => List.mem_cons_of_mem _ (List.mem_append_right _ h)) (gdS (by decide +kernel) gdwsMX7_isWithin)
theorem gdwsMX7_isRule : wsMX7_isRule.all goodWord = true := gdC rfl (gdA (gdA (gdA (by decide +kernel : ([] : List Cond).all goodWord = true) (gdV (by decide +kernel) gdwsMX7_isSet)) (gdV (by decide +kernel) gdwsMX7_isHolder)) (gdS (by decide +kernel) gdwsMX7_isWithin))
set_option maxHeartbeats 4000000 in
set_option maxRecDepth 100000 in
/-- is it a rule -/
theorem m_X7_isRule (l : Launch) (dC : Nat → ClassId) (dI : Nat → Nat → Nat) (hV : Nat → Nat) (aV : Nat → Nat) (kV : Nat → ClassId) (iV_holders : Int32) (iV_rules : Int32) (fV_pairs : Nat → Int32) (fV_domain : Nat → Int32) (fV_kind : Nat → Int32) (fV_a : Nat → Int32) (fV_b : Nat → Int32) (fV_c : Nat → Int32) (fV_rulePairs : Nat → Int32) (fV_lastHolder : Nat → Int32) (fV_now : Nat → Int32) (iV_doneFor : Int32) (iV_changed : Int32) (gV_fore : Nat → Int64) (gV_back : Nat → Int64) (fV_together : Nat → Int32) (fV_member : Nat → Int32) (gV_list : Nat → Int64) (dV_list : Nat) (nV_list : Nat) (iV_listed : Int32) (iV_listDone : Int32) (p1 : Int32) (p2 : Int32) (p3 : Int32) (p4 : Int32) (b_iV_holders : 0 ≤ iV_holders.toInt ∧ iV_holders.toInt ≤ 10) (b_iV_rules : 0 ≤ iV_rules.toInt ∧ iV_rules.toInt ≤ 12) (b_fV_kind : ∀ q : Nat, 0 ≤ (fV_kind q).toInt ∧ (fV_kind q).toInt ≤ 4) (b_iV_changed : 0 ≤ iV_changed.toInt ∧ iV_changed.toInt ≤ 1) (b_fV_member : ∀ q : Nat, (-1) ≤ (fV_member q).toInt ∧ (fV_member q).toInt ≤ 15) (b_nV_list : 0 ≤ nV_list ∧ nV_list ≤ 20000) (b_iV_listed : (-1) ≤ iV_listed.toInt ∧ iV_listed.toInt ≤ 5000) (b_iV_listDone : 0 ≤ iV_listDone.toInt ∧ iV_listDone.toInt ≤ 1) (b_RuV : RuV fV_kind fV_a fV_b fV_c fV_lastHolder) (b_lst : iV_listed.toInt ≤ ((nV_list : Nat) : Int)) (sz : Nat) : Met l yX7_isRule wsMX7_isRule ({ frames := 1, cells := 0, slots := 0, locals := 21 }) (va_Pc [.ref (hV 0), .int p1, .int p2, .int p3, .int p4] (fun U => U.heap.size = sz ∧ va_P (dC, dI) vwCl (WV hV aV kV iV_holders iV_rules fV_pairs fV_domain fV_kind fV_a fV_b fV_c fV_rulePairs fV_lastHolder fV_now iV_doneFor iV_changed gV_fore gV_back fV_together fV_member gV_list dV_list nV_list iV_listed iV_listDone) U.heap ∧ va_K (dC, dI) vwCl (tV kV) U ∧ va_D (fun _ => True) (WV hV aV kV iV_holders iV_rules fV_pairs fV_domain fV_kind fV_a fV_b fV_c fV_rulePairs fV_lastHolder fV_now iV_doneFor iV_changed gV_fore gV_back fV_together fV_member gV_list dV_list nV_list iV_listed iV_listDone))) (va_Qi (fun (r : Int32) (u : Unit) => (0 ≤ r.toInt ∧ r.toInt ≤ 1) ∧ (r.toInt ≠ 0 → (0 ≤ p1.toInt ∧ p1.toInt ≤ 4) ∧ (p1.toInt = 1 → (0 ≤ p2.toInt ∧ p2.toInt ≤ 9) ∧ 0 ≤ p4.toInt ∧ p4.toInt ≤ 9) ∧ (p1.toInt = 4 → (0 ≤ p2.toInt ∧ p2.toInt ≤ 9) ∧ 0 ≤ p3.toInt ∧ p3.toInt ≤ 9)) ∧ ((r.toInt = 1 ∧ RulX p1 p2 p3 p4 iV_holders) ∨ (r.toInt = 0 ∧ ¬ RulX p1 p2 p3 p4 iV_holders))) (fun (u : Unit) t => va_P (dC, dI) vwCl (WV hV aV kV iV_holders iV_rules fV_pairs fV_domain fV_kind fV_a fV_b fV_c fV_rulePairs fV_lastHolder fV_now iV_doneFor iV_changed gV_fore gV_back fV_together fV_member gV_list dV_list nV_list iV_listed iV_listDone) t.heap ∧ va_D (va_A (WV hV aV kV iV_holders iV_rules fV_pairs fV_domain fV_kind fV_a fV_b fV_c fV_rulePairs fV_lastHolder fV_now iV_doneFor iV_changed gV_fore gV_back fV_together fV_member gV_list dV_list nV_list iV_listed iV_listDone) sz) (WV hV aV kV iV_holders iV_rules fV_pairs fV_domain fV_kind fV_a fV_b fV_c fV_rulePairs fV_lastHolder fV_now iV_doneFor iV_changed gV_fore gV_back fV_together fV_member gV_list dV_list nV_list iV_listed iV_listDone)) (va_A (WV hV aV kV iV_holders iV_rules fV_pairs fV_domain fV_kind fV_a fV_b fV_c fV_rulePairs fV_lastHolder fV_now iV_doneFor iV_changed gV_fore gV_back fV_together fV_member gV_list dV_list nV_list iV_listed iV_listDone) sz)) 0 0 (va_A (WV hV aV kV iV_holders iV_rules fV_pairs fV_domain fV_kind fV_a fV_b fV_c fV_rulePairs fV_lastHolder fV_now iV_doneFor iV_changed gV_fore gV_back fV_together fV_member gV_list dV_list nV_list iV_listed iV_listDone) sz) := by
  refine Met.ofW (cc := cX7_isRule) (maxL := 5) (ret := (some .boolean)) (by decide) rfl ?_
  intro p e s m args below meth c s₁ B hml hv
  obtain ⟨rfl, hsz, hP, hK, hD0⟩ := hv
  have hx := B.exec
  have hb := B.bytes
  have hr := B.returns
  have hts := atoms_spec (ws := wsMX7_isRule) B.pre
  have hown : s.vm.findClass RX7 = some m.cls := findClass_of_methodNamed B.named
  have hlocks := B.notSynchronized
  subst hsz
  have hD := hD0.self (sz := s.heap.size)
  generalize hAe : va_A (WV hV aV kV iV_holders iV_rules fV_pairs fV_domain fV_kind fV_a fV_b fV_c fV_rulePairs fV_lastHolder fV_now iV_doneFor iV_changed gV_fore gV_back fV_together fV_member gV_list dV_list nV_list iV_listed iV_listDone) s.heap.size = A at hD ⊢
  have hA : ∀ q : Nat, s.heap.size ≤ q → A q := fun q h => by rw [← hAe]; exact Or.inr h
  have hS : va_S A s.heap s.heap [] := va_S.rf
  have hl := lv_entry ([.ref (hV 0), .int p1, .int p2, .int p3, .int p4]) (n := 5) (Nat.le_of_ble_eq_true rfl)
  rw [lg_entry_eq]
  generalize (lg_sl ([.ref (hV 0), .int p1, .int p2, .int p3, .int p4]) ++ List.replicate (5 - (lg_sl ([.ref (hV 0), .int p1, .int p2, .int p3, .int p4])).length) Slot.unset).toArray = ls at hl ⊢
  have hl : lv_has ls 5 [(0, .ref (hV 0)), (1, .int p1), (2, .int p2), (3, .int p3), (4, .int p4)] := hl
  have h15c : (15 : Int32).toInt = 15 := by decide
  have h200c : (200 : Int32).toInt = 200 := by decide
  refine lv_iload_n hx hb dX7_isRule_0 rfl (lv_at hl 1 rfl) ?_
  by_cases s_1_0 : p1 = 0
  · have ts_1_0 : p1.toInt = 0 := toI_eq s_1_0 rfl (by decide)
    refine lv_tableIn (off := 35) (tgt := 36) hx hb dX7_isRule_1 (by rw [s_1_0]; decide) (by rw [s_1_0]; decide) (by rw [s_1_0]; decide) (by decide) ?_
    refine lv_aload_n hx hb dX7_isRule_36 rfl (lv_at hl 0 rfl) ?_
    refine lv_iload_n hx hb dX7_isRule_37 rfl (lv_at hl 2 rfl) ?_
    have hFc := allFree hD hS hA
    refine va_calli (va_runV (As := [.int p2]) (rest := []) ⟨hx, hb, hml, hown, hts⟩ (m_X7_isSet l dC dI hV aV kV iV_holders iV_rules fV_pairs fV_domain fV_kind fV_a fV_b fV_c fV_rulePairs fV_lastHolder fV_now iV_doneFor iV_changed gV_fore gV_back fV_together fV_member gV_list dV_list nV_list iV_listed iV_listDone p2 (b_iV_holders) (b_iV_rules) b_fV_kind (b_iV_changed) b_fV_member (by first | exact b_nV_list | with_reducible assumption | exact ⟨by omega, by omega⟩ | assumption) (b_iV_listed) (b_iV_listDone) (by first | with_reducible assumption | omega | assumption) (by first | with_reducible assumption | omega | assumption) s.heap.size) (cwV 1 hts gwsMX7_isRule_0 rfl rfl rfl hd_yX7_isSet_RX7 (by decide +kernel)) (fz_pre (va_recv hK hP (ci := 7) (q0 := 0) rfl rfl) hP hK hD) rfl rfl hl.1 rfl (lv_room (Nat.le_of_ble_eq_true rfl)) dX7_isRule_38 (by decide +kernel)) hS (fun q _ h => hFc q h) hFc (fun r1 u t9_ H locs ht hvm hw9 hB9 hz1 hk1 hS => ?_)
    revert hw9
    refine fz_a2 ?_
    intro b_r1 f1_0
    have hP : va_P (dC, dI) vwCl (WV hV aV kV iV_holders iV_rules fV_pairs fV_domain fV_kind fV_a fV_b fV_c fV_rulePairs fV_lastHolder fV_now iV_doneFor iV_changed gV_fore gV_back fV_together fV_member gV_list dV_list nV_list iV_listed iV_listDone) H := fz_P ht hB9.1
    have hD := fz_sd hP (hB9.2.weaken (fun _ q _ h => hFc q.1 h)) rfl
    have hsA := f1_0
    refine W.widen (k := 0) (n := 0) (by decide +kernel) (by decide +kernel) ?_
    exact W.zret (v := r1) hx hb hr (by rcases z01 (x := r1) (by first | exact b_r1 | with_reducible assumption | exact ⟨by omega, by omega⟩ | assumption) with h9 | h9 <;> rw [h9] <;> rfl) (fun t9_ ht hW => ⟨⟨r1, (), rfl, ⟨(by first | exact b_r1 | with_reducible assumption | exact ⟨by omega, by omega⟩ | assumption), (by (try dsimp only); intro h9; first | exact absurd (by decide) h9 | refine ⟨⟨by omega, by omega⟩, fun h8 => ?_, fun h8 => ?_⟩ <;> first | omega | (refine ⟨⟨?_, ?_⟩, ?_, ?_⟩ <;> omega)), (by (try dsimp only); rcases hsA with ⟨h7, h6⟩ | ⟨h7, h6⟩; (exact Or.inl ⟨h7, (show ((p1.toInt = 0 ∧ (0 < p2.toInt ∧ p2.toInt < ((1 : Int32) <<< (iV_holders &&& 31)).toInt)) ∨ (p1.toInt = 1 ∧ (0 ≤ p2.toInt ∧ p2.toInt < iV_holders.toInt) ∧ (0 ≤ p4.toInt ∧ p4.toInt < iV_holders.toInt) ∧ (-15 ≤ p3.toInt ∧ p3.toInt ≤ 15)) ∨ (p1.toInt = 2 ∧ (0 < p2.toInt ∧ p2.toInt < ((1 : Int32) <<< (iV_holders &&& 31)).toInt) ∧ (-200 ≤ p3.toInt ∧ p3.toInt ≤ 200) ∧ (-200 ≤ p4.toInt ∧ p4.toInt ≤ 200)) ∨ (p1.toInt = 3 ∧ (0 < p2.toInt ∧ p2.toInt < ((1 : Int32) <<< (iV_holders &&& 31)).toInt) ∧ (-200 ≤ p3.toInt ∧ p3.toInt ≤ 200) ∧ (0 ≤ p4.toInt ∧ p4.toInt ≤ 15)) ∨ (p1.toInt = 4 ∧ (0 ≤ p2.toInt ∧ p2.toInt < iV_holders.toInt) ∧ (0 ≤ p3.toInt ∧ p3.toInt < iV_holders.toInt) ∧ p2.toInt ≠ p3.toInt)) from Or.inl ⟨by omega, h6⟩)⟩); (exact Or.inr ⟨h7, fun h9 => by have h8 : ((p1.toInt = 0 ∧ (0 < p2.toInt ∧ p2.toInt < ((1 : Int32) <<< (iV_holders &&& 31)).toInt)) ∨ (p1.toInt = 1 ∧ (0 ≤ p2.toInt ∧ p2.toInt < iV_holders.toInt) ∧ (0 ≤ p4.toInt ∧ p4.toInt < iV_holders.toInt) ∧ (-15 ≤ p3.toInt ∧ p3.toInt ≤ 15)) ∨ (p1.toInt = 2 ∧ (0 < p2.toInt ∧ p2.toInt < ((1 : Int32) <<< (iV_holders &&& 31)).toInt) ∧ (-200 ≤ p3.toInt ∧ p3.toInt ≤ 200) ∧ (-200 ≤ p4.toInt ∧ p4.toInt ≤ 200)) ∨ (p1.toInt = 3 ∧ (0 < p2.toInt ∧ p2.toInt < ((1 : Int32) <<< (iV_holders &&& 31)).toInt) ∧ (-200 ≤ p3.toInt ∧ p3.toInt ≤ 200) ∧ (0 ≤ p4.toInt ∧ p4.toInt ≤ 15)) ∨ (p1.toInt = 4 ∧ (0 ≤ p2.toInt ∧ p2.toInt < iV_holders.toInt) ∧ (0 ≤ p3.toInt ∧ p3.toInt < iV_holders.toInt) ∧ p2.toInt ≠ p3.toInt)) := h9; rcases h8 with h8 | h8 | h8 | h8 | h8 <;> omega⟩))⟩, by rw [ht]; exact hP, hD⟩, hS.F ht⟩) hS.2.2 dX7_isRule_41
  · have ts_1_0 : ¬ p1.toInt = 0 := toI_neq s_1_0 rfl (by decide)
    by_cases s_1_1 : p1 = 1
    · have ts_1_1 : p1.toInt = 1 := toI_eq s_1_1 rfl (by decide)
      refine lv_tableIn (off := 41) (tgt := 42) hx hb dX7_isRule_1 (by rw [s_1_1]; decide) (by rw [s_1_1]; decide) (by rw [s_1_1]; decide) (by decide) ?_
      refine lv_aload_n hx hb dX7_isRule_42 rfl (lv_at hl 0 rfl) ?_
      refine lv_iload_n hx hb dX7_isRule_43 rfl (lv_at hl 2 rfl) ?_
      have hFc := allFree hD hS hA
      refine va_calli (va_runV (As := [.int p2]) (rest := []) ⟨hx, hb, hml, hown, hts⟩ (m_X7_isHolder l dC dI hV aV kV iV_holders iV_rules fV_pairs fV_domain fV_kind fV_a fV_b fV_c fV_rulePairs fV_lastHolder fV_now iV_doneFor iV_changed gV_fore gV_back fV_together fV_member gV_list dV_list nV_list iV_listed iV_listDone p2 (b_iV_holders) (b_iV_rules) b_fV_kind (b_iV_changed) b_fV_member (by first | exact b_nV_list | with_reducible assumption | exact ⟨by omega, by omega⟩ | assumption) (b_iV_listed) (b_iV_listDone) (by first | with_reducible assumption | omega | assumption) (by first | with_reducible assumption | omega | assumption) s.heap.size) (cwV 1 hts gwsMX7_isRule_1 rfl rfl rfl hd_yX7_isHolder_RX7 (by decide +kernel)) (fz_pre (va_recv hK hP (ci := 7) (q0 := 0) rfl rfl) hP hK hD) rfl rfl hl.1 rfl (lv_room (Nat.le_of_ble_eq_true rfl)) dX7_isRule_44 (by decide +kernel)) hS (fun q _ h => hFc q h) hFc (fun r2 u t9_ H locs ht hvm hw9 hB9 hz1 hk1 hS => ?_)
      revert hw9
      refine fz_a3 ?_
      intro b_r2 f2_0 f2_1
      have hP : va_P (dC, dI) vwCl (WV hV aV kV iV_holders iV_rules fV_pairs fV_domain fV_kind fV_a fV_b fV_c fV_rulePairs fV_lastHolder fV_now iV_doneFor iV_changed gV_fore gV_back fV_together fV_member gV_list dV_list nV_list iV_listed iV_listDone) H := fz_P ht hB9.1
      have hD := fz_sd hP (hB9.2.weaken (fun _ q _ h => hFc q.1 h)) rfl
      have hhA := f2_1
      refine lv_if_eq (tgt := 72) hx hb dX7_isRule_47 (by decide) (fun c_47 => ?_) (fun c_47 => ?_)
      · have t_47 : r2.toInt = 0 := toI_eq c_47 rfl (by decide : (0 : Int32).toInt = 0)
        refine lv_iconst (v := 0) hx hb dX7_isRule_72 (by decide) ?_
        refine W.widen (k := 0) (n := 0) (by decide +kernel) (by decide +kernel) ?_
        exact W.zret (v := 0) hx hb hr rfl (fun t9_ ht hW => ⟨⟨(0 : Int32), (), rfl, ⟨(show 0 ≤ (0 : Int32).toInt ∧ (0 : Int32).toInt ≤ 1 from by decide), (by (try dsimp only); intro h9; first | exact absurd (by decide) h9 | refine ⟨⟨by omega, by omega⟩, fun h8 => ?_, fun h8 => ?_⟩ <;> first | omega | (refine ⟨⟨?_, ?_⟩, ?_, ?_⟩ <;> omega)), (by (try dsimp only); exact (Or.inr ⟨by decide, fun h9 => by have h8 : ((p1.toInt = 0 ∧ (0 < p2.toInt ∧ p2.toInt < ((1 : Int32) <<< (iV_holders &&& 31)).toInt)) ∨ (p1.toInt = 1 ∧ (0 ≤ p2.toInt ∧ p2.toInt < iV_holders.toInt) ∧ (0 ≤ p4.toInt ∧ p4.toInt < iV_holders.toInt) ∧ (-15 ≤ p3.toInt ∧ p3.toInt ≤ 15)) ∨ (p1.toInt = 2 ∧ (0 < p2.toInt ∧ p2.toInt < ((1 : Int32) <<< (iV_holders &&& 31)).toInt) ∧ (-200 ≤ p3.toInt ∧ p3.toInt ≤ 200) ∧ (-200 ≤ p4.toInt ∧ p4.toInt ≤ 200)) ∨ (p1.toInt = 3 ∧ (0 < p2.toInt ∧ p2.toInt < ((1 : Int32) <<< (iV_holders &&& 31)).toInt) ∧ (-200 ≤ p3.toInt ∧ p3.toInt ≤ 200) ∧ (0 ≤ p4.toInt ∧ p4.toInt ≤ 15)) ∨ (p1.toInt = 4 ∧ (0 ≤ p2.toInt ∧ p2.toInt < iV_holders.toInt) ∧ (0 ≤ p3.toInt ∧ p3.toInt < iV_holders.toInt) ∧ p2.toInt ≠ p3.toInt)) := h9; rcases h8 with h8 | h8 | h8 | h8 | h8 <;> omega⟩))⟩, by rw [ht]; exact hP, hD⟩, hS.F ht⟩) hS.2.2 dX7_isRule_73
      · have t_47 : ¬ r2.toInt = 0 := toI_neq c_47 rfl (by decide : (0 : Int32).toInt = 0)
        refine lv_iload_n hx hb dX7_isRule_50 rfl (lv_at hl 3 rfl) ?_
        refine lv_bipush (v := 15) hx hb dX7_isRule_51 (by decide) ?_
        have hFc := noneFree hS hA
        refine va_calli (va_runS (As := [.int p3, .int 15]) (rest := []) ⟨hx, hb, hml, hown, hts⟩ (m_X7_isWithin l dC dI p3 15 (show 0 ≤ (15 : Int32).toInt ∧ (15 : Int32).toInt ≤ 1000 from by decide) H.size) (va_cwS 2 hts gwsMX7_isRule_2 rfl rfl rfl (by decide +kernel) ⟨by decide +kernel, by decide +kernel⟩) ⟨fun a U g mk q => by obtain ⟨q0, q1, qP, qK, qD⟩ := q; exact ⟨q0, q1, qP, va_K.moved (u := U) (U := U.calling g mk a) (Vm.Alike.refl U.vm) qK, qD⟩, fun U hU9 hW => ⟨rfl, by rw [hU9], by rw [hU9]; exact nilP, va_K.moved hW.alike (hK.sub (tys' := []) [] rfl), nilD⟩⟩ rfl rfl hl.1 rfl (lv_room (Nat.le_of_ble_eq_true rfl)) dX7_isRule_53 (by decide +kernel)) hS (fun q _ h => hFc q h) hFc (fun r3 u t9_ H1 locs ht hvm hw9 hB9 hz1 hk1 hS => ?_)
        revert hw9
        refine fz_a2 ?_
        intro b_r3 f3_0
        clear hB9
        have hP := keepAll hP hk1
        generalize H1 = H at hP hS ⊢
        have hP : va_P (dC, dI) vwCl (WV hV aV kV iV_holders iV_rules fV_pairs fV_domain fV_kind fV_a fV_b fV_c fV_rulePairs fV_lastHolder fV_now iV_doneFor iV_changed gV_fore gV_back fV_together fV_member gV_list dV_list nV_list iV_listed iV_listDone) H := hP
        have hD := fz_sd hP (hD) rfl
        have hwB := f3_0
        refine lv_if_eq (tgt := 72) hx hb dX7_isRule_56 (by decide) (fun c_56 => ?_) (fun c_56 => ?_)
        · have t_56 : r3.toInt = 0 := toI_eq c_56 rfl (by decide : (0 : Int32).toInt = 0)
          refine lv_iconst (v := 0) hx hb dX7_isRule_72 (by decide) ?_
          refine W.widen (k := 0) (n := 0) (by decide +kernel) (by decide +kernel) ?_
          exact W.zret (v := 0) hx hb hr rfl (fun t9_ ht hW => ⟨⟨(0 : Int32), (), rfl, ⟨(show 0 ≤ (0 : Int32).toInt ∧ (0 : Int32).toInt ≤ 1 from by decide), (by (try dsimp only); intro h9; first | exact absurd (by decide) h9 | refine ⟨⟨by omega, by omega⟩, fun h8 => ?_, fun h8 => ?_⟩ <;> first | omega | (refine ⟨⟨?_, ?_⟩, ?_, ?_⟩ <;> omega)), (by (try dsimp only); exact (Or.inr ⟨by decide, fun h9 => by have h8 : ((p1.toInt = 0 ∧ (0 < p2.toInt ∧ p2.toInt < ((1 : Int32) <<< (iV_holders &&& 31)).toInt)) ∨ (p1.toInt = 1 ∧ (0 ≤ p2.toInt ∧ p2.toInt < iV_holders.toInt) ∧ (0 ≤ p4.toInt ∧ p4.toInt < iV_holders.toInt) ∧ (-15 ≤ p3.toInt ∧ p3.toInt ≤ 15)) ∨ (p1.toInt = 2 ∧ (0 < p2.toInt ∧ p2.toInt < ((1 : Int32) <<< (iV_holders &&& 31)).toInt) ∧ (-200 ≤ p3.toInt ∧ p3.toInt ≤ 200) ∧ (-200 ≤ p4.toInt ∧ p4.toInt ≤ 200)) ∨ (p1.toInt = 3 ∧ (0 < p2.toInt ∧ p2.toInt < ((1 : Int32) <<< (iV_holders &&& 31)).toInt) ∧ (-200 ≤ p3.toInt ∧ p3.toInt ≤ 200) ∧ (0 ≤ p4.toInt ∧ p4.toInt ≤ 15)) ∨ (p1.toInt = 4 ∧ (0 ≤ p2.toInt ∧ p2.toInt < iV_holders.toInt) ∧ (0 ≤ p3.toInt ∧ p3.toInt < iV_holders.toInt) ∧ p2.toInt ≠ p3.toInt)) := h9; rcases h8 with h8 | h8 | h8 | h8 | h8 <;> omega⟩))⟩, by rw [ht]; exact hP, hD⟩, hS.F ht⟩) hS.2.2 dX7_isRule_73
        · have t_56 : ¬ r3.toInt = 0 := toI_neq c_56 rfl (by decide : (0 : Int32).toInt = 0)
          refine lv_aload_n hx hb dX7_isRule_59 rfl (lv_at hl 0 rfl) ?_
          refine lv_iload hx hb dX7_isRule_60 (lv_at hl 4 rfl) ?_
          have hFc := allFree hD hS hA
          refine va_calli (va_runV (As := [.int p4]) (rest := []) ⟨hx, hb, hml, hown, hts⟩ (m_X7_isHolder l dC dI hV aV kV iV_holders iV_rules fV_pairs fV_domain fV_kind fV_a fV_b fV_c fV_rulePairs fV_lastHolder fV_now iV_doneFor iV_changed gV_fore gV_back fV_together fV_member gV_list dV_list nV_list iV_listed iV_listDone p4 (b_iV_holders) (b_iV_rules) b_fV_kind (b_iV_changed) b_fV_member (by first | exact b_nV_list | with_reducible assumption | exact ⟨by omega, by omega⟩ | assumption) (b_iV_listed) (b_iV_listDone) (by first | with_reducible assumption | omega | assumption) (by first | with_reducible assumption | omega | assumption) H.size) (cwV 1 hts gwsMX7_isRule_1 rfl rfl rfl hd_yX7_isHolder_RX7 (by decide +kernel)) (fz_pre (va_recv hK hP (ci := 7) (q0 := 0) rfl rfl) hP hK hD) rfl rfl hl.1 rfl (lv_room (Nat.le_of_ble_eq_true rfl)) dX7_isRule_62 (by decide +kernel)) hS (fun q _ h => hFc q h) hFc (fun r4 u t9_ H locs ht hvm hw9 hB9 hz1 hk1 hS => ?_)
          revert hw9
          refine fz_a3 ?_
          intro b_r4 f4_0 f4_1
          have hP : va_P (dC, dI) vwCl (WV hV aV kV iV_holders iV_rules fV_pairs fV_domain fV_kind fV_a fV_b fV_c fV_rulePairs fV_lastHolder fV_now iV_doneFor iV_changed gV_fore gV_back fV_together fV_member gV_list dV_list nV_list iV_listed iV_listDone) H := fz_P ht hB9.1
          have hD := fz_sd hP (hB9.2.weaken (fun _ q _ h => hFc q.1 h)) rfl
          have hhC := f4_1
          refine lv_if_eq (tgt := 72) hx hb dX7_isRule_65 (by decide) (fun c_65 => ?_) (fun c_65 => ?_)
          · have t_65 : r4.toInt = 0 := toI_eq c_65 rfl (by decide : (0 : Int32).toInt = 0)
            refine lv_iconst (v := 0) hx hb dX7_isRule_72 (by decide) ?_
            refine W.widen (k := 0) (n := 0) (by decide +kernel) (by decide +kernel) ?_
            exact W.zret (v := 0) hx hb hr rfl (fun t9_ ht hW => ⟨⟨(0 : Int32), (), rfl, ⟨(show 0 ≤ (0 : Int32).toInt ∧ (0 : Int32).toInt ≤ 1 from by decide), (by (try dsimp only); intro h9; first | exact absurd (by decide) h9 | refine ⟨⟨by omega, by omega⟩, fun h8 => ?_, fun h8 => ?_⟩ <;> first | omega | (refine ⟨⟨?_, ?_⟩, ?_, ?_⟩ <;> omega)), (by (try dsimp only); exact (Or.inr ⟨by decide, fun h9 => by have h8 : ((p1.toInt = 0 ∧ (0 < p2.toInt ∧ p2.toInt < ((1 : Int32) <<< (iV_holders &&& 31)).toInt)) ∨ (p1.toInt = 1 ∧ (0 ≤ p2.toInt ∧ p2.toInt < iV_holders.toInt) ∧ (0 ≤ p4.toInt ∧ p4.toInt < iV_holders.toInt) ∧ (-15 ≤ p3.toInt ∧ p3.toInt ≤ 15)) ∨ (p1.toInt = 2 ∧ (0 < p2.toInt ∧ p2.toInt < ((1 : Int32) <<< (iV_holders &&& 31)).toInt) ∧ (-200 ≤ p3.toInt ∧ p3.toInt ≤ 200) ∧ (-200 ≤ p4.toInt ∧ p4.toInt ≤ 200)) ∨ (p1.toInt = 3 ∧ (0 < p2.toInt ∧ p2.toInt < ((1 : Int32) <<< (iV_holders &&& 31)).toInt) ∧ (-200 ≤ p3.toInt ∧ p3.toInt ≤ 200) ∧ (0 ≤ p4.toInt ∧ p4.toInt ≤ 15)) ∨ (p1.toInt = 4 ∧ (0 ≤ p2.toInt ∧ p2.toInt < iV_holders.toInt) ∧ (0 ≤ p3.toInt ∧ p3.toInt < iV_holders.toInt) ∧ p2.toInt ≠ p3.toInt)) := h9; rcases h8 with h8 | h8 | h8 | h8 | h8 <;> omega⟩))⟩, by rw [ht]; exact hP, hD⟩, hS.F ht⟩) hS.2.2 dX7_isRule_73
          · have t_65 : ¬ r4.toInt = 0 := toI_neq c_65 rfl (by decide : (0 : Int32).toInt = 0)
            refine lv_iconst (v := 1) hx hb dX7_isRule_68 (by decide) ?_
            refine lv_goto (tgt := 73) hx hb dX7_isRule_69 (by decide) ?_
            refine W.widen (k := 0) (n := 0) (by decide +kernel) (by decide +kernel) ?_
            exact W.zret (v := 1) hx hb hr rfl (fun t9_ ht hW => ⟨⟨(1 : Int32), (), rfl, ⟨(show 0 ≤ (1 : Int32).toInt ∧ (1 : Int32).toInt ≤ 1 from by decide), (by (try dsimp only); intro h9; first | exact absurd (by decide) h9 | refine ⟨⟨by omega, by omega⟩, fun h8 => ?_, fun h8 => ?_⟩ <;> first | omega | (refine ⟨⟨?_, ?_⟩, ?_, ?_⟩ <;> omega)), (by (try dsimp only); exact (Or.inl ⟨by decide, (show ((p1.toInt = 0 ∧ (0 < p2.toInt ∧ p2.toInt < ((1 : Int32) <<< (iV_holders &&& 31)).toInt)) ∨ (p1.toInt = 1 ∧ (0 ≤ p2.toInt ∧ p2.toInt < iV_holders.toInt) ∧ (0 ≤ p4.toInt ∧ p4.toInt < iV_holders.toInt) ∧ (-15 ≤ p3.toInt ∧ p3.toInt ≤ 15)) ∨ (p1.toInt = 2 ∧ (0 < p2.toInt ∧ p2.toInt < ((1 : Int32) <<< (iV_holders &&& 31)).toInt) ∧ (-200 ≤ p3.toInt ∧ p3.toInt ≤ 200) ∧ (-200 ≤ p4.toInt ∧ p4.toInt ≤ 200)) ∨ (p1.toInt = 3 ∧ (0 < p2.toInt ∧ p2.toInt < ((1 : Int32) <<< (iV_holders &&& 31)).toInt) ∧ (-200 ≤ p3.toInt ∧ p3.toInt ≤ 200) ∧ (0 ≤ p4.toInt ∧ p4.toInt ≤ 15)) ∨ (p1.toInt = 4 ∧ (0 ≤ p2.toInt ∧ p2.toInt < iV_holders.toInt) ∧ (0 ≤ p3.toInt ∧ p3.toInt < iV_holders.toInt) ∧ p2.toInt ≠ p3.toInt)) from Or.inr (Or.inl ⟨by omega, ⟨by omega, by omega⟩, ⟨by omega, by omega⟩, by omega, by omega⟩))⟩))⟩, by rw [ht]; exact hP, hD⟩, hS.F ht⟩) hS.2.2 dX7_isRule_73
    · have ts_1_1 : ¬ p1.toInt = 1 := toI_neq s_1_1 rfl (by decide)
      by_cases s_1_2 : p1 = 2
      · have ts_1_2 : p1.toInt = 2 := toI_eq s_1_2 rfl (by decide)
        refine lv_tableIn (off := 73) (tgt := 74) hx hb dX7_isRule_1 (by rw [s_1_2]; decide) (by rw [s_1_2]; decide) (by rw [s_1_2]; decide) (by decide) ?_
        refine lv_aload_n hx hb dX7_isRule_74 rfl (lv_at hl 0 rfl) ?_
        refine lv_iload_n hx hb dX7_isRule_75 rfl (lv_at hl 2 rfl) ?_
        have hFc := allFree hD hS hA
        refine va_calli (va_runV (As := [.int p2]) (rest := []) ⟨hx, hb, hml, hown, hts⟩ (m_X7_isSet l dC dI hV aV kV iV_holders iV_rules fV_pairs fV_domain fV_kind fV_a fV_b fV_c fV_rulePairs fV_lastHolder fV_now iV_doneFor iV_changed gV_fore gV_back fV_together fV_member gV_list dV_list nV_list iV_listed iV_listDone p2 (b_iV_holders) (b_iV_rules) b_fV_kind (b_iV_changed) b_fV_member (by first | exact b_nV_list | with_reducible assumption | exact ⟨by omega, by omega⟩ | assumption) (b_iV_listed) (b_iV_listDone) (by first | with_reducible assumption | omega | assumption) (by first | with_reducible assumption | omega | assumption) s.heap.size) (cwV 1 hts gwsMX7_isRule_0 rfl rfl rfl hd_yX7_isSet_RX7 (by decide +kernel)) (fz_pre (va_recv hK hP (ci := 7) (q0 := 0) rfl rfl) hP hK hD) rfl rfl hl.1 rfl (lv_room (Nat.le_of_ble_eq_true rfl)) dX7_isRule_76 (by decide +kernel)) hS (fun q _ h => hFc q h) hFc (fun r5 u t9_ H locs ht hvm hw9 hB9 hz1 hk1 hS => ?_)
        revert hw9
        refine fz_a2 ?_
        intro b_r5 f5_0
        have hP : va_P (dC, dI) vwCl (WV hV aV kV iV_holders iV_rules fV_pairs fV_domain fV_kind fV_a fV_b fV_c fV_rulePairs fV_lastHolder fV_now iV_doneFor iV_changed gV_fore gV_back fV_together fV_member gV_list dV_list nV_list iV_listed iV_listDone) H := fz_P ht hB9.1
        have hD := fz_sd hP (hB9.2.weaken (fun _ q _ h => hFc q.1 h)) rfl
        have hsA := f5_0
        refine lv_if_eq (tgt := 107) hx hb dX7_isRule_79 (by decide) (fun c_79 => ?_) (fun c_79 => ?_)
        · have t_79 : r5.toInt = 0 := toI_eq c_79 rfl (by decide : (0 : Int32).toInt = 0)
          refine lv_iconst (v := 0) hx hb dX7_isRule_107 (by decide) ?_
          refine W.widen (k := 0) (n := 0) (by decide +kernel) (by decide +kernel) ?_
          exact W.zret (v := 0) hx hb hr rfl (fun t9_ ht hW => ⟨⟨(0 : Int32), (), rfl, ⟨(show 0 ≤ (0 : Int32).toInt ∧ (0 : Int32).toInt ≤ 1 from by decide), (by (try dsimp only); intro h9; first | exact absurd (by decide) h9 | refine ⟨⟨by omega, by omega⟩, fun h8 => ?_, fun h8 => ?_⟩ <;> first | omega | (refine ⟨⟨?_, ?_⟩, ?_, ?_⟩ <;> omega)), (by (try dsimp only); exact (Or.inr ⟨by decide, fun h9 => by have h8 : ((p1.toInt = 0 ∧ (0 < p2.toInt ∧ p2.toInt < ((1 : Int32) <<< (iV_holders &&& 31)).toInt)) ∨ (p1.toInt = 1 ∧ (0 ≤ p2.toInt ∧ p2.toInt < iV_holders.toInt) ∧ (0 ≤ p4.toInt ∧ p4.toInt < iV_holders.toInt) ∧ (-15 ≤ p3.toInt ∧ p3.toInt ≤ 15)) ∨ (p1.toInt = 2 ∧ (0 < p2.toInt ∧ p2.toInt < ((1 : Int32) <<< (iV_holders &&& 31)).toInt) ∧ (-200 ≤ p3.toInt ∧ p3.toInt ≤ 200) ∧ (-200 ≤ p4.toInt ∧ p4.toInt ≤ 200)) ∨ (p1.toInt = 3 ∧ (0 < p2.toInt ∧ p2.toInt < ((1 : Int32) <<< (iV_holders &&& 31)).toInt) ∧ (-200 ≤ p3.toInt ∧ p3.toInt ≤ 200) ∧ (0 ≤ p4.toInt ∧ p4.toInt ≤ 15)) ∨ (p1.toInt = 4 ∧ (0 ≤ p2.toInt ∧ p2.toInt < iV_holders.toInt) ∧ (0 ≤ p3.toInt ∧ p3.toInt < iV_holders.toInt) ∧ p2.toInt ≠ p3.toInt)) := h9; rcases h8 with h8 | h8 | h8 | h8 | h8 <;> omega⟩))⟩, by rw [ht]; exact hP, hD⟩, hS.F ht⟩) hS.2.2 dX7_isRule_108
        · have t_79 : ¬ r5.toInt = 0 := toI_neq c_79 rfl (by decide : (0 : Int32).toInt = 0)
          refine lv_iload_n hx hb dX7_isRule_82 rfl (lv_at hl 3 rfl) ?_
          refine lv_sipush (v := 200) hx hb dX7_isRule_83 (by decide) ?_
          have hFc := noneFree hS hA
          refine va_calli (va_runS (As := [.int p3, .int 200]) (rest := []) ⟨hx, hb, hml, hown, hts⟩ (m_X7_isWithin l dC dI p3 200 (show 0 ≤ (200 : Int32).toInt ∧ (200 : Int32).toInt ≤ 1000 from by decide) H.size) (va_cwS 2 hts gwsMX7_isRule_2 rfl rfl rfl (by decide +kernel) ⟨by decide +kernel, by decide +kernel⟩) ⟨fun a U g mk q => by obtain ⟨q0, q1, qP, qK, qD⟩ := q; exact ⟨q0, q1, qP, va_K.moved (u := U) (U := U.calling g mk a) (Vm.Alike.refl U.vm) qK, qD⟩, fun U hU9 hW => ⟨rfl, by rw [hU9], by rw [hU9]; exact nilP, va_K.moved hW.alike (hK.sub (tys' := []) [] rfl), nilD⟩⟩ rfl rfl hl.1 rfl (lv_room (Nat.le_of_ble_eq_true rfl)) dX7_isRule_86 (by decide +kernel)) hS (fun q _ h => hFc q h) hFc (fun r6 u t9_ H1 locs ht hvm hw9 hB9 hz1 hk1 hS => ?_)
          revert hw9
          refine fz_a2 ?_
          intro b_r6 f6_0
          clear hB9
          have hP := keepAll hP hk1
          generalize H1 = H at hP hS ⊢
          have hP : va_P (dC, dI) vwCl (WV hV aV kV iV_holders iV_rules fV_pairs fV_domain fV_kind fV_a fV_b fV_c fV_rulePairs fV_lastHolder fV_now iV_doneFor iV_changed gV_fore gV_back fV_together fV_member gV_list dV_list nV_list iV_listed iV_listDone) H := hP
          have hD := fz_sd hP (hD) rfl
          have hwB := f6_0
          refine lv_if_eq (tgt := 107) hx hb dX7_isRule_89 (by decide) (fun c_89 => ?_) (fun c_89 => ?_)
          · have t_89 : r6.toInt = 0 := toI_eq c_89 rfl (by decide : (0 : Int32).toInt = 0)
            refine lv_iconst (v := 0) hx hb dX7_isRule_107 (by decide) ?_
            refine W.widen (k := 0) (n := 0) (by decide +kernel) (by decide +kernel) ?_
            exact W.zret (v := 0) hx hb hr rfl (fun t9_ ht hW => ⟨⟨(0 : Int32), (), rfl, ⟨(show 0 ≤ (0 : Int32).toInt ∧ (0 : Int32).toInt ≤ 1 from by decide), (by (try dsimp only); intro h9; first | exact absurd (by decide) h9 | refine ⟨⟨by omega, by omega⟩, fun h8 => ?_, fun h8 => ?_⟩ <;> first | omega | (refine ⟨⟨?_, ?_⟩, ?_, ?_⟩ <;> omega)), (by (try dsimp only); exact (Or.inr ⟨by decide, fun h9 => by have h8 : ((p1.toInt = 0 ∧ (0 < p2.toInt ∧ p2.toInt < ((1 : Int32) <<< (iV_holders &&& 31)).toInt)) ∨ (p1.toInt = 1 ∧ (0 ≤ p2.toInt ∧ p2.toInt < iV_holders.toInt) ∧ (0 ≤ p4.toInt ∧ p4.toInt < iV_holders.toInt) ∧ (-15 ≤ p3.toInt ∧ p3.toInt ≤ 15)) ∨ (p1.toInt = 2 ∧ (0 < p2.toInt ∧ p2.toInt < ((1 : Int32) <<< (iV_holders &&& 31)).toInt) ∧ (-200 ≤ p3.toInt ∧ p3.toInt ≤ 200) ∧ (-200 ≤ p4.toInt ∧ p4.toInt ≤ 200)) ∨ (p1.toInt = 3 ∧ (0 < p2.toInt ∧ p2.toInt < ((1 : Int32) <<< (iV_holders &&& 31)).toInt) ∧ (-200 ≤ p3.toInt ∧ p3.toInt ≤ 200) ∧ (0 ≤ p4.toInt ∧ p4.toInt ≤ 15)) ∨ (p1.toInt = 4 ∧ (0 ≤ p2.toInt ∧ p2.toInt < iV_holders.toInt) ∧ (0 ≤ p3.toInt ∧ p3.toInt < iV_holders.toInt) ∧ p2.toInt ≠ p3.toInt)) := h9; rcases h8 with h8 | h8 | h8 | h8 | h8 <;> omega⟩))⟩, by rw [ht]; exact hP, hD⟩, hS.F ht⟩) hS.2.2 dX7_isRule_108
          · have t_89 : ¬ r6.toInt = 0 := toI_neq c_89 rfl (by decide : (0 : Int32).toInt = 0)
            refine lv_iload hx hb dX7_isRule_92 (lv_at hl 4 rfl) ?_
            refine lv_sipush (v := 200) hx hb dX7_isRule_94 (by decide) ?_
            have hFc := noneFree hS hA
            refine va_calli (va_runS (As := [.int p4, .int 200]) (rest := []) ⟨hx, hb, hml, hown, hts⟩ (m_X7_isWithin l dC dI p4 200 (show 0 ≤ (200 : Int32).toInt ∧ (200 : Int32).toInt ≤ 1000 from by decide) H.size) (va_cwS 2 hts gwsMX7_isRule_2 rfl rfl rfl (by decide +kernel) ⟨by decide +kernel, by decide +kernel⟩) ⟨fun a U g mk q => by obtain ⟨q0, q1, qP, qK, qD⟩ := q; exact ⟨q0, q1, qP, va_K.moved (u := U) (U := U.calling g mk a) (Vm.Alike.refl U.vm) qK, qD⟩, fun U hU9 hW => ⟨rfl, by rw [hU9], by rw [hU9]; exact nilP, va_K.moved hW.alike (hK.sub (tys' := []) [] rfl), nilD⟩⟩ rfl rfl hl.1 rfl (lv_room (Nat.le_of_ble_eq_true rfl)) dX7_isRule_97 (by decide +kernel)) hS (fun q _ h => hFc q h) hFc (fun r7 u t9_ H1 locs ht hvm hw9 hB9 hz1 hk1 hS => ?_)
            revert hw9
            refine fz_a2 ?_
            intro b_r7 f7_0
            clear hB9
            have hP := keepAll hP hk1
            generalize H1 = H at hP hS ⊢
            have hP : va_P (dC, dI) vwCl (WV hV aV kV iV_holders iV_rules fV_pairs fV_domain fV_kind fV_a fV_b fV_c fV_rulePairs fV_lastHolder fV_now iV_doneFor iV_changed gV_fore gV_back fV_together fV_member gV_list dV_list nV_list iV_listed iV_listDone) H := hP
            have hD := fz_sd hP (hD) rfl
            have hwC := f7_0
            refine lv_if_eq (tgt := 107) hx hb dX7_isRule_100 (by decide) (fun c_100 => ?_) (fun c_100 => ?_)
            · have t_100 : r7.toInt = 0 := toI_eq c_100 rfl (by decide : (0 : Int32).toInt = 0)
              refine lv_iconst (v := 0) hx hb dX7_isRule_107 (by decide) ?_
              refine W.widen (k := 0) (n := 0) (by decide +kernel) (by decide +kernel) ?_
              exact W.zret (v := 0) hx hb hr rfl (fun t9_ ht hW => ⟨⟨(0 : Int32), (), rfl, ⟨(show 0 ≤ (0 : Int32).toInt ∧ (0 : Int32).toInt ≤ 1 from by decide), (by (try dsimp only); intro h9; first | exact absurd (by decide) h9 | refine ⟨⟨by omega, by omega⟩, fun h8 => ?_, fun h8 => ?_⟩ <;> first | omega | (refine ⟨⟨?_, ?_⟩, ?_, ?_⟩ <;> omega)), (by (try dsimp only); exact (Or.inr ⟨by decide, fun h9 => by have h8 : ((p1.toInt = 0 ∧ (0 < p2.toInt ∧ p2.toInt < ((1 : Int32) <<< (iV_holders &&& 31)).toInt)) ∨ (p1.toInt = 1 ∧ (0 ≤ p2.toInt ∧ p2.toInt < iV_holders.toInt) ∧ (0 ≤ p4.toInt ∧ p4.toInt < iV_holders.toInt) ∧ (-15 ≤ p3.toInt ∧ p3.toInt ≤ 15)) ∨ (p1.toInt = 2 ∧ (0 < p2.toInt ∧ p2.toInt < ((1 : Int32) <<< (iV_holders &&& 31)).toInt) ∧ (-200 ≤ p3.toInt ∧ p3.toInt ≤ 200) ∧ (-200 ≤ p4.toInt ∧ p4.toInt ≤ 200)) ∨ (p1.toInt = 3 ∧ (0 < p2.toInt ∧ p2.toInt < ((1 : Int32) <<< (iV_holders &&& 31)).toInt) ∧ (-200 ≤ p3.toInt ∧ p3.toInt ≤ 200) ∧ (0 ≤ p4.toInt ∧ p4.toInt ≤ 15)) ∨ (p1.toInt = 4 ∧ (0 ≤ p2.toInt ∧ p2.toInt < iV_holders.toInt) ∧ (0 ≤ p3.toInt ∧ p3.toInt < iV_holders.toInt) ∧ p2.toInt ≠ p3.toInt)) := h9; rcases h8 with h8 | h8 | h8 | h8 | h8 <;> omega⟩))⟩, by rw [ht]; exact hP, hD⟩, hS.F ht⟩) hS.2.2 dX7_isRule_108
            · have t_100 : ¬ r7.toInt = 0 := toI_neq c_100 rfl (by decide : (0 : Int32).toInt = 0)
              refine lv_iconst (v := 1) hx hb dX7_isRule_103 (by decide) ?_
              refine lv_goto (tgt := 108) hx hb dX7_isRule_104 (by decide) ?_
              refine W.widen (k := 0) (n := 0) (by decide +kernel) (by decide +kernel) ?_
              exact W.zret (v := 1) hx hb hr rfl (fun t9_ ht hW => ⟨⟨(1 : Int32), (), rfl, ⟨(show 0 ≤ (1 : Int32).toInt ∧ (1 : Int32).toInt ≤ 1 from by decide), (by (try dsimp only); intro h9; first | exact absurd (by decide) h9 | refine ⟨⟨by omega, by omega⟩, fun h8 => ?_, fun h8 => ?_⟩ <;> first | omega | (refine ⟨⟨?_, ?_⟩, ?_, ?_⟩ <;> omega)), (by (try dsimp only); exact (Or.inl ⟨by decide, (show ((p1.toInt = 0 ∧ (0 < p2.toInt ∧ p2.toInt < ((1 : Int32) <<< (iV_holders &&& 31)).toInt)) ∨ (p1.toInt = 1 ∧ (0 ≤ p2.toInt ∧ p2.toInt < iV_holders.toInt) ∧ (0 ≤ p4.toInt ∧ p4.toInt < iV_holders.toInt) ∧ (-15 ≤ p3.toInt ∧ p3.toInt ≤ 15)) ∨ (p1.toInt = 2 ∧ (0 < p2.toInt ∧ p2.toInt < ((1 : Int32) <<< (iV_holders &&& 31)).toInt) ∧ (-200 ≤ p3.toInt ∧ p3.toInt ≤ 200) ∧ (-200 ≤ p4.toInt ∧ p4.toInt ≤ 200)) ∨ (p1.toInt = 3 ∧ (0 < p2.toInt ∧ p2.toInt < ((1 : Int32) <<< (iV_holders &&& 31)).toInt) ∧ (-200 ≤ p3.toInt ∧ p3.toInt ≤ 200) ∧ (0 ≤ p4.toInt ∧ p4.toInt ≤ 15)) ∨ (p1.toInt = 4 ∧ (0 ≤ p2.toInt ∧ p2.toInt < iV_holders.toInt) ∧ (0 ≤ p3.toInt ∧ p3.toInt < iV_holders.toInt) ∧ p2.toInt ≠ p3.toInt)) from Or.inr (Or.inr (Or.inl ⟨by omega, ⟨by omega, by omega⟩, ⟨by omega, by omega⟩, by omega, by omega⟩)))⟩))⟩, by rw [ht]; exact hP, hD⟩, hS.F ht⟩) hS.2.2 dX7_isRule_108
      · have ts_1_2 : ¬ p1.toInt = 2 := toI_neq s_1_2 rfl (by decide)
        by_cases s_1_3 : p1 = 3
        · have ts_1_3 : p1.toInt = 3 := toI_eq s_1_3 rfl (by decide)
          refine lv_tableIn (off := 108) (tgt := 109) hx hb dX7_isRule_1 (by rw [s_1_3]; decide) (by rw [s_1_3]; decide) (by rw [s_1_3]; decide) (by decide) ?_
          refine lv_aload_n hx hb dX7_isRule_109 rfl (lv_at hl 0 rfl) ?_
          refine lv_iload_n hx hb dX7_isRule_110 rfl (lv_at hl 2 rfl) ?_
          have hFc := allFree hD hS hA
          refine va_calli (va_runV (As := [.int p2]) (rest := []) ⟨hx, hb, hml, hown, hts⟩ (m_X7_isSet l dC dI hV aV kV iV_holders iV_rules fV_pairs fV_domain fV_kind fV_a fV_b fV_c fV_rulePairs fV_lastHolder fV_now iV_doneFor iV_changed gV_fore gV_back fV_together fV_member gV_list dV_list nV_list iV_listed iV_listDone p2 (b_iV_holders) (b_iV_rules) b_fV_kind (b_iV_changed) b_fV_member (by first | exact b_nV_list | with_reducible assumption | exact ⟨by omega, by omega⟩ | assumption) (b_iV_listed) (b_iV_listDone) (by first | with_reducible assumption | omega | assumption) (by first | with_reducible assumption | omega | assumption) s.heap.size) (cwV 1 hts gwsMX7_isRule_0 rfl rfl rfl hd_yX7_isSet_RX7 (by decide +kernel)) (fz_pre (va_recv hK hP (ci := 7) (q0 := 0) rfl rfl) hP hK hD) rfl rfl hl.1 rfl (lv_room (Nat.le_of_ble_eq_true rfl)) dX7_isRule_111 (by decide +kernel)) hS (fun q _ h => hFc q h) hFc (fun r8 u t9_ H locs ht hvm hw9 hB9 hz1 hk1 hS => ?_)
          revert hw9
          refine fz_a2 ?_
          intro b_r8 f8_0
          have hP : va_P (dC, dI) vwCl (WV hV aV kV iV_holders iV_rules fV_pairs fV_domain fV_kind fV_a fV_b fV_c fV_rulePairs fV_lastHolder fV_now iV_doneFor iV_changed gV_fore gV_back fV_together fV_member gV_list dV_list nV_list iV_listed iV_listDone) H := fz_P ht hB9.1
          have hD := fz_sd hP (hB9.2.weaken (fun _ q _ h => hFc q.1 h)) rfl
          have hsA := f8_0
          refine lv_if_eq (tgt := 143) hx hb dX7_isRule_114 (by decide) (fun c_114 => ?_) (fun c_114 => ?_)
          · have t_114 : r8.toInt = 0 := toI_eq c_114 rfl (by decide : (0 : Int32).toInt = 0)
            refine lv_iconst (v := 0) hx hb dX7_isRule_143 (by decide) ?_
            refine W.widen (k := 0) (n := 0) (by decide +kernel) (by decide +kernel) ?_
            exact W.zret (v := 0) hx hb hr rfl (fun t9_ ht hW => ⟨⟨(0 : Int32), (), rfl, ⟨(show 0 ≤ (0 : Int32).toInt ∧ (0 : Int32).toInt ≤ 1 from by decide), (by (try dsimp only); intro h9; first | exact absurd (by decide) h9 | refine ⟨⟨by omega, by omega⟩, fun h8 => ?_, fun h8 => ?_⟩ <;> first | omega | (refine ⟨⟨?_, ?_⟩, ?_, ?_⟩ <;> omega)), (by (try dsimp only); exact (Or.inr ⟨by decide, fun h9 => by have h8 : ((p1.toInt = 0 ∧ (0 < p2.toInt ∧ p2.toInt < ((1 : Int32) <<< (iV_holders &&& 31)).toInt)) ∨ (p1.toInt = 1 ∧ (0 ≤ p2.toInt ∧ p2.toInt < iV_holders.toInt) ∧ (0 ≤ p4.toInt ∧ p4.toInt < iV_holders.toInt) ∧ (-15 ≤ p3.toInt ∧ p3.toInt ≤ 15)) ∨ (p1.toInt = 2 ∧ (0 < p2.toInt ∧ p2.toInt < ((1 : Int32) <<< (iV_holders &&& 31)).toInt) ∧ (-200 ≤ p3.toInt ∧ p3.toInt ≤ 200) ∧ (-200 ≤ p4.toInt ∧ p4.toInt ≤ 200)) ∨ (p1.toInt = 3 ∧ (0 < p2.toInt ∧ p2.toInt < ((1 : Int32) <<< (iV_holders &&& 31)).toInt) ∧ (-200 ≤ p3.toInt ∧ p3.toInt ≤ 200) ∧ (0 ≤ p4.toInt ∧ p4.toInt ≤ 15)) ∨ (p1.toInt = 4 ∧ (0 ≤ p2.toInt ∧ p2.toInt < iV_holders.toInt) ∧ (0 ≤ p3.toInt ∧ p3.toInt < iV_holders.toInt) ∧ p2.toInt ≠ p3.toInt)) := h9; rcases h8 with h8 | h8 | h8 | h8 | h8 <;> omega⟩))⟩, by rw [ht]; exact hP, hD⟩, hS.F ht⟩) hS.2.2 dX7_isRule_144
          · have t_114 : ¬ r8.toInt = 0 := toI_neq c_114 rfl (by decide : (0 : Int32).toInt = 0)
            refine lv_iload_n hx hb dX7_isRule_117 rfl (lv_at hl 3 rfl) ?_
            refine lv_sipush (v := 200) hx hb dX7_isRule_118 (by decide) ?_
            have hFc := noneFree hS hA
            refine va_calli (va_runS (As := [.int p3, .int 200]) (rest := []) ⟨hx, hb, hml, hown, hts⟩ (m_X7_isWithin l dC dI p3 200 (show 0 ≤ (200 : Int32).toInt ∧ (200 : Int32).toInt ≤ 1000 from by decide) H.size) (va_cwS 2 hts gwsMX7_isRule_2 rfl rfl rfl (by decide +kernel) ⟨by decide +kernel, by decide +kernel⟩) ⟨fun a U g mk q => by obtain ⟨q0, q1, qP, qK, qD⟩ := q; exact ⟨q0, q1, qP, va_K.moved (u := U) (U := U.calling g mk a) (Vm.Alike.refl U.vm) qK, qD⟩, fun U hU9 hW => ⟨rfl, by rw [hU9], by rw [hU9]; exact nilP, va_K.moved hW.alike (hK.sub (tys' := []) [] rfl), nilD⟩⟩ rfl rfl hl.1 rfl (lv_room (Nat.le_of_ble_eq_true rfl)) dX7_isRule_121 (by decide +kernel)) hS (fun q _ h => hFc q h) hFc (fun r9 u t9_ H1 locs ht hvm hw9 hB9 hz1 hk1 hS => ?_)
            revert hw9
            refine fz_a2 ?_
            intro b_r9 f9_0
            clear hB9
            have hP := keepAll hP hk1
            generalize H1 = H at hP hS ⊢
            have hP : va_P (dC, dI) vwCl (WV hV aV kV iV_holders iV_rules fV_pairs fV_domain fV_kind fV_a fV_b fV_c fV_rulePairs fV_lastHolder fV_now iV_doneFor iV_changed gV_fore gV_back fV_together fV_member gV_list dV_list nV_list iV_listed iV_listDone) H := hP
            have hD := fz_sd hP (hD) rfl
            have hwB := f9_0
            refine lv_if_eq (tgt := 143) hx hb dX7_isRule_124 (by decide) (fun c_124 => ?_) (fun c_124 => ?_)
            · have t_124 : r9.toInt = 0 := toI_eq c_124 rfl (by decide : (0 : Int32).toInt = 0)
              refine lv_iconst (v := 0) hx hb dX7_isRule_143 (by decide) ?_
              refine W.widen (k := 0) (n := 0) (by decide +kernel) (by decide +kernel) ?_
              exact W.zret (v := 0) hx hb hr rfl (fun t9_ ht hW => ⟨⟨(0 : Int32), (), rfl, ⟨(show 0 ≤ (0 : Int32).toInt ∧ (0 : Int32).toInt ≤ 1 from by decide), (by (try dsimp only); intro h9; first | exact absurd (by decide) h9 | refine ⟨⟨by omega, by omega⟩, fun h8 => ?_, fun h8 => ?_⟩ <;> first | omega | (refine ⟨⟨?_, ?_⟩, ?_, ?_⟩ <;> omega)), (by (try dsimp only); exact (Or.inr ⟨by decide, fun h9 => by have h8 : ((p1.toInt = 0 ∧ (0 < p2.toInt ∧ p2.toInt < ((1 : Int32) <<< (iV_holders &&& 31)).toInt)) ∨ (p1.toInt = 1 ∧ (0 ≤ p2.toInt ∧ p2.toInt < iV_holders.toInt) ∧ (0 ≤ p4.toInt ∧ p4.toInt < iV_holders.toInt) ∧ (-15 ≤ p3.toInt ∧ p3.toInt ≤ 15)) ∨ (p1.toInt = 2 ∧ (0 < p2.toInt ∧ p2.toInt < ((1 : Int32) <<< (iV_holders &&& 31)).toInt) ∧ (-200 ≤ p3.toInt ∧ p3.toInt ≤ 200) ∧ (-200 ≤ p4.toInt ∧ p4.toInt ≤ 200)) ∨ (p1.toInt = 3 ∧ (0 < p2.toInt ∧ p2.toInt < ((1 : Int32) <<< (iV_holders &&& 31)).toInt) ∧ (-200 ≤ p3.toInt ∧ p3.toInt ≤ 200) ∧ (0 ≤ p4.toInt ∧ p4.toInt ≤ 15)) ∨ (p1.toInt = 4 ∧ (0 ≤ p2.toInt ∧ p2.toInt < iV_holders.toInt) ∧ (0 ≤ p3.toInt ∧ p3.toInt < iV_holders.toInt) ∧ p2.toInt ≠ p3.toInt)) := h9; rcases h8 with h8 | h8 | h8 | h8 | h8 <;> omega⟩))⟩, by rw [ht]; exact hP, hD⟩, hS.F ht⟩) hS.2.2 dX7_isRule_144
            · have t_124 : ¬ r9.toInt = 0 := toI_neq c_124 rfl (by decide : (0 : Int32).toInt = 0)
              refine lv_iload hx hb dX7_isRule_127 (lv_at hl 4 rfl) ?_
              refine lv_if_lt (tgt := 143) hx hb dX7_isRule_129 (by decide) (fun c_129 => ?_) (fun c_129 => ?_)
              · have t_129 : p4.toInt < 0 := toI_lt c_129 rfl (by decide : (0 : Int32).toInt = 0)
                refine lv_iconst (v := 0) hx hb dX7_isRule_143 (by decide) ?_
                refine W.widen (k := 0) (n := 0) (by decide +kernel) (by decide +kernel) ?_
                exact W.zret (v := 0) hx hb hr rfl (fun t9_ ht hW => ⟨⟨(0 : Int32), (), rfl, ⟨(show 0 ≤ (0 : Int32).toInt ∧ (0 : Int32).toInt ≤ 1 from by decide), (by (try dsimp only); intro h9; first | exact absurd (by decide) h9 | refine ⟨⟨by omega, by omega⟩, fun h8 => ?_, fun h8 => ?_⟩ <;> first | omega | (refine ⟨⟨?_, ?_⟩, ?_, ?_⟩ <;> omega)), (by (try dsimp only); exact (Or.inr ⟨by decide, fun h9 => by have h8 : ((p1.toInt = 0 ∧ (0 < p2.toInt ∧ p2.toInt < ((1 : Int32) <<< (iV_holders &&& 31)).toInt)) ∨ (p1.toInt = 1 ∧ (0 ≤ p2.toInt ∧ p2.toInt < iV_holders.toInt) ∧ (0 ≤ p4.toInt ∧ p4.toInt < iV_holders.toInt) ∧ (-15 ≤ p3.toInt ∧ p3.toInt ≤ 15)) ∨ (p1.toInt = 2 ∧ (0 < p2.toInt ∧ p2.toInt < ((1 : Int32) <<< (iV_holders &&& 31)).toInt) ∧ (-200 ≤ p3.toInt ∧ p3.toInt ≤ 200) ∧ (-200 ≤ p4.toInt ∧ p4.toInt ≤ 200)) ∨ (p1.toInt = 3 ∧ (0 < p2.toInt ∧ p2.toInt < ((1 : Int32) <<< (iV_holders &&& 31)).toInt) ∧ (-200 ≤ p3.toInt ∧ p3.toInt ≤ 200) ∧ (0 ≤ p4.toInt ∧ p4.toInt ≤ 15)) ∨ (p1.toInt = 4 ∧ (0 ≤ p2.toInt ∧ p2.toInt < iV_holders.toInt) ∧ (0 ≤ p3.toInt ∧ p3.toInt < iV_holders.toInt) ∧ p2.toInt ≠ p3.toInt)) := h9; rcases h8 with h8 | h8 | h8 | h8 | h8 <;> omega⟩))⟩, by rw [ht]; exact hP, hD⟩, hS.F ht⟩) hS.2.2 dX7_isRule_144
              · have t_129 : ¬ p4.toInt < 0 := toI_nlt c_129 rfl (by decide : (0 : Int32).toInt = 0)
                refine lv_iload hx hb dX7_isRule_132 (lv_at hl 4 rfl) ?_
                refine lv_bipush (v := 16) hx hb dX7_isRule_134 (by decide) ?_
                refine lv_icmp_ge (tgt := 143) hx hb dX7_isRule_136 (by decide) (fun c_136 => ?_) (fun c_136 => ?_)
                · have t_136 : p4.toInt ≥ 16 := toI_ge c_136 rfl (by decide : (16 : Int32).toInt = 16)
                  refine lv_iconst (v := 0) hx hb dX7_isRule_143 (by decide) ?_
                  refine W.widen (k := 0) (n := 0) (by decide +kernel) (by decide +kernel) ?_
                  exact W.zret (v := 0) hx hb hr rfl (fun t9_ ht hW => ⟨⟨(0 : Int32), (), rfl, ⟨(show 0 ≤ (0 : Int32).toInt ∧ (0 : Int32).toInt ≤ 1 from by decide), (by (try dsimp only); intro h9; first | exact absurd (by decide) h9 | refine ⟨⟨by omega, by omega⟩, fun h8 => ?_, fun h8 => ?_⟩ <;> first | omega | (refine ⟨⟨?_, ?_⟩, ?_, ?_⟩ <;> omega)), (by (try dsimp only); exact (Or.inr ⟨by decide, fun h9 => by have h8 : ((p1.toInt = 0 ∧ (0 < p2.toInt ∧ p2.toInt < ((1 : Int32) <<< (iV_holders &&& 31)).toInt)) ∨ (p1.toInt = 1 ∧ (0 ≤ p2.toInt ∧ p2.toInt < iV_holders.toInt) ∧ (0 ≤ p4.toInt ∧ p4.toInt < iV_holders.toInt) ∧ (-15 ≤ p3.toInt ∧ p3.toInt ≤ 15)) ∨ (p1.toInt = 2 ∧ (0 < p2.toInt ∧ p2.toInt < ((1 : Int32) <<< (iV_holders &&& 31)).toInt) ∧ (-200 ≤ p3.toInt ∧ p3.toInt ≤ 200) ∧ (-200 ≤ p4.toInt ∧ p4.toInt ≤ 200)) ∨ (p1.toInt = 3 ∧ (0 < p2.toInt ∧ p2.toInt < ((1 : Int32) <<< (iV_holders &&& 31)).toInt) ∧ (-200 ≤ p3.toInt ∧ p3.toInt ≤ 200) ∧ (0 ≤ p4.toInt ∧ p4.toInt ≤ 15)) ∨ (p1.toInt = 4 ∧ (0 ≤ p2.toInt ∧ p2.toInt < iV_holders.toInt) ∧ (0 ≤ p3.toInt ∧ p3.toInt < iV_holders.toInt) ∧ p2.toInt ≠ p3.toInt)) := h9; rcases h8 with h8 | h8 | h8 | h8 | h8 <;> omega⟩))⟩, by rw [ht]; exact hP, hD⟩, hS.F ht⟩) hS.2.2 dX7_isRule_144
                · have t_136 : ¬ p4.toInt ≥ 16 := toI_nge c_136 rfl (by decide : (16 : Int32).toInt = 16)
                  refine lv_iconst (v := 1) hx hb dX7_isRule_139 (by decide) ?_
                  refine lv_goto (tgt := 144) hx hb dX7_isRule_140 (by decide) ?_
                  refine W.widen (k := 0) (n := 0) (by decide +kernel) (by decide +kernel) ?_
                  exact W.zret (v := 1) hx hb hr rfl (fun t9_ ht hW => ⟨⟨(1 : Int32), (), rfl, ⟨(show 0 ≤ (1 : Int32).toInt ∧ (1 : Int32).toInt ≤ 1 from by decide), (by (try dsimp only); intro h9; first | exact absurd (by decide) h9 | refine ⟨⟨by omega, by omega⟩, fun h8 => ?_, fun h8 => ?_⟩ <;> first | omega | (refine ⟨⟨?_, ?_⟩, ?_, ?_⟩ <;> omega)), (by (try dsimp only); exact (Or.inl ⟨by decide, (show ((p1.toInt = 0 ∧ (0 < p2.toInt ∧ p2.toInt < ((1 : Int32) <<< (iV_holders &&& 31)).toInt)) ∨ (p1.toInt = 1 ∧ (0 ≤ p2.toInt ∧ p2.toInt < iV_holders.toInt) ∧ (0 ≤ p4.toInt ∧ p4.toInt < iV_holders.toInt) ∧ (-15 ≤ p3.toInt ∧ p3.toInt ≤ 15)) ∨ (p1.toInt = 2 ∧ (0 < p2.toInt ∧ p2.toInt < ((1 : Int32) <<< (iV_holders &&& 31)).toInt) ∧ (-200 ≤ p3.toInt ∧ p3.toInt ≤ 200) ∧ (-200 ≤ p4.toInt ∧ p4.toInt ≤ 200)) ∨ (p1.toInt = 3 ∧ (0 < p2.toInt ∧ p2.toInt < ((1 : Int32) <<< (iV_holders &&& 31)).toInt) ∧ (-200 ≤ p3.toInt ∧ p3.toInt ≤ 200) ∧ (0 ≤ p4.toInt ∧ p4.toInt ≤ 15)) ∨ (p1.toInt = 4 ∧ (0 ≤ p2.toInt ∧ p2.toInt < iV_holders.toInt) ∧ (0 ≤ p3.toInt ∧ p3.toInt < iV_holders.toInt) ∧ p2.toInt ≠ p3.toInt)) from Or.inr (Or.inr (Or.inr (Or.inl ⟨by omega, ⟨by omega, by omega⟩, ⟨by omega, by omega⟩, by omega, by omega⟩))))⟩))⟩, by rw [ht]; exact hP, hD⟩, hS.F ht⟩) hS.2.2 dX7_isRule_144
        · have ts_1_3 : ¬ p1.toInt = 3 := toI_neq s_1_3 rfl (by decide)
          by_cases s_1_4 : p1 = 4
          · have ts_1_4 : p1.toInt = 4 := toI_eq s_1_4 rfl (by decide)
            refine lv_tableIn (off := 144) (tgt := 145) hx hb dX7_isRule_1 (by rw [s_1_4]; decide) (by rw [s_1_4]; decide) (by rw [s_1_4]; decide) (by decide) ?_
            refine lv_aload_n hx hb dX7_isRule_145 rfl (lv_at hl 0 rfl) ?_
            refine lv_iload_n hx hb dX7_isRule_146 rfl (lv_at hl 2 rfl) ?_
            have hFc := allFree hD hS hA
            refine va_calli (va_runV (As := [.int p2]) (rest := []) ⟨hx, hb, hml, hown, hts⟩ (m_X7_isHolder l dC dI hV aV kV iV_holders iV_rules fV_pairs fV_domain fV_kind fV_a fV_b fV_c fV_rulePairs fV_lastHolder fV_now iV_doneFor iV_changed gV_fore gV_back fV_together fV_member gV_list dV_list nV_list iV_listed iV_listDone p2 (b_iV_holders) (b_iV_rules) b_fV_kind (b_iV_changed) b_fV_member (by first | exact b_nV_list | with_reducible assumption | exact ⟨by omega, by omega⟩ | assumption) (b_iV_listed) (b_iV_listDone) (by first | with_reducible assumption | omega | assumption) (by first | with_reducible assumption | omega | assumption) s.heap.size) (cwV 1 hts gwsMX7_isRule_1 rfl rfl rfl hd_yX7_isHolder_RX7 (by decide +kernel)) (fz_pre (va_recv hK hP (ci := 7) (q0 := 0) rfl rfl) hP hK hD) rfl rfl hl.1 rfl (lv_room (Nat.le_of_ble_eq_true rfl)) dX7_isRule_147 (by decide +kernel)) hS (fun q _ h => hFc q h) hFc (fun r10 u t9_ H locs ht hvm hw9 hB9 hz1 hk1 hS => ?_)
            revert hw9
            refine fz_a3 ?_
            intro b_r10 f10_0 f10_1
            have hP : va_P (dC, dI) vwCl (WV hV aV kV iV_holders iV_rules fV_pairs fV_domain fV_kind fV_a fV_b fV_c fV_rulePairs fV_lastHolder fV_now iV_doneFor iV_changed gV_fore gV_back fV_together fV_member gV_list dV_list nV_list iV_listed iV_listDone) H := fz_P ht hB9.1
            have hD := fz_sd hP (hB9.2.weaken (fun _ q _ h => hFc q.1 h)) rfl
            have hhA := f10_1
            refine lv_if_eq (tgt := 170) hx hb dX7_isRule_150 (by decide) (fun c_150 => ?_) (fun c_150 => ?_)
            · have t_150 : r10.toInt = 0 := toI_eq c_150 rfl (by decide : (0 : Int32).toInt = 0)
              refine lv_iconst (v := 0) hx hb dX7_isRule_170 (by decide) ?_
              refine W.widen (k := 0) (n := 0) (by decide +kernel) (by decide +kernel) ?_
              exact W.zret (v := 0) hx hb hr rfl (fun t9_ ht hW => ⟨⟨(0 : Int32), (), rfl, ⟨(show 0 ≤ (0 : Int32).toInt ∧ (0 : Int32).toInt ≤ 1 from by decide), (by (try dsimp only); intro h9; first | exact absurd (by decide) h9 | refine ⟨⟨by omega, by omega⟩, fun h8 => ?_, fun h8 => ?_⟩ <;> first | omega | (refine ⟨⟨?_, ?_⟩, ?_, ?_⟩ <;> omega)), (by (try dsimp only); exact (Or.inr ⟨by decide, fun h9 => by have h8 : ((p1.toInt = 0 ∧ (0 < p2.toInt ∧ p2.toInt < ((1 : Int32) <<< (iV_holders &&& 31)).toInt)) ∨ (p1.toInt = 1 ∧ (0 ≤ p2.toInt ∧ p2.toInt < iV_holders.toInt) ∧ (0 ≤ p4.toInt ∧ p4.toInt < iV_holders.toInt) ∧ (-15 ≤ p3.toInt ∧ p3.toInt ≤ 15)) ∨ (p1.toInt = 2 ∧ (0 < p2.toInt ∧ p2.toInt < ((1 : Int32) <<< (iV_holders &&& 31)).toInt) ∧ (-200 ≤ p3.toInt ∧ p3.toInt ≤ 200) ∧ (-200 ≤ p4.toInt ∧ p4.toInt ≤ 200)) ∨ (p1.toInt = 3 ∧ (0 < p2.toInt ∧ p2.toInt < ((1 : Int32) <<< (iV_holders &&& 31)).toInt) ∧ (-200 ≤ p3.toInt ∧ p3.toInt ≤ 200) ∧ (0 ≤ p4.toInt ∧ p4.toInt ≤ 15)) ∨ (p1.toInt = 4 ∧ (0 ≤ p2.toInt ∧ p2.toInt < iV_holders.toInt) ∧ (0 ≤ p3.toInt ∧ p3.toInt < iV_holders.toInt) ∧ p2.toInt ≠ p3.toInt)) := h9; rcases h8 with h8 | h8 | h8 | h8 | h8 <;> omega⟩))⟩, by rw [ht]; exact hP, hD⟩, hS.F ht⟩) hS.2.2 dX7_isRule_171
            · have t_150 : ¬ r10.toInt = 0 := toI_neq c_150 rfl (by decide : (0 : Int32).toInt = 0)
              refine lv_aload_n hx hb dX7_isRule_153 rfl (lv_at hl 0 rfl) ?_
              refine lv_iload_n hx hb dX7_isRule_154 rfl (lv_at hl 3 rfl) ?_
              have hFc := allFree hD hS hA
              refine va_calli (va_runV (As := [.int p3]) (rest := []) ⟨hx, hb, hml, hown, hts⟩ (m_X7_isHolder l dC dI hV aV kV iV_holders iV_rules fV_pairs fV_domain fV_kind fV_a fV_b fV_c fV_rulePairs fV_lastHolder fV_now iV_doneFor iV_changed gV_fore gV_back fV_together fV_member gV_list dV_list nV_list iV_listed iV_listDone p3 (b_iV_holders) (b_iV_rules) b_fV_kind (b_iV_changed) b_fV_member (by first | exact b_nV_list | with_reducible assumption | exact ⟨by omega, by omega⟩ | assumption) (b_iV_listed) (b_iV_listDone) (by first | with_reducible assumption | omega | assumption) (by first | with_reducible assumption | omega | assumption) H.size) (cwV 1 hts gwsMX7_isRule_1 rfl rfl rfl hd_yX7_isHolder_RX7 (by decide +kernel)) (fz_pre (va_recv hK hP (ci := 7) (q0 := 0) rfl rfl) hP hK hD) rfl rfl hl.1 rfl (lv_room (Nat.le_of_ble_eq_true rfl)) dX7_isRule_155 (by decide +kernel)) hS (fun q _ h => hFc q h) hFc (fun r11 u t9_ H locs ht hvm hw9 hB9 hz1 hk1 hS => ?_)
              revert hw9
              refine fz_a3 ?_
              intro b_r11 f11_0 f11_1
              have hP : va_P (dC, dI) vwCl (WV hV aV kV iV_holders iV_rules fV_pairs fV_domain fV_kind fV_a fV_b fV_c fV_rulePairs fV_lastHolder fV_now iV_doneFor iV_changed gV_fore gV_back fV_together fV_member gV_list dV_list nV_list iV_listed iV_listDone) H := fz_P ht hB9.1
              have hD := fz_sd hP (hB9.2.weaken (fun _ q _ h => hFc q.1 h)) rfl
              have hhB := f11_1
              refine lv_if_eq (tgt := 170) hx hb dX7_isRule_158 (by decide) (fun c_158 => ?_) (fun c_158 => ?_)
              · have t_158 : r11.toInt = 0 := toI_eq c_158 rfl (by decide : (0 : Int32).toInt = 0)
                refine lv_iconst (v := 0) hx hb dX7_isRule_170 (by decide) ?_
                refine W.widen (k := 0) (n := 0) (by decide +kernel) (by decide +kernel) ?_
                exact W.zret (v := 0) hx hb hr rfl (fun t9_ ht hW => ⟨⟨(0 : Int32), (), rfl, ⟨(show 0 ≤ (0 : Int32).toInt ∧ (0 : Int32).toInt ≤ 1 from by decide), (by (try dsimp only); intro h9; first | exact absurd (by decide) h9 | refine ⟨⟨by omega, by omega⟩, fun h8 => ?_, fun h8 => ?_⟩ <;> first | omega | (refine ⟨⟨?_, ?_⟩, ?_, ?_⟩ <;> omega)), (by (try dsimp only); exact (Or.inr ⟨by decide, fun h9 => by have h8 : ((p1.toInt = 0 ∧ (0 < p2.toInt ∧ p2.toInt < ((1 : Int32) <<< (iV_holders &&& 31)).toInt)) ∨ (p1.toInt = 1 ∧ (0 ≤ p2.toInt ∧ p2.toInt < iV_holders.toInt) ∧ (0 ≤ p4.toInt ∧ p4.toInt < iV_holders.toInt) ∧ (-15 ≤ p3.toInt ∧ p3.toInt ≤ 15)) ∨ (p1.toInt = 2 ∧ (0 < p2.toInt ∧ p2.toInt < ((1 : Int32) <<< (iV_holders &&& 31)).toInt) ∧ (-200 ≤ p3.toInt ∧ p3.toInt ≤ 200) ∧ (-200 ≤ p4.toInt ∧ p4.toInt ≤ 200)) ∨ (p1.toInt = 3 ∧ (0 < p2.toInt ∧ p2.toInt < ((1 : Int32) <<< (iV_holders &&& 31)).toInt) ∧ (-200 ≤ p3.toInt ∧ p3.toInt ≤ 200) ∧ (0 ≤ p4.toInt ∧ p4.toInt ≤ 15)) ∨ (p1.toInt = 4 ∧ (0 ≤ p2.toInt ∧ p2.toInt < iV_holders.toInt) ∧ (0 ≤ p3.toInt ∧ p3.toInt < iV_holders.toInt) ∧ p2.toInt ≠ p3.toInt)) := h9; rcases h8 with h8 | h8 | h8 | h8 | h8 <;> omega⟩))⟩, by rw [ht]; exact hP, hD⟩, hS.F ht⟩) hS.2.2 dX7_isRule_171
              · have t_158 : ¬ r11.toInt = 0 := toI_neq c_158 rfl (by decide : (0 : Int32).toInt = 0)
                refine lv_iload_n hx hb dX7_isRule_161 rfl (lv_at hl 2 rfl) ?_
                refine lv_iload_n hx hb dX7_isRule_162 rfl (lv_at hl 3 rfl) ?_
                refine lv_icmp_eq (tgt := 170) hx hb dX7_isRule_163 (by decide) (fun c_163 => ?_) (fun c_163 => ?_)
                · have t_163 : p2.toInt = p3.toInt := toI_eq c_163 rfl rfl
                  refine lv_iconst (v := 0) hx hb dX7_isRule_170 (by decide) ?_
                  refine W.widen (k := 0) (n := 0) (by decide +kernel) (by decide +kernel) ?_
                  exact W.zret (v := 0) hx hb hr rfl (fun t9_ ht hW => ⟨⟨(0 : Int32), (), rfl, ⟨(show 0 ≤ (0 : Int32).toInt ∧ (0 : Int32).toInt ≤ 1 from by decide), (by (try dsimp only); intro h9; first | exact absurd (by decide) h9 | refine ⟨⟨by omega, by omega⟩, fun h8 => ?_, fun h8 => ?_⟩ <;> first | omega | (refine ⟨⟨?_, ?_⟩, ?_, ?_⟩ <;> omega)), (by (try dsimp only); exact (Or.inr ⟨by decide, fun h9 => by have h8 : ((p1.toInt = 0 ∧ (0 < p2.toInt ∧ p2.toInt < ((1 : Int32) <<< (iV_holders &&& 31)).toInt)) ∨ (p1.toInt = 1 ∧ (0 ≤ p2.toInt ∧ p2.toInt < iV_holders.toInt) ∧ (0 ≤ p4.toInt ∧ p4.toInt < iV_holders.toInt) ∧ (-15 ≤ p3.toInt ∧ p3.toInt ≤ 15)) ∨ (p1.toInt = 2 ∧ (0 < p2.toInt ∧ p2.toInt < ((1 : Int32) <<< (iV_holders &&& 31)).toInt) ∧ (-200 ≤ p3.toInt ∧ p3.toInt ≤ 200) ∧ (-200 ≤ p4.toInt ∧ p4.toInt ≤ 200)) ∨ (p1.toInt = 3 ∧ (0 < p2.toInt ∧ p2.toInt < ((1 : Int32) <<< (iV_holders &&& 31)).toInt) ∧ (-200 ≤ p3.toInt ∧ p3.toInt ≤ 200) ∧ (0 ≤ p4.toInt ∧ p4.toInt ≤ 15)) ∨ (p1.toInt = 4 ∧ (0 ≤ p2.toInt ∧ p2.toInt < iV_holders.toInt) ∧ (0 ≤ p3.toInt ∧ p3.toInt < iV_holders.toInt) ∧ p2.toInt ≠ p3.toInt)) := h9; rcases h8 with h8 | h8 | h8 | h8 | h8 <;> omega⟩))⟩, by rw [ht]; exact hP, hD⟩, hS.F ht⟩) hS.2.2 dX7_isRule_171
                · have t_163 : ¬ p2.toInt = p3.toInt := toI_neq c_163 rfl rfl
                  refine lv_iconst (v := 1) hx hb dX7_isRule_166 (by decide) ?_
                  refine lv_goto (tgt := 171) hx hb dX7_isRule_167 (by decide) ?_
                  refine W.widen (k := 0) (n := 0) (by decide +kernel) (by decide +kernel) ?_
                  exact W.zret (v := 1) hx hb hr rfl (fun t9_ ht hW => ⟨⟨(1 : Int32), (), rfl, ⟨(show 0 ≤ (1 : Int32).toInt ∧ (1 : Int32).toInt ≤ 1 from by decide), (by (try dsimp only); intro h9; first | exact absurd (by decide) h9 | refine ⟨⟨by omega, by omega⟩, fun h8 => ?_, fun h8 => ?_⟩ <;> first | omega | (refine ⟨⟨?_, ?_⟩, ?_, ?_⟩ <;> omega)), (by (try dsimp only); exact (Or.inl ⟨by decide, (show ((p1.toInt = 0 ∧ (0 < p2.toInt ∧ p2.toInt < ((1 : Int32) <<< (iV_holders &&& 31)).toInt)) ∨ (p1.toInt = 1 ∧ (0 ≤ p2.toInt ∧ p2.toInt < iV_holders.toInt) ∧ (0 ≤ p4.toInt ∧ p4.toInt < iV_holders.toInt) ∧ (-15 ≤ p3.toInt ∧ p3.toInt ≤ 15)) ∨ (p1.toInt = 2 ∧ (0 < p2.toInt ∧ p2.toInt < ((1 : Int32) <<< (iV_holders &&& 31)).toInt) ∧ (-200 ≤ p3.toInt ∧ p3.toInt ≤ 200) ∧ (-200 ≤ p4.toInt ∧ p4.toInt ≤ 200)) ∨ (p1.toInt = 3 ∧ (0 < p2.toInt ∧ p2.toInt < ((1 : Int32) <<< (iV_holders &&& 31)).toInt) ∧ (-200 ≤ p3.toInt ∧ p3.toInt ≤ 200) ∧ (0 ≤ p4.toInt ∧ p4.toInt ≤ 15)) ∨ (p1.toInt = 4 ∧ (0 ≤ p2.toInt ∧ p2.toInt < iV_holders.toInt) ∧ (0 ≤ p3.toInt ∧ p3.toInt < iV_holders.toInt) ∧ p2.toInt ≠ p3.toInt)) from Or.inr (Or.inr (Or.inr (Or.inr ⟨by omega, ⟨by omega, by omega⟩, ⟨by omega, by omega⟩, by omega⟩))))⟩))⟩, by rw [ht]; exact hP, hD⟩, hS.F ht⟩) hS.2.2 dX7_isRule_171
          · have ts_1_4 : ¬ p1.toInt = 4 := toI_neq s_1_4 rfl (by decide)
            refine lv_tableOut (tgt := 172) hx hb dX7_isRule_1 (by have := lv_neT s_1_0 (show Int32.toInt 0 = 0 by decide); have := lv_neT s_1_1 (show Int32.toInt 1 = 1 by decide); have := lv_neT s_1_2 (show Int32.toInt 2 = 2 by decide); have := lv_neT s_1_3 (show Int32.toInt 3 = 3 by decide); have := lv_neT s_1_4 (show Int32.toInt 4 = 4 by decide); omega) (by decide) ?_
            refine lv_iconst (v := 0) hx hb dX7_isRule_172 (by decide) ?_
            refine W.widen (k := 0) (n := 0) (by decide +kernel) (by decide +kernel) ?_
            exact W.zret (v := 0) hx hb hr rfl (fun t9_ ht hW => ⟨⟨(0 : Int32), (), rfl, ⟨(show 0 ≤ (0 : Int32).toInt ∧ (0 : Int32).toInt ≤ 1 from by decide), (by (try dsimp only); intro h9; first | exact absurd (by decide) h9 | refine ⟨⟨by omega, by omega⟩, fun h8 => ?_, fun h8 => ?_⟩ <;> first | omega | (refine ⟨⟨?_, ?_⟩, ?_, ?_⟩ <;> omega)), (by (try dsimp only); exact (Or.inr ⟨by decide, fun h9 => by have h8 : ((p1.toInt = 0 ∧ (0 < p2.toInt ∧ p2.toInt < ((1 : Int32) <<< (iV_holders &&& 31)).toInt)) ∨ (p1.toInt = 1 ∧ (0 ≤ p2.toInt ∧ p2.toInt < iV_holders.toInt) ∧ (0 ≤ p4.toInt ∧ p4.toInt < iV_holders.toInt) ∧ (-15 ≤ p3.toInt ∧ p3.toInt ≤ 15)) ∨ (p1.toInt = 2 ∧ (0 < p2.toInt ∧ p2.toInt < ((1 : Int32) <<< (iV_holders &&& 31)).toInt) ∧ (-200 ≤ p3.toInt ∧ p3.toInt ≤ 200) ∧ (-200 ≤ p4.toInt ∧ p4.toInt ≤ 200)) ∨ (p1.toInt = 3 ∧ (0 < p2.toInt ∧ p2.toInt < ((1 : Int32) <<< (iV_holders &&& 31)).toInt) ∧ (-200 ≤ p3.toInt ∧ p3.toInt ≤ 200) ∧ (0 ≤ p4.toInt ∧ p4.toInt ≤ 15)) ∨ (p1.toInt = 4 ∧ (0 ≤ p2.toInt ∧ p2.toInt < iV_holders.toInt) ∧ (0 ≤ p3.toInt ∧ p3.toInt < iV_holders.toInt) ∧ p2.toInt ≠ p3.toInt)) := h9; rcases h8 with h8 | h8 | h8 | h8 | h8 <;> omega⟩))⟩, by rw [ht]; exact hP, hD⟩, hS.F ht⟩) hS.2.2 dX7_isRule_173
end

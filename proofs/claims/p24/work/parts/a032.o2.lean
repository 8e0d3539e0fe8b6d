theorem dX11_putRatio_0 : decode cX11_putRatio 0 = .ok (.aload_n 0, 1) := dk_42 (by decide +kernel)
theorem dX11_putRatio_1 : decode cX11_putRatio 1 = .ok (.iload_n 1, 1) := dk_27 (by decide +kernel)
theorem dX11_putRatio_2 : decode cX11_putRatio 2 = .ok (.invokevirtual 283, 3) := dk_182 (by decide +kernel)
theorem dX11_putRatio_5 : decode cX11_putRatio 5 = .ok (.iload_n 2, 1) := dk_28 (by decide +kernel)
theorem dX11_putRatio_6 : decode cX11_putRatio 6 = .ok (.iconst 1, 1) := dk_4 (by decide +kernel)
theorem dX11_putRatio_7 : decode cX11_putRatio 7 = .ok (.if_icmp .eq 14, 3) := dk_159 (by decide +kernel)
theorem dX11_putRatio_10 : decode cX11_putRatio 10 = .ok (.aload_n 0, 1) := dk_42 (by decide +kernel)
theorem dX11_putRatio_11 : decode cX11_putRatio 11 = .ok (.bipush 47, 2) := dk_16 (by decide +kernel)
theorem dX11_putRatio_13 : decode cX11_putRatio 13 = .ok (.invokevirtual 242, 3) := dk_182 (by decide +kernel)
theorem dX11_putRatio_16 : decode cX11_putRatio 16 = .ok (.aload_n 0, 1) := dk_42 (by decide +kernel)
theorem dX11_putRatio_17 : decode cX11_putRatio 17 = .ok (.iload_n 2, 1) := dk_28 (by decide +kernel)
theorem dX11_putRatio_18 : decode cX11_putRatio 18 = .ok (.invokevirtual 283, 3) := dk_182 (by decide +kernel)
theorem dX11_putRatio_21 : decode cX11_putRatio 21 = .ok (.return_, 1) := dk_177 (by decide +kernel)
def wsMX11_putRatio : List Cond := .code yX11_putRatio cX11_putRatio 3 none :: ([] ++ (wsV RX11 283 RX11 yX11_putNumber wsMX11_putNumber) ++ (wsV RX11 242 RX11 yX11_put wsMX11_put))
theorem gwsMX11_putRatio_0 : GoodIn wsMX11_putRatio (wsV RX11 283 RX11 yX11_putNumber wsMX11_putNumber) := goodIn_sub (fun _ h => List.mem_cons_of_mem _ (List.mem_append_left _ (List.mem_append_right _ h))) (gdV (by decide +kernel) gdwsMX11_putNumber)
theorem gwsMX11_putRatio_1 : GoodIn wsMX11_putRatio (wsV RX11 242 RX11 yX11_put wsMX11_put) := goodIn_sub (fun _ h => List.mem_cons_of_mem _ (List.mem_append_right _ h)) (gdV (by decide +kernel) gdwsMX11_put)
theorem gdwsMX11_putRatio : wsMX11_putRatio.all goodWord = true := gdC rfl (gdA (gdA (by decide +kernel : ([] : List Cond).all goodWord = true) (gdV (by decide +kernel) gdwsMX11_putNumber)) (gdV (by decide +kernel) gdwsMX11_put))
set_option maxHeartbeats 4000000 in
set_option maxRecDepth 100000 in
/-- a ratio more -/
theorem m_X11_putRatio (l : Launch) (dC : Nat → ClassId) (dI : Nat → Nat → Nat) (hX : Nat → Nat) (aX : Nat → Nat) (kX : Nat → ClassId) (hT : Nat → Nat) (hM : Nat → Nat) (fX_ready : Nat → Int32) (fX_sheet : Nat → Int32) (dX_sheet : Nat) (nX_sheet : Nat) (iX_sheetLength : Int32) (xX_reader : Value) (xX_solver : Value) (xX_prover : Value) (xX_values : Value) (xX_clauses : Value) (xX_nets : Value) (p1 : Int32) (p2 : Int32) (b_fX_sheet : ∀ q : Nat, (-128) ≤ (fX_sheet q).toInt ∧ (fX_sheet q).toInt ≤ 127) (b_nX_sheet : 64 ≤ nX_sheet ∧ nX_sheet ≤ 60000) (b_iX_sheetLength : 0 ≤ iX_sheetLength.toInt ∧ iX_sheetLength.toInt ≤ 30000) (b_shl : iX_sheetLength.toInt ≤ ((nX_sheet : Nat) : Int)) (sz : Nat) : Met l yX11_putRatio wsMX11_putRatio ({ frames := 4, cells := 5626, slots := 420000, locals := 85 }) (va_Pc [.ref (hX 0), .int p1, .int p2] (fun U => U.heap.size = sz ∧ va_P (dC, dI) vwCl (WX hX aX kX hT hM fX_ready fX_sheet dX_sheet nX_sheet iX_sheetLength xX_reader xX_solver xX_prover xX_values xX_clauses xX_nets) U.heap ∧ va_K (dC, dI) vwCl (tX kX) U ∧ va_D (fun _ => True) (WX hX aX kX hT hM fX_ready fX_sheet dX_sheet nX_sheet iX_sheetLength xX_reader xX_solver xX_prover xX_values xX_clauses xX_nets))) (va_Qv (fun (u : (Nat → Int32) × (Nat) × (Nat) × (Int32)) => (∀ q : Nat, (-128) ≤ ((u.1) q).toInt ∧ ((u.1) q).toInt ≤ 127) ∧ (64 ≤ (u.2.2.1) ∧ (u.2.2.1) ≤ 60000) ∧ (0 ≤ (u.2.2.2).toInt ∧ (u.2.2.2).toInt ≤ 30000) ∧ ((u.2.2.2).toInt ≤ (((u.2.2.1) : Nat) : Int)) ∧ (nX_sheet ≤ (u.2.2.1)) ∧ (iX_sheetLength.toInt ≤ (u.2.2.2).toInt)) (fun (u : (Nat → Int32) × (Nat) × (Nat) × (Int32)) t => va_P (dC, dI) vwCl (WX hX aX kX hT hM fX_ready (u.1) (u.2.1) (u.2.2.1) (u.2.2.2) xX_reader xX_solver xX_prover xX_values xX_clauses xX_nets) t.heap ∧ va_D (va_A (WX hX aX kX hT hM fX_ready fX_sheet dX_sheet nX_sheet iX_sheetLength xX_reader xX_solver xX_prover xX_values xX_clauses xX_nets) sz) (WX hX aX kX hT hM fX_ready (u.1) (u.2.1) (u.2.2.1) (u.2.2.2) xX_reader xX_solver xX_prover xX_values xX_clauses xX_nets) ∧ t.heap.size + (nX_sheet / 32) ≤ sz + ((u.2.2.1) / 32) ∧ nS sz t.heap + (2 * nX_sheet) ≤ (2 * (u.2.2.1))) (va_A (WX hX aX kX hT hM fX_ready fX_sheet dX_sheet nX_sheet iX_sheetLength xX_reader xX_solver xX_prover xX_values xX_clauses xX_nets) sz)) 5626 420000 (va_A (WX hX aX kX hT hM fX_ready fX_sheet dX_sheet nX_sheet iX_sheetLength xX_reader xX_solver xX_prover xX_values xX_clauses xX_nets) sz) := by
  refine Met.ofW (cc := cX11_putRatio) (maxL := 3) (ret := none) (by decide) rfl ?_
  intro p e s m args below meth c s₁ B hml hv
  obtain ⟨rfl, hsz, hP, hK, hD0⟩ := hv
  have hx := B.exec
  have hb := B.bytes
  have hr := B.returns
  have hts := atoms_spec (ws := wsMX11_putRatio) B.pre
  have hown : s.vm.findClass RX11 = some m.cls := findClass_of_methodNamed B.named
  have hlocks := B.notSynchronized
  subst hsz
  have hD := hD0.self (sz := s.heap.size)
  generalize hAe : va_A (WX hX aX kX hT hM fX_ready fX_sheet dX_sheet nX_sheet iX_sheetLength xX_reader xX_solver xX_prover xX_values xX_clauses xX_nets) s.heap.size = A at hD ⊢
  have hA : ∀ q : Nat, s.heap.size ≤ q → A q := fun q h => by rw [← hAe]; exact Or.inr h
  have hS : va_S A s.heap s.heap [] := va_S.rf
  have hl := lv_entry ([.ref (hX 0), .int p1, .int p2]) (n := 3) (Nat.le_of_ble_eq_true rfl)
  rw [lg_entry_eq]
  generalize (lg_sl ([.ref (hX 0), .int p1, .int p2]) ++ List.replicate (3 - (lg_sl ([.ref (hX 0), .int p1, .int p2])).length) Slot.unset).toArray = ls at hl ⊢
  have hl : lv_has ls 3 [(0, .ref (hX 0)), (1, .int p1), (2, .int p2)] := hl
  refine W.widen (k := (nX_sheet / 32 - (nX_sheet / 32))) (n := (2 * nX_sheet - (2 * nX_sheet))) (Nat.zero_le _) (Nat.zero_le _) ?_
  refine lv_aload_n hx hb dX11_putRatio_0 rfl (lv_at hl 0 rfl) ?_
  refine lv_iload_n hx hb dX11_putRatio_1 rfl (lv_at hl 1 rfl) ?_
  refine W.known (fun hz0 hn0 => ?_)
  have hS0 := hS.1
  have hFc := allFree hD hS hA
  refine va_callv (va_runV (As := [.int p1]) (rest := []) ⟨hx, hb, hml, hown, hts⟩ (Met.sV (m_X11_putNumber l dC dI hX aX kX hT hM fX_ready fX_sheet dX_sheet nX_sheet iX_sheetLength xX_reader xX_solver xX_prover xX_values xX_clauses xX_nets p1 b_fX_sheet (by first | exact b_nX_sheet | with_reducible assumption | exact ⟨by omega, by omega⟩ | assumption) (b_iX_sheetLength) (by first | with_reducible assumption | omega | (rw [iI_t (by omega) (by omega)]; omega) | (have h7 : (0 : Int32).toInt = 0 := (by decide); omega)) s.heap.size) s.heap) (cwV 1 hts gwsMX11_putRatio_0 rfl rfl rfl (by decide +kernel) ⟨by first | decide +kernel | (dsimp only [headSpec] <;> omega), by first | decide +kernel | (dsimp only [headSpec] <;> omega)⟩) ⟨fun a U g mk q => by obtain ⟨q0, qh, q1, qP, qK, qD⟩ := q; exact ⟨q0, qh, q1, qP, va_K.moved (u := U) (U := U.calling g mk a) (Vm.Alike.refl U.vm) qK, qD⟩, va_recv hK hP (ci := 11) (q0 := 0) rfl rfl, fun U hU9 hW => ⟨rfl, hU9, by rw [hU9], by rw [hU9]; exact hP, va_K.moved hW.alike hK, hD.weaken (fun _ _ _ _ => trivial)⟩⟩ rfl rfl hl.1 rfl (lv_room (Nat.le_of_ble_eq_true rfl)) dX11_putRatio_2 ⟨by first | decide +kernel | (dsimp only [headSpec] <;> omega), by first | decide +kernel | (dsimp only [headSpec] <;> omega)⟩) hS (fun q _ h => hFc q h) hFc (fun u t9_ H locs ht hvm hw9 hB9 hz1 hk1 hS => ?_)
  revert u hw9 hB9
  refine fz_p4 ?_
  intro fX_sheet_1 dX_sheet_1 nX_sheet_1 iX_sheetLength_1 hw9 hB9
  try dsimp only at hw9 hB9
  revert hw9
  refine fz_a6 ?_
  intro b_fX_sheet_1 b_nX_sheet_1 b_iX_sheetLength_1 b_shl_1 f1_0 f1_1
  have hg1 := hB9.1.2.2.1
  rw [ht] at hg1
  have hg2 := hB9.1.2.2.2
  rw [ht] at hg2
  have hSz := hB9.2
  rw [ht] at hSz
  have hP : va_P (dC, dI) vwCl (WX hX aX kX hT hM fX_ready fX_sheet_1 dX_sheet_1 nX_sheet_1 iX_sheetLength_1 xX_reader xX_solver xX_prover xX_values xX_clauses xX_nets) H := fz_P ht hB9.1.1
  have hD := fz_sd hP (hB9.1.2.1.weaken (fun _ q _ h => hFc q.1 h)) rfl
  have hz9 : H.size ≤ s.heap.size + (nX_sheet_1 / 32 - (nX_sheet / 32)) := by (try dsimp only at hg1); omega
  have hn9 : nS s.heap.size H ≤ (2 * nX_sheet_1 - (2 * nX_sheet)) := by rw [hSz.n hS0]; (try dsimp only at hg2); omega
  refine W.tight (cells2 := (nX_sheet_1 / 32 - (nX_sheet / 32))) (slots2 := (2 * nX_sheet_1 - (2 * nX_sheet))) hz9 hn9 ?_
  clear hz9 hn9 hz0 hn0 hS0 hSz hg1 hg2
  refine lv_iload_n hx hb dX11_putRatio_5 rfl (lv_at hl 2 rfl) ?_
  refine lv_iconst (v := 1) hx hb dX11_putRatio_6 (by decide) ?_
  refine W.known (fun hzk hnk => ?_)
  refine W.widen (k := 1875) (n := 120000) (by omega) (by omega) ?_
  refine W.cut (pc := 21) (fun H locs ls stk => ∃ (fX_sheet_j2 : Nat → Int32) (dX_sheet_j2 : Nat) (nX_sheet_j2 : Nat) (iX_sheetLength_j2 : Int32), (∀ q : Nat, (-128) ≤ (fX_sheet_j2 q).toInt ∧ (fX_sheet_j2 q).toInt ≤ 127) ∧ (64 ≤ nX_sheet_j2 ∧ nX_sheet_j2 ≤ 60000) ∧ (0 ≤ iX_sheetLength_j2.toInt ∧ iX_sheetLength_j2.toInt ≤ 30000) ∧ (iX_sheetLength_j2.toInt ≤ ((nX_sheet_j2 : Nat) : Int)) ∧ (iX_sheetLength.toInt ≤ iX_sheetLength_j2.toInt) ∧ (nX_sheet ≤ nX_sheet_j2) ∧ (H.size + (nX_sheet / 32) ≤ s.heap.size + (nX_sheet_j2 / 32) ∧ nS s.heap.size H + (2 * nX_sheet) ≤ (2 * nX_sheet_j2)) ∧  stk = [] ∧ va_P (dC, dI) vwCl (WX hX aX kX hT hM fX_ready fX_sheet_j2 dX_sheet_j2 nX_sheet_j2 iX_sheetLength_j2 xX_reader xX_solver xX_prover xX_values xX_clauses xX_nets) H ∧ va_D A (WX hX aX kX hT hM fX_ready fX_sheet_j2 dX_sheet_j2 nX_sheet_j2 iX_sheetLength_j2 xX_reader xX_solver xX_prover xX_values xX_clauses xX_nets) ∧ va_S A s.heap H locs ∧ lv_has ls 3 [(0, .ref (hX 0)), (1, .int p1), (2, .int p2)]) (fun join2 => ?_) ?_
  · refine W.tight (cells2 := (nX_sheet_1 / 32 - (nX_sheet / 32))) (slots2 := (2 * nX_sheet_1 - (2 * nX_sheet))) hzk hnk ?_
    refine lv_icmp_eq (tgt := 21) hx hb dX11_putRatio_7 (by decide) (fun c_7 => ?_) (fun c_7 => ?_)
    · have t_7 : p2.toInt = 1 := toI_eq c_7 rfl (by decide : (1 : Int32).toInt = 1)
      have hl : lv_has _ _ ([(0, .ref (hX 0)), (1, .int p1), (2, .int p2)]) := lv_sub hl [0, 1, 2] rfl
      refine W.known (fun hza hna => ?_)
      refine W.widen (k := 1875) (n := 120000) (by omega) (by omega) ?_
      exact join2 _ _ _ _ ⟨fX_sheet_1, dX_sheet_1, nX_sheet_1, iX_sheetLength_1, b_fX_sheet_1, (by first | exact b_nX_sheet_1 | with_reducible assumption | exact ⟨by omega, by omega⟩ | assumption), (b_iX_sheetLength_1), (by first | with_reducible assumption | omega | (rw [iI_t (by omega) (by omega)]; omega) | (have h7 : (0 : Int32).toInt = 0 := (by decide); omega)), (show iX_sheetLength.toInt ≤ iX_sheetLength_1.toInt from by omega), (show nX_sheet ≤ nX_sheet_1 from by omega), ⟨by omega, by omega⟩, rfl, hP, hD, hS, hl⟩
    · have t_7 : ¬ p2.toInt = 1 := toI_neq c_7 rfl (by decide : (1 : Int32).toInt = 1)
      refine lv_aload_n hx hb dX11_putRatio_10 rfl (lv_at hl 0 rfl) ?_
      refine lv_bipush (v := 47) hx hb dX11_putRatio_11 (by decide) ?_
      refine W.known (fun hz0 hn0 => ?_)
      have hS0 := hS.1
      have hFc := allFree hD hS hA
      refine va_callv (va_runV (As := [.int 47]) (rest := []) ⟨hx, hb, hml, hown, hts⟩ (Met.sV (m_X11_put l dC dI hX aX kX hT hM fX_ready fX_sheet_1 dX_sheet_1 nX_sheet_1 iX_sheetLength_1 xX_reader xX_solver xX_prover xX_values xX_clauses xX_nets 47 b_fX_sheet_1 (by first | exact b_nX_sheet_1 | with_reducible assumption | exact ⟨by omega, by omega⟩ | assumption) (b_iX_sheetLength_1) (by first | with_reducible assumption | omega | (rw [iI_t (by omega) (by omega)]; omega) | (have h7 : (0 : Int32).toInt = 0 := (by decide); omega)) H.size) H) (cwV 1 hts gwsMX11_putRatio_1 rfl rfl rfl (by decide +kernel) ⟨by first | decide +kernel | (dsimp only [headSpec] <;> omega), by first | decide +kernel | (dsimp only [headSpec] <;> omega)⟩) ⟨fun a U g mk q => by obtain ⟨q0, qh, q1, qP, qK, qD⟩ := q; exact ⟨q0, qh, q1, qP, va_K.moved (u := U) (U := U.calling g mk a) (Vm.Alike.refl U.vm) qK, qD⟩, va_recv hK hP (ci := 11) (q0 := 0) rfl rfl, fun U hU9 hW => ⟨rfl, hU9, by rw [hU9], by rw [hU9]; exact hP, va_K.moved hW.alike hK, hD.weaken (fun _ _ _ _ => trivial)⟩⟩ rfl rfl hl.1 rfl (lv_room (Nat.le_of_ble_eq_true rfl)) dX11_putRatio_13 ⟨by first | decide +kernel | (dsimp only [headSpec] <;> omega), by first | decide +kernel | (dsimp only [headSpec] <;> omega)⟩) hS (fun q _ h => hFc q h) hFc (fun u t9_ H locs ht hvm hw9 hB9 hz1 hk1 hS => ?_)
      revert u hw9 hB9
      refine fz_p4 ?_
      intro fX_sheet_4 dX_sheet_4 nX_sheet_4 iX_sheetLength_4 hw9 hB9
      try dsimp only at hw9 hB9
      revert hw9
      refine fz_a6 ?_
      intro b_fX_sheet_4 b_nX_sheet_4 b_iX_sheetLength_4 b_shl_4 f4_0 f4_1
      have hg1 := hB9.1.2.2.1
      rw [ht] at hg1
      have hg2 := hB9.1.2.2.2
      rw [ht] at hg2
      have hSz := hB9.2
      rw [ht] at hSz
      have hP : va_P (dC, dI) vwCl (WX hX aX kX hT hM fX_ready fX_sheet_4 dX_sheet_4 nX_sheet_4 iX_sheetLength_4 xX_reader xX_solver xX_prover xX_values xX_clauses xX_nets) H := fz_P ht hB9.1.1
      have hD := fz_sd hP (hB9.1.2.1.weaken (fun _ q _ h => hFc q.1 h)) rfl
      have hz9 : H.size ≤ s.heap.size + (nX_sheet_4 / 32 - (nX_sheet / 32)) := by (try dsimp only at hg1); omega
      have hn9 : nS s.heap.size H ≤ (2 * nX_sheet_4 - (2 * nX_sheet)) := by rw [hSz.n hS0]; (try dsimp only at hg2); omega
      refine W.tight (cells2 := (nX_sheet_4 / 32 - (nX_sheet / 32))) (slots2 := (2 * nX_sheet_4 - (2 * nX_sheet))) hz9 hn9 ?_
      clear hz9 hn9 hz0 hn0 hS0 hSz hg1 hg2
      refine lv_aload_n hx hb dX11_putRatio_16 rfl (lv_at hl 0 rfl) ?_
      refine lv_iload_n hx hb dX11_putRatio_17 rfl (lv_at hl 2 rfl) ?_
      refine W.known (fun hz0 hn0 => ?_)
      have hS0 := hS.1
      have hFc := allFree hD hS hA
      refine va_callv (va_runV (As := [.int p2]) (rest := []) ⟨hx, hb, hml, hown, hts⟩ (Met.sV (m_X11_putNumber l dC dI hX aX kX hT hM fX_ready fX_sheet_4 dX_sheet_4 nX_sheet_4 iX_sheetLength_4 xX_reader xX_solver xX_prover xX_values xX_clauses xX_nets p2 b_fX_sheet_4 (by first | exact b_nX_sheet_4 | with_reducible assumption | exact ⟨by omega, by omega⟩ | assumption) (b_iX_sheetLength_4) (by first | with_reducible assumption | omega | (rw [iI_t (by omega) (by omega)]; omega) | (have h7 : (0 : Int32).toInt = 0 := (by decide); omega)) H.size) H) (cwV 1 hts gwsMX11_putRatio_0 rfl rfl rfl (by decide +kernel) ⟨by first | decide +kernel | (dsimp only [headSpec] <;> omega), by first | decide +kernel | (dsimp only [headSpec] <;> omega)⟩) ⟨fun a U g mk q => by obtain ⟨q0, qh, q1, qP, qK, qD⟩ := q; exact ⟨q0, qh, q1, qP, va_K.moved (u := U) (U := U.calling g mk a) (Vm.Alike.refl U.vm) qK, qD⟩, va_recv hK hP (ci := 11) (q0 := 0) rfl rfl, fun U hU9 hW => ⟨rfl, hU9, by rw [hU9], by rw [hU9]; exact hP, va_K.moved hW.alike hK, hD.weaken (fun _ _ _ _ => trivial)⟩⟩ rfl rfl hl.1 rfl (lv_room (Nat.le_of_ble_eq_true rfl)) dX11_putRatio_18 ⟨by first | decide +kernel | (dsimp only [headSpec] <;> omega), by first | decide +kernel | (dsimp only [headSpec] <;> omega)⟩) hS (fun q _ h => hFc q h) hFc (fun u t9_ H locs ht hvm hw9 hB9 hz1 hk1 hS => ?_)
      revert u hw9 hB9
      refine fz_p4 ?_
      intro fX_sheet_5 dX_sheet_5 nX_sheet_5 iX_sheetLength_5 hw9 hB9
      try dsimp only at hw9 hB9
      revert hw9
      refine fz_a6 ?_
      intro b_fX_sheet_5 b_nX_sheet_5 b_iX_sheetLength_5 b_shl_5 f5_0 f5_1
      have hg1 := hB9.1.2.2.1
      rw [ht] at hg1
      have hg2 := hB9.1.2.2.2
      rw [ht] at hg2
      have hSz := hB9.2
      rw [ht] at hSz
      have hP : va_P (dC, dI) vwCl (WX hX aX kX hT hM fX_ready fX_sheet_5 dX_sheet_5 nX_sheet_5 iX_sheetLength_5 xX_reader xX_solver xX_prover xX_values xX_clauses xX_nets) H := fz_P ht hB9.1.1
      have hD := fz_sd hP (hB9.1.2.1.weaken (fun _ q _ h => hFc q.1 h)) rfl
      have hz9 : H.size ≤ s.heap.size + (nX_sheet_5 / 32 - (nX_sheet / 32)) := by (try dsimp only at hg1); omega
      have hn9 : nS s.heap.size H ≤ (2 * nX_sheet_5 - (2 * nX_sheet)) := by rw [hSz.n hS0]; (try dsimp only at hg2); omega
      refine W.tight (cells2 := (nX_sheet_5 / 32 - (nX_sheet / 32))) (slots2 := (2 * nX_sheet_5 - (2 * nX_sheet))) hz9 hn9 ?_
      clear hz9 hn9 hz0 hn0 hS0 hSz hg1 hg2
      have hl : lv_has _ _ ([(0, .ref (hX 0)), (1, .int p1), (2, .int p2)]) := lv_sub hl [0, 1, 2] rfl
      refine W.known (fun hza hna => ?_)
      refine W.widen (k := 1875) (n := 120000) (by omega) (by omega) ?_
      exact join2 _ _ _ _ ⟨fX_sheet_5, dX_sheet_5, nX_sheet_5, iX_sheetLength_5, b_fX_sheet_5, (by first | exact b_nX_sheet_5 | with_reducible assumption | exact ⟨by omega, by omega⟩ | assumption), (b_iX_sheetLength_5), (by first | with_reducible assumption | omega | (rw [iI_t (by omega) (by omega)]; omega) | (have h7 : (0 : Int32).toInt = 0 := (by decide); omega)), (show iX_sheetLength.toInt ≤ iX_sheetLength_5.toInt from by omega), (show nX_sheet ≤ nX_sheet_5 from by omega), ⟨by omega, by omega⟩, rfl, hP, hD, hS, hl⟩
  · rintro H locs ls stk ⟨fX_sheet_j2, dX_sheet_j2, nX_sheet_j2, iX_sheetLength_j2, b_fX_sheet_j2, b_nX_sheet_j2, b_iX_sheetLength_j2, b_shl_j2, hjx, hgm0_j2, ⟨hzj, hnj⟩, rfl, hP, hD, hS, hl⟩
    refine W.tight (cells2 := (nX_sheet_j2 / 32 - (nX_sheet / 32))) (slots2 := (2 * nX_sheet_j2 - (2 * nX_sheet))) (tg1 hzj hS.1) (tg2 hnj) ?_
    refine W.known (fun hz9 hn9 => ?_)
    refine W.widen (k := 5626) (n := 420000) (by omega) (by omega) ?_
    exact W.vret hx hb hr (fun t9_ ht hW => ⟨⟨(fX_sheet_j2, dX_sheet_j2, nX_sheet_j2, iX_sheetLength_j2), rfl, ⟨b_fX_sheet_j2, (by (try dsimp only); exact (by first | exact b_nX_sheet_j2 | with_reducible assumption | exact ⟨by omega, by omega⟩ | assumption)), b_iX_sheetLength_j2, (by (try dsimp only); exact (by first | with_reducible assumption | omega | (rw [iI_t (by omega) (by omega)]; omega) | (have h7 : (0 : Int32).toInt = 0 := (by decide); omega))), (by (try dsimp only); omega), (by (try dsimp only); first | omega | (rw [iI_t (by omega) (by omega)]; omega))⟩, by rw [ht]; exact hP, hD, by rw [ht]; (try dsimp only); omega, by rw [ht]; (try dsimp only); omega⟩, hS.F ht⟩) hS.2.2 dX11_putRatio_21
theorem dX11_putTimes_0 : decode cX11_putTimes 0 = .ok (.iload_n 1, 1) := dk_27 (by decide +kernel)
theorem dX11_putTimes_1 : decode cX11_putTimes 1 = .ok (.ifCond .ge 13, 3) := dk_156 (by decide +kernel)
theorem dX11_putTimes_4 : decode cX11_putTimes 4 = .ok (.aload_n 0, 1) := dk_42 (by decide +kernel)
theorem dX11_putTimes_5 : decode cX11_putTimes 5 = .ok (.ldc_w 315, 3) := dk_19 (by decide +kernel)
theorem dX11_putTimes_8 : decode cX11_putTimes 8 = .ok (.invokevirtual 279, 3) := dk_182 (by decide +kernel)
theorem dX11_putTimes_11 : decode cX11_putTimes 11 = .ok (.goto 15, 3) := dk_167 (by decide +kernel)
theorem dX11_putTimes_14 : decode cX11_putTimes 14 = .ok (.iload 4, 2) := dk_21 (by decide +kernel)
theorem dX11_putTimes_16 : decode cX11_putTimes 16 = .ok (.ifCond .ne 10, 3) := dk_154 (by decide +kernel)
theorem dX11_putTimes_19 : decode cX11_putTimes 19 = .ok (.aload_n 0, 1) := dk_42 (by decide +kernel)
theorem dX11_putTimes_20 : decode cX11_putTimes 20 = .ok (.ldc_w 317, 3) := dk_19 (by decide +kernel)
theorem dX11_putTimes_23 : decode cX11_putTimes 23 = .ok (.invokevirtual 279, 3) := dk_182 (by decide +kernel)
theorem dX11_putTimes_26 : decode cX11_putTimes 26 = .ok (.iload_n 1, 1) := dk_27 (by decide +kernel)
theorem dX11_putTimes_27 : decode cX11_putTimes 27 = .ok (.ifCond .ge 8, 3) := dk_156 (by decide +kernel)
theorem dX11_putTimes_30 : decode cX11_putTimes 30 = .ok (.iload_n 1, 1) := dk_27 (by decide +kernel)
theorem dX11_putTimes_31 : decode cX11_putTimes 31 = .ok (.ineg, 1) := dk_116 (by decide +kernel)
theorem dX11_putTimes_32 : decode cX11_putTimes 32 = .ok (.goto 4, 3) := dk_167 (by decide +kernel)
theorem dX11_putTimes_35 : decode cX11_putTimes 35 = .ok (.iload_n 1, 1) := dk_27 (by decide +kernel)
theorem dX11_putTimes_36 : decode cX11_putTimes 36 = .ok (.istore 5, 2) := dk_54 (by decide +kernel)
theorem dX11_putTimes_38 : decode cX11_putTimes 38 = .ok (.iload 5, 2) := dk_21 (by decide +kernel)
theorem dX11_putTimes_40 : decode cX11_putTimes 40 = .ok (.iconst 1, 1) := dk_4 (by decide +kernel)
theorem dX11_putTimes_41 : decode cX11_putTimes 41 = .ok (.if_icmp .ne 8, 3) := dk_160 (by decide +kernel)
theorem dX11_putTimes_44 : decode cX11_putTimes 44 = .ok (.iload_n 2, 1) := dk_28 (by decide +kernel)
theorem dX11_putTimes_45 : decode cX11_putTimes 45 = .ok (.iconst 1, 1) := dk_4 (by decide +kernel)
theorem dX11_putTimes_46 : decode cX11_putTimes 46 = .ok (.if_icmp .eq 23, 3) := dk_159 (by decide +kernel)
theorem dX11_putTimes_49 : decode cX11_putTimes 49 = .ok (.aload_n 0, 1) := dk_42 (by decide +kernel)
theorem dX11_putTimes_50 : decode cX11_putTimes 50 = .ok (.bipush 32, 2) := dk_16 (by decide +kernel)
theorem dX11_putTimes_52 : decode cX11_putTimes 52 = .ok (.invokevirtual 242, 3) := dk_182 (by decide +kernel)
theorem dX11_putTimes_55 : decode cX11_putTimes 55 = .ok (.aload_n 0, 1) := dk_42 (by decide +kernel)
theorem dX11_putTimes_56 : decode cX11_putTimes 56 = .ok (.iload 5, 2) := dk_21 (by decide +kernel)
theorem dX11_putTimes_58 : decode cX11_putTimes 58 = .ok (.iload_n 2, 1) := dk_28 (by decide +kernel)
theorem dX11_putTimes_59 : decode cX11_putTimes 59 = .ok (.invokevirtual 319, 3) := dk_182 (by decide +kernel)
theorem dX11_putTimes_62 : decode cX11_putTimes 62 = .ok (.aload_n 0, 1) := dk_42 (by decide +kernel)
theorem dX11_putTimes_63 : decode cX11_putTimes 63 = .ok (.ldc_w 322, 3) := dk_19 (by decide +kernel)
theorem dX11_putTimes_66 : decode cX11_putTimes 66 = .ok (.invokevirtual 279, 3) := dk_182 (by decide +kernel)
theorem dX11_putTimes_69 : decode cX11_putTimes 69 = .ok (.aload_n 0, 1) := dk_42 (by decide +kernel)
theorem dX11_putTimes_70 : decode cX11_putTimes 70 = .ok (.ldc_w 324, 3) := dk_19 (by decide +kernel)
theorem dX11_putTimes_73 : decode cX11_putTimes 73 = .ok (.invokevirtual 279, 3) := dk_182 (by decide +kernel)
theorem dX11_putTimes_76 : decode cX11_putTimes 76 = .ok (.aload_n 0, 1) := dk_42 (by decide +kernel)
theorem dX11_putTimes_77 : decode cX11_putTimes 77 = .ok (.iload_n 3, 1) := dk_29 (by decide +kernel)
theorem dX11_putTimes_78 : decode cX11_putTimes 78 = .ok (.invokevirtual 283, 3) := dk_182 (by decide +kernel)
theorem dX11_putTimes_81 : decode cX11_putTimes 81 = .ok (.return_, 1) := dk_177 (by decide +kernel)
def wsMX11_putTimes : List Cond := .code yX11_putTimes cX11_putTimes 6 none :: ([] ++ (wsV RX11 279 RX11 yX11_putText wsMX11_putText) ++ (wsV RX11 242 RX11 yX11_put wsMX11_put) ++ (wsV RX11 319 RX11 yX11_putRatio wsMX11_putRatio) ++ (wsV RX11 283 RX11 yX11_putNumber wsMX11_putNumber))
theorem gwsMX11_putTimes_0 : GoodIn wsMX11_putTimes (wsV RX11 279 RX11 yX11_putText wsMX11_putText) := goodIn_sub (fun _ h => List.mem_cons_of_mem _ (List.mem_append_left _ (List.mem_append_left _ (List.mem_append_left _ (List.mem_append_right _ h))))) (gdV (by decide +kernel) gdwsMX11_putText)
theorem gwsMX11_putTimes_1 : GoodIn wsMX11_putTimes (wsV RX11 242 RX11 yX11_put wsMX11_put) := goodIn_sub (fun _ h => List.mem_cons_of_mem _ (List.mem_append_left _ (List.mem_append_left _ (List.mem_append_right _ h)))) (gdV (by decide +kernel) gdwsMX11_put)
theorem gwsMX11_putTimes_2 : GoodIn wsMX11_putTimes (wsV RX11 319 RX11 yX11_putRatio wsMX11_putRatio) := goodIn_sub (fun _ h => List.mem_cons_of_mem _ (List.mem_append_left _ (List.mem_append_right _ h))) (gdV (by decide +kernel) gdwsMX11_putRatio)
theorem gwsMX11_putTimes_3 : GoodIn wsMX11_putTimes (wsV RX11 283 RX11 yX11_putNumber wsMX11_putNumber) := goodIn_sub (fun _ h => List.mem_cons_of_mem _ (List.mem_append_right _ h)) (gdV (by decide +kernel) gdwsMX11_putNumber)
theorem gdwsMX11_putTimes : wsMX11_putTimes.all goodWord = true := gdC rfl (gdA (gdA (gdA (gdA (by decide +kernel : ([] : List Cond).all goodWord = true) (gdV (by decide +kernel) gdwsMX11_putText)) (gdV (by decide +kernel) gdwsMX11_put)) (gdV (by decide +kernel) gdwsMX11_putRatio)) (gdV (by decide +kernel) gdwsMX11_putNumber))
set_option maxHeartbeats 4000000 in
set_option maxRecDepth 100000 in
/-- a number times a variable -/
theorem m_X11_putTimes (l : Launch) (hst : l.stackTraces = false) (dC : Nat → ClassId) (dI : Nat → Nat → Nat) (hX : Nat → Nat) (aX : Nat → Nat) (kX : Nat → ClassId) (hT : Nat → Nat) (hM : Nat → Nat) (fX_ready : Nat → Int32) (fX_sheet : Nat → Int32) (dX_sheet : Nat) (nX_sheet : Nat) (iX_sheetLength : Int32) (xX_reader : Value) (xX_solver : Value) (xX_prover : Value) (xX_values : Value) (xX_clauses : Value) (xX_nets : Value) (p1 : Int32) (p2 : Int32) (p3 : Int32) (p4 : Int32) (b_fX_sheet : ∀ q : Nat, (-128) ≤ (fX_sheet q).toInt ∧ (fX_sheet q).toInt ≤ 127) (b_nX_sheet : 64 ≤ nX_sheet ∧ nX_sheet ≤ 60000) (b_iX_sheetLength : 0 ≤ iX_sheetLength.toInt ∧ iX_sheetLength.toInt ≤ 30000) (b_shl : iX_sheetLength.toInt ≤ ((nX_sheet : Nat) : Int)) (sz : Nat) : Met l yX11_putTimes wsMX11_putTimes ({ frames := 5, cells := 7501, slots := 540000, locals := 107 }) (va_Pc [.ref (hX 0), .int p1, .int p2, .int p3, .int p4] (fun U => U.heap.size = sz ∧ va_P (dC, dI) vwCl (WX hX aX kX hT hM fX_ready fX_sheet dX_sheet nX_sheet iX_sheetLength xX_reader xX_solver xX_prover xX_values xX_clauses xX_nets) U.heap ∧ va_K (dC, dI) vwCl (tX kX) U ∧ va_D (fun _ => True) (WX hX aX kX hT hM fX_ready fX_sheet dX_sheet nX_sheet iX_sheetLength xX_reader xX_solver xX_prover xX_values xX_clauses xX_nets) ∧ CE (va_A (WX hX aX kX hT hM fX_ready fX_sheet dX_sheet nX_sheet iX_sheetLength xX_reader xX_solver xX_prover xX_values xX_clauses xX_nets) sz) U U.heap)) (va_Qv (fun (u : (Nat → Int32) × (Nat) × (Nat) × (Int32)) => (∀ q : Nat, (-128) ≤ ((u.1) q).toInt ∧ ((u.1) q).toInt ≤ 127) ∧ (64 ≤ (u.2.2.1) ∧ (u.2.2.1) ≤ 60000) ∧ (0 ≤ (u.2.2.2).toInt ∧ (u.2.2.2).toInt ≤ 30000) ∧ ((u.2.2.2).toInt ≤ (((u.2.2.1) : Nat) : Int)) ∧ (nX_sheet ≤ (u.2.2.1)) ∧ (iX_sheetLength.toInt ≤ (u.2.2.2).toInt)) (fun (u : (Nat → Int32) × (Nat) × (Nat) × (Int32)) t => va_P (dC, dI) vwCl (WX hX aX kX hT hM fX_ready (u.1) (u.2.1) (u.2.2.1) (u.2.2.2) xX_reader xX_solver xX_prover xX_values xX_clauses xX_nets) t.heap ∧ va_D (va_A (WX hX aX kX hT hM fX_ready fX_sheet dX_sheet nX_sheet iX_sheetLength xX_reader xX_solver xX_prover xX_values xX_clauses xX_nets) sz) (WX hX aX kX hT hM fX_ready (u.1) (u.2.1) (u.2.2.1) (u.2.2.2) xX_reader xX_solver xX_prover xX_values xX_clauses xX_nets) ∧ t.heap.size + (nX_sheet / 32) ≤ sz + ((u.2.2.1) / 32) ∧ nS sz t.heap + (2 * nX_sheet) ≤ (2 * (u.2.2.1))) (va_A (WX hX aX kX hT hM fX_ready fX_sheet dX_sheet nX_sheet iX_sheetLength xX_reader xX_solver xX_prover xX_values xX_clauses xX_nets) sz)) 7501 540000 (va_A (WX hX aX kX hT hM fX_ready fX_sheet dX_sheet nX_sheet iX_sheetLength xX_reader xX_solver xX_prover xX_values xX_clauses xX_nets) sz) := by
  refine Met.ofW (cc := cX11_putTimes) (maxL := 6) (ret := none) (by decide) rfl ?_
  intro p e s m args below meth c s₁ B hml hv
  obtain ⟨rfl, hsz, hP, hK, hD0, hE⟩ := hv
  have hx := B.exec
  have hb := B.bytes
  have hr := B.returns
  have hts := atoms_spec (ws := wsMX11_putTimes) B.pre
  have hown : s.vm.findClass RX11 = some m.cls := findClass_of_methodNamed B.named
  have hlocks := B.notSynchronized
  subst hsz
  have hD := hD0.self (sz := s.heap.size)
  generalize hAe : va_A (WX hX aX kX hT hM fX_ready fX_sheet dX_sheet nX_sheet iX_sheetLength xX_reader xX_solver xX_prover xX_values xX_clauses xX_nets) s.heap.size = A at hD hE ⊢
  have hA : ∀ q : Nat, s.heap.size ≤ q → A q := fun q h => by rw [← hAe]; exact Or.inr h
  have hS : va_S A s.heap s.heap [] := va_S.rf
  have hl := lv_entry ([.ref (hX 0), .int p1, .int p2, .int p3, .int p4]) (n := 6) (Nat.le_of_ble_eq_true rfl)
  rw [lg_entry_eq]
  generalize (lg_sl ([.ref (hX 0), .int p1, .int p2, .int p3, .int p4]) ++ List.replicate (6 - (lg_sl ([.ref (hX 0), .int p1, .int p2, .int p3, .int p4])).length) Slot.unset).toArray = ls at hl ⊢
  have hl : lv_has ls 6 [(0, .ref (hX 0)), (1, .int p1), (2, .int p2), (3, .int p3), (4, .int p4)] := hl
  refine W.widen (k := (nX_sheet / 32 - (nX_sheet / 32))) (n := (2 * nX_sheet - (2 * nX_sheet))) (Nat.zero_le _) (Nat.zero_le _) ?_
  refine lv_iload_n hx hb dX11_putTimes_0 rfl (lv_at hl 1 rfl) ?_
  refine W.known (fun hzk hnk => ?_)
  refine W.widen (k := 1875) (n := 120000) (by omega) (by omega) ?_
  refine W.cut (pc := 26) (fun H locs ls stk => ∃ (fX_sheet_j4 : Nat → Int32) (dX_sheet_j4 : Nat) (nX_sheet_j4 : Nat) (iX_sheetLength_j4 : Int32), (∀ q : Nat, (-128) ≤ (fX_sheet_j4 q).toInt ∧ (fX_sheet_j4 q).toInt ≤ 127) ∧ (64 ≤ nX_sheet_j4 ∧ nX_sheet_j4 ≤ 60000) ∧ (0 ≤ iX_sheetLength_j4.toInt ∧ iX_sheetLength_j4.toInt ≤ 30000) ∧ (iX_sheetLength_j4.toInt ≤ ((nX_sheet_j4 : Nat) : Int)) ∧ (iX_sheetLength.toInt ≤ iX_sheetLength_j4.toInt) ∧ (nX_sheet ≤ nX_sheet_j4) ∧ (H.size + (nX_sheet / 32) ≤ s.heap.size + (nX_sheet_j4 / 32) ∧ nS s.heap.size H + (2 * nX_sheet) ≤ (2 * nX_sheet_j4)) ∧  stk = [] ∧ va_P (dC, dI) vwCl (WX hX aX kX hT hM fX_ready fX_sheet_j4 dX_sheet_j4 nX_sheet_j4 iX_sheetLength_j4 xX_reader xX_solver xX_prover xX_values xX_clauses xX_nets) H ∧ va_D A (WX hX aX kX hT hM fX_ready fX_sheet_j4 dX_sheet_j4 nX_sheet_j4 iX_sheetLength_j4 xX_reader xX_solver xX_prover xX_values xX_clauses xX_nets) ∧ va_S A s.heap H locs ∧ lv_has ls 6 [(0, .ref (hX 0)), (1, .int p1), (2, .int p2), (3, .int p3), (4, .int p4)]) (fun join4 => ?_) ?_
  · refine W.tight (cells2 := (nX_sheet / 32 - (nX_sheet / 32))) (slots2 := (2 * nX_sheet - (2 * nX_sheet))) hzk hnk ?_
    refine lv_if_ge (tgt := 14) hx hb dX11_putTimes_1 (by decide) (fun c_1 => ?_) (fun c_1 => ?_)
    · have t_1 : p1.toInt ≥ 0 := toI_ge c_1 rfl (by decide : (0 : Int32).toInt = 0)
      refine lv_iload hx hb dX11_putTimes_14 (lv_at hl 4 rfl) ?_
      refine lv_if_ne (tgt := 26) hx hb dX11_putTimes_16 (by decide) (fun c_16 => ?_) (fun c_16 => ?_)
      · have t_16 : p4.toInt ≠ 0 := toI_ne c_16 rfl (by decide : (0 : Int32).toInt = 0)
        have hl : lv_has _ _ ([(0, .ref (hX 0)), (1, .int p1), (2, .int p2), (3, .int p3), (4, .int p4)]) := lv_sub hl [0, 1, 2, 3, 4] rfl
        refine W.known (fun hza hna => ?_)
        refine W.widen (k := 1875) (n := 120000) (by omega) (by omega) ?_
        exact join4 _ _ _ _ ⟨fX_sheet, dX_sheet, nX_sheet, iX_sheetLength, b_fX_sheet, (by first | exact b_nX_sheet | with_reducible assumption | exact ⟨by omega, by omega⟩ | assumption), (b_iX_sheetLength), (by first | with_reducible assumption | omega | (rw [iI_t (by omega) (by omega)]; omega) | (have h7 : (0 : Int32).toInt = 0 := (by decide); omega)), (show iX_sheetLength.toInt ≤ iX_sheetLength.toInt from by omega), (show nX_sheet ≤ nX_sheet from by omega), ⟨by omega, by omega⟩, rfl, hP, hD, hS, hl⟩
      · have t_16 : p4.toInt = 0 := toI_nne c_16 rfl (by decide : (0 : Int32).toInt = 0)
        refine lv_aload_n hx hb dX11_putTimes_19 rfl (lv_at hl 0 rfl) ?_
        obtain ⟨qS317, hR317, hSS317⟩ := hE.2.2.2 13 _ rfl
        refine lv_ldcwS hx hb hown hR317 dX11_putTimes_20 ?_
        refine W.known (fun hz0 hn0 => ?_)
        have hS0 := hS.1
        have hFc := allFree hD hS hA
        refine va_callv (va_runV (As := [.ref qS317]) (rest := []) ⟨hx, hb, hml, hown, hts⟩ (Met.sV (m_X11_putText l dC dI hX aX kX hT hM fX_ready fX_sheet dX_sheet nX_sheet iX_sheetLength xX_reader xX_solver xX_prover xX_values xX_clauses xX_nets qS317 2 (fun j => ([32, 43] : List Int32).getD j 0) b_fX_sheet (by first | exact b_nX_sheet | with_reducible assumption | exact ⟨by omega, by omega⟩ | assumption) (b_iX_sheetLength) (by first | with_reducible assumption | omega | (rw [iI_t (by omega) (by omega)]; omega) | (have h7 : (0 : Int32).toInt = 0 := (by decide); omega)) (by decide) s.heap.size) s.heap) (cwV 1 hts gwsMX11_putTimes_0 rfl rfl rfl (by decide +kernel) ⟨by first | decide +kernel | (dsimp only [headSpec] <;> omega), by first | decide +kernel | (dsimp only [headSpec] <;> omega)⟩) ⟨fun a U g mk q => by obtain ⟨q0, qh, q1, qP, qK, qD, qE⟩ := q; exact ⟨q0, qh, q1, qP, va_K.moved (u := U) (U := U.calling g mk a) (Vm.Alike.refl U.vm) qK, qD, qE.same rfl⟩, va_recv hK hP (ci := 11) (q0 := 0) rfl rfl, fun U hU9 hW => ⟨rfl, hU9, by rw [hU9], by rw [hU9]; exact hP, va_K.moved hW.alike hK, hD.weaken (fun _ _ _ _ => trivial), by rw [hU9]; exact (((hSS317 : (StrE qS317 2 (fun j => ([32, 43] : List Int32).getD j 0)) A s s.heap).kept hS.2.1).narrow (fun q h => hFc q h)).warm hW⟩⟩ rfl rfl hl.1 rfl (lv_room (Nat.le_of_ble_eq_true rfl)) dX11_putTimes_23 ⟨by first | decide +kernel | (dsimp only [headSpec] <;> omega), by first | decide +kernel | (dsimp only [headSpec] <;> omega)⟩) hS (fun q _ h => hFc q h) hFc (fun u t9_ H locs ht hvm hw9 hB9 hz1 hk1 hS => ?_)
        revert u hw9 hB9
        refine fz_p4 ?_
        intro fX_sheet_3 dX_sheet_3 nX_sheet_3 iX_sheetLength_3 hw9 hB9
        try dsimp only at hw9 hB9
        revert hw9
        refine fz_a6 ?_
        intro b_fX_sheet_3 b_nX_sheet_3 b_iX_sheetLength_3 b_shl_3 f3_0 f3_1
        have hg1 := hB9.1.2.2.1
        rw [ht] at hg1
        have hg2 := hB9.1.2.2.2
        rw [ht] at hg2
        have hSz := hB9.2
        rw [ht] at hSz
        have hP : va_P (dC, dI) vwCl (WX hX aX kX hT hM fX_ready fX_sheet_3 dX_sheet_3 nX_sheet_3 iX_sheetLength_3 xX_reader xX_solver xX_prover xX_values xX_clauses xX_nets) H := fz_P ht hB9.1.1
        have hD := fz_sd hP (hB9.1.2.1.weaken (fun _ q _ h => hFc q.1 h)) rfl
        have hz9 : H.size ≤ s.heap.size + (nX_sheet_3 / 32 - (nX_sheet / 32)) := by (try dsimp only at hg1); omega
        have hn9 : nS s.heap.size H ≤ (2 * nX_sheet_3 - (2 * nX_sheet)) := by rw [hSz.n hS0]; (try dsimp only at hg2); omega
        refine W.tight (cells2 := (nX_sheet_3 / 32 - (nX_sheet / 32))) (slots2 := (2 * nX_sheet_3 - (2 * nX_sheet))) hz9 hn9 ?_
        clear hz9 hn9 hz0 hn0 hS0 hSz hg1 hg2
        have hl : lv_has _ _ ([(0, .ref (hX 0)), (1, .int p1), (2, .int p2), (3, .int p3), (4, .int p4)]) := lv_sub hl [0, 1, 2, 3, 4] rfl
        refine W.known (fun hza hna => ?_)
        refine W.widen (k := 1875) (n := 120000) (by omega) (by omega) ?_
        exact join4 _ _ _ _ ⟨fX_sheet_3, dX_sheet_3, nX_sheet_3, iX_sheetLength_3, b_fX_sheet_3, (by first | exact b_nX_sheet_3 | with_reducible assumption | exact ⟨by omega, by omega⟩ | assumption), (b_iX_sheetLength_3), (by first | with_reducible assumption | omega | (rw [iI_t (by omega) (by omega)]; omega) | (have h7 : (0 : Int32).toInt = 0 := (by decide); omega)), (show iX_sheetLength.toInt ≤ iX_sheetLength_3.toInt from by omega), (show nX_sheet ≤ nX_sheet_3 from by omega), ⟨by omega, by omega⟩, rfl, hP, hD, hS, hl⟩
    · have t_1 : ¬ p1.toInt ≥ 0 := toI_nge c_1 rfl (by decide : (0 : Int32).toInt = 0)
      refine lv_aload_n hx hb dX11_putTimes_4 rfl (lv_at hl 0 rfl) ?_
      obtain ⟨qS315, hR315, hSS315⟩ := hE.2.2.2 12 _ rfl
      refine lv_ldcwS hx hb hown hR315 dX11_putTimes_5 ?_
      refine W.known (fun hz0 hn0 => ?_)
      have hS0 := hS.1
      have hFc := allFree hD hS hA
      refine va_callv (va_runV (As := [.ref qS315]) (rest := []) ⟨hx, hb, hml, hown, hts⟩ (Met.sV (m_X11_putText l dC dI hX aX kX hT hM fX_ready fX_sheet dX_sheet nX_sheet iX_sheetLength xX_reader xX_solver xX_prover xX_values xX_clauses xX_nets qS315 2 (fun j => ([32, 45] : List Int32).getD j 0) b_fX_sheet (by first | exact b_nX_sheet | with_reducible assumption | exact ⟨by omega, by omega⟩ | assumption) (b_iX_sheetLength) (by first | with_reducible assumption | omega | (rw [iI_t (by omega) (by omega)]; omega) | (have h7 : (0 : Int32).toInt = 0 := (by decide); omega)) (by decide) s.heap.size) s.heap) (cwV 1 hts gwsMX11_putTimes_0 rfl rfl rfl (by decide +kernel) ⟨by first | decide +kernel | (dsimp only [headSpec] <;> omega), by first | decide +kernel | (dsimp only [headSpec] <;> omega)⟩) ⟨fun a U g mk q => by obtain ⟨q0, qh, q1, qP, qK, qD, qE⟩ := q; exact ⟨q0, qh, q1, qP, va_K.moved (u := U) (U := U.calling g mk a) (Vm.Alike.refl U.vm) qK, qD, qE.same rfl⟩, va_recv hK hP (ci := 11) (q0 := 0) rfl rfl, fun U hU9 hW => ⟨rfl, hU9, by rw [hU9], by rw [hU9]; exact hP, va_K.moved hW.alike hK, hD.weaken (fun _ _ _ _ => trivial), by rw [hU9]; exact (((hSS315 : (StrE qS315 2 (fun j => ([32, 45] : List Int32).getD j 0)) A s s.heap).kept hS.2.1).narrow (fun q h => hFc q h)).warm hW⟩⟩ rfl rfl hl.1 rfl (lv_room (Nat.le_of_ble_eq_true rfl)) dX11_putTimes_8 ⟨by first | decide +kernel | (dsimp only [headSpec] <;> omega), by first | decide +kernel | (dsimp only [headSpec] <;> omega)⟩) hS (fun q _ h => hFc q h) hFc (fun u t9_ H locs ht hvm hw9 hB9 hz1 hk1 hS => ?_)
      revert u hw9 hB9
      refine fz_p4 ?_
      intro fX_sheet_4 dX_sheet_4 nX_sheet_4 iX_sheetLength_4 hw9 hB9
      try dsimp only at hw9 hB9
      revert hw9
      refine fz_a6 ?_
      intro b_fX_sheet_4 b_nX_sheet_4 b_iX_sheetLength_4 b_shl_4 f4_0 f4_1
      have hg1 := hB9.1.2.2.1
      rw [ht] at hg1
      have hg2 := hB9.1.2.2.2
      rw [ht] at hg2
      have hSz := hB9.2
      rw [ht] at hSz
      have hP : va_P (dC, dI) vwCl (WX hX aX kX hT hM fX_ready fX_sheet_4 dX_sheet_4 nX_sheet_4 iX_sheetLength_4 xX_reader xX_solver xX_prover xX_values xX_clauses xX_nets) H := fz_P ht hB9.1.1
      have hD := fz_sd hP (hB9.1.2.1.weaken (fun _ q _ h => hFc q.1 h)) rfl
      have hz9 : H.size ≤ s.heap.size + (nX_sheet_4 / 32 - (nX_sheet / 32)) := by (try dsimp only at hg1); omega
      have hn9 : nS s.heap.size H ≤ (2 * nX_sheet_4 - (2 * nX_sheet)) := by rw [hSz.n hS0]; (try dsimp only at hg2); omega
      refine W.tight (cells2 := (nX_sheet_4 / 32 - (nX_sheet / 32))) (slots2 := (2 * nX_sheet_4 - (2 * nX_sheet))) hz9 hn9 ?_
      clear hz9 hn9 hz0 hn0 hS0 hSz hg1 hg2
      refine lv_goto (tgt := 26) hx hb dX11_putTimes_11 (by decide) ?_
      have hl : lv_has _ _ ([(0, .ref (hX 0)), (1, .int p1), (2, .int p2), (3, .int p3), (4, .int p4)]) := lv_sub hl [0, 1, 2, 3, 4] rfl
      refine W.known (fun hza hna => ?_)
      refine W.widen (k := 1875) (n := 120000) (by omega) (by omega) ?_
      exact join4 _ _ _ _ ⟨fX_sheet_4, dX_sheet_4, nX_sheet_4, iX_sheetLength_4, b_fX_sheet_4, (by first | exact b_nX_sheet_4 | with_reducible assumption | exact ⟨by omega, by omega⟩ | assumption), (b_iX_sheetLength_4), (by first | with_reducible assumption | omega | (rw [iI_t (by omega) (by omega)]; omega) | (have h7 : (0 : Int32).toInt = 0 := (by decide); omega)), (show iX_sheetLength.toInt ≤ iX_sheetLength_4.toInt from by omega), (show nX_sheet ≤ nX_sheet_4 from by omega), ⟨by omega, by omega⟩, rfl, hP, hD, hS, hl⟩
  · rintro H locs ls stk ⟨fX_sheet_j4, dX_sheet_j4, nX_sheet_j4, iX_sheetLength_j4, b_fX_sheet_j4, b_nX_sheet_j4, b_iX_sheetLength_j4, b_shl_j4, hjx, hgm0_j4, ⟨hzj, hnj⟩, rfl, hP, hD, hS, hl⟩
    refine W.tight (cells2 := (nX_sheet_j4 / 32 - (nX_sheet / 32))) (slots2 := (2 * nX_sheet_j4 - (2 * nX_sheet))) (tg1 hzj hS.1) (tg2 hnj) ?_
    refine lv_iload_n hx hb dX11_putTimes_26 rfl (lv_at hl 1 rfl) ?_
    refine W.known (fun hzk hnk => ?_)
    refine W.widen (k := 1875) (n := 120000) (by omega) (by omega) ?_
    refine W.cut (pc := 36) (fun H locs ls stk => ∃ (k0_j5 : Int32), (H.size + (nX_sheet / 32) ≤ s.heap.size + (nX_sheet_j4 / 32) ∧ nS s.heap.size H + (2 * nX_sheet) ≤ (2 * nX_sheet_j4)) ∧  stk = [.int k0_j5] ∧ va_P (dC, dI) vwCl (WX hX aX kX hT hM fX_ready fX_sheet_j4 dX_sheet_j4 nX_sheet_j4 iX_sheetLength_j4 xX_reader xX_solver xX_prover xX_values xX_clauses xX_nets) H ∧ va_D A (WX hX aX kX hT hM fX_ready fX_sheet_j4 dX_sheet_j4 nX_sheet_j4 iX_sheetLength_j4 xX_reader xX_solver xX_prover xX_values xX_clauses xX_nets) ∧ va_S A s.heap H locs ∧ lv_has ls 6 [(0, .ref (hX 0)), (1, .int p1), (2, .int p2), (3, .int p3), (4, .int p4)]) (fun join5 => ?_) ?_
    · refine W.tight (cells2 := (nX_sheet_j4 / 32 - (nX_sheet / 32))) (slots2 := (2 * nX_sheet_j4 - (2 * nX_sheet))) hzk hnk ?_
      refine lv_if_ge (tgt := 35) hx hb dX11_putTimes_27 (by decide) (fun c_27 => ?_) (fun c_27 => ?_)
      · have t_27 : p1.toInt ≥ 0 := toI_ge c_27 rfl (by decide : (0 : Int32).toInt = 0)
        refine lv_iload_n hx hb dX11_putTimes_35 rfl (lv_at hl 1 rfl) ?_
        have hl : lv_has _ _ ([(0, .ref (hX 0)), (1, .int p1), (2, .int p2), (3, .int p3), (4, .int p4)]) := lv_sub hl [0, 1, 2, 3, 4] rfl
        refine W.known (fun hza hna => ?_)
        refine W.widen (k := 1875) (n := 120000) (by omega) (by omega) ?_
        exact join5 _ _ _ _ ⟨p1, ⟨by omega, by omega⟩, rfl, hP, hD, hS, hl⟩
      · have t_27 : ¬ p1.toInt ≥ 0 := toI_nge c_27 rfl (by decide : (0 : Int32).toInt = 0)
        refine lv_iload_n hx hb dX11_putTimes_30 rfl (lv_at hl 1 rfl) ?_
        refine lv_ineg hx hb dX11_putTimes_31 ?_
        refine lv_topi (fun y6 hy6 => ?_)
        obtain rfl : (iI (-p1.toInt)) = y6 := (hy6.trans (iI_neg2 (iI_of _))).symm
        refine lv_goto (tgt := 36) hx hb dX11_putTimes_32 (by decide) ?_
        have hl : lv_has _ _ ([(0, .ref (hX 0)), (1, .int p1), (2, .int p2), (3, .int p3), (4, .int p4)]) := lv_sub hl [0, 1, 2, 3, 4] rfl
        refine W.known (fun hza hna => ?_)
        refine W.widen (k := 1875) (n := 120000) (by omega) (by omega) ?_
        exact join5 _ _ _ _ ⟨(iI (-p1.toInt)), ⟨by omega, by omega⟩, rfl, hP, hD, hS, hl⟩
    · rintro H locs ls stk ⟨k0_j5, ⟨hzj, hnj⟩, rfl, hP, hD, hS, hl⟩
      refine W.tight (cells2 := (nX_sheet_j4 / 32 - (nX_sheet / 32))) (slots2 := (2 * nX_sheet_j4 - (2 * nX_sheet))) (tg1 hzj hS.1) (tg2 hnj) ?_
      refine lv_istore hx hb dX11_putTimes_36 hl (by decide) rfl (fun ls (hl : lv_has ls _ ([(5, .int k0_j5), (0, .ref (hX 0)), (1, .int p1), (2, .int p2), (3, .int p3), (4, .int p4)])) => ?_)
      refine lv_iload hx hb dX11_putTimes_38 (lv_at hl 0 rfl) ?_
      refine lv_iconst (v := 1) hx hb dX11_putTimes_40 (by decide) ?_
      refine W.known (fun hzk hnk => ?_)
      refine W.widen (k := 1875) (n := 120000) (by omega) (by omega) ?_
      refine W.cut (pc := 69) (fun H locs ls stk => ∃ (fX_sheet_j6 : Nat → Int32) (dX_sheet_j6 : Nat) (nX_sheet_j6 : Nat) (iX_sheetLength_j6 : Int32), (∀ q : Nat, (-128) ≤ (fX_sheet_j6 q).toInt ∧ (fX_sheet_j6 q).toInt ≤ 127) ∧ (64 ≤ nX_sheet_j6 ∧ nX_sheet_j6 ≤ 60000) ∧ (0 ≤ iX_sheetLength_j6.toInt ∧ iX_sheetLength_j6.toInt ≤ 30000) ∧ (iX_sheetLength_j6.toInt ≤ ((nX_sheet_j6 : Nat) : Int)) ∧ (iX_sheetLength.toInt ≤ iX_sheetLength_j6.toInt) ∧ (nX_sheet ≤ nX_sheet_j6) ∧ (H.size + (nX_sheet / 32) ≤ s.heap.size + (nX_sheet_j6 / 32) ∧ nS s.heap.size H + (2 * nX_sheet) ≤ (2 * nX_sheet_j6)) ∧  stk = [] ∧ va_P (dC, dI) vwCl (WX hX aX kX hT hM fX_ready fX_sheet_j6 dX_sheet_j6 nX_sheet_j6 iX_sheetLength_j6 xX_reader xX_solver xX_prover xX_values xX_clauses xX_nets) H ∧ va_D A (WX hX aX kX hT hM fX_ready fX_sheet_j6 dX_sheet_j6 nX_sheet_j6 iX_sheetLength_j6 xX_reader xX_solver xX_prover xX_values xX_clauses xX_nets) ∧ va_S A s.heap H locs ∧ lv_has ls 6 [(5, .int k0_j5), (0, .ref (hX 0)), (1, .int p1), (2, .int p2), (3, .int p3), (4, .int p4)]) (fun join6 => ?_) ?_
      · refine W.tight (cells2 := (nX_sheet_j4 / 32 - (nX_sheet / 32))) (slots2 := (2 * nX_sheet_j4 - (2 * nX_sheet))) hzk hnk ?_
        refine lv_icmp_ne (tgt := 49) hx hb dX11_putTimes_41 (by decide) (fun c_41 => ?_) (fun c_41 => ?_)
        · have t_41 : k0_j5.toInt ≠ 1 := toI_ne c_41 rfl (by decide : (1 : Int32).toInt = 1)
          refine lv_aload_n hx hb dX11_putTimes_49 rfl (lv_at hl 1 rfl) ?_
          refine lv_bipush (v := 32) hx hb dX11_putTimes_50 (by decide) ?_
          refine W.known (fun hz0 hn0 => ?_)
          have hS0 := hS.1
          have hFc := allFree hD hS hA
          refine va_callv (va_runV (As := [.int 32]) (rest := []) ⟨hx, hb, hml, hown, hts⟩ (Met.sV (m_X11_put l dC dI hX aX kX hT hM fX_ready fX_sheet_j4 dX_sheet_j4 nX_sheet_j4 iX_sheetLength_j4 xX_reader xX_solver xX_prover xX_values xX_clauses xX_nets 32 b_fX_sheet_j4 (by first | exact b_nX_sheet_j4 | with_reducible assumption | exact ⟨by omega, by omega⟩ | assumption) (b_iX_sheetLength_j4) (by first | with_reducible assumption | omega | (rw [iI_t (by omega) (by omega)]; omega) | (have h7 : (0 : Int32).toInt = 0 := (by decide); omega)) H.size) H) (cwV 1 hts gwsMX11_putTimes_1 rfl rfl rfl (by decide +kernel) ⟨by first | decide +kernel | (dsimp only [headSpec] <;> omega), by first | decide +kernel | (dsimp only [headSpec] <;> omega)⟩) ⟨fun a U g mk q => by obtain ⟨q0, qh, q1, qP, qK, qD⟩ := q; exact ⟨q0, qh, q1, qP, va_K.moved (u := U) (U := U.calling g mk a) (Vm.Alike.refl U.vm) qK, qD⟩, va_recv hK hP (ci := 11) (q0 := 0) rfl rfl, fun U hU9 hW => ⟨rfl, hU9, by rw [hU9], by rw [hU9]; exact hP, va_K.moved hW.alike hK, hD.weaken (fun _ _ _ _ => trivial)⟩⟩ rfl rfl hl.1 rfl (lv_room (Nat.le_of_ble_eq_true rfl)) dX11_putTimes_52 ⟨by first | decide +kernel | (dsimp only [headSpec] <;> omega), by first | decide +kernel | (dsimp only [headSpec] <;> omega)⟩) hS (fun q _ h => hFc q h) hFc (fun u t9_ H locs ht hvm hw9 hB9 hz1 hk1 hS => ?_)
          revert u hw9 hB9
          refine fz_p4 ?_
          intro fX_sheet_13 dX_sheet_13 nX_sheet_13 iX_sheetLength_13 hw9 hB9
          try dsimp only at hw9 hB9
          revert hw9
          refine fz_a6 ?_
          intro b_fX_sheet_13 b_nX_sheet_13 b_iX_sheetLength_13 b_shl_13 f13_0 f13_1
          have hg1 := hB9.1.2.2.1
          rw [ht] at hg1
          have hg2 := hB9.1.2.2.2
          rw [ht] at hg2
          have hSz := hB9.2
          rw [ht] at hSz
          have hP : va_P (dC, dI) vwCl (WX hX aX kX hT hM fX_ready fX_sheet_13 dX_sheet_13 nX_sheet_13 iX_sheetLength_13 xX_reader xX_solver xX_prover xX_values xX_clauses xX_nets) H := fz_P ht hB9.1.1
          have hD := fz_sd hP (hB9.1.2.1.weaken (fun _ q _ h => hFc q.1 h)) rfl
          have hz9 : H.size ≤ s.heap.size + (nX_sheet_13 / 32 - (nX_sheet / 32)) := by (try dsimp only at hg1); omega
          have hn9 : nS s.heap.size H ≤ (2 * nX_sheet_13 - (2 * nX_sheet)) := by rw [hSz.n hS0]; (try dsimp only at hg2); omega
          refine W.tight (cells2 := (nX_sheet_13 / 32 - (nX_sheet / 32))) (slots2 := (2 * nX_sheet_13 - (2 * nX_sheet))) hz9 hn9 ?_
          clear hz9 hn9 hz0 hn0 hS0 hSz hg1 hg2
          refine lv_aload_n hx hb dX11_putTimes_55 rfl (lv_at hl 1 rfl) ?_
          refine lv_iload hx hb dX11_putTimes_56 (lv_at hl 0 rfl) ?_
          refine lv_iload_n hx hb dX11_putTimes_58 rfl (lv_at hl 3 rfl) ?_
          refine W.known (fun hz0 hn0 => ?_)
          have hS0 := hS.1
          have hFc := allFree hD hS hA
          refine va_callv (va_runV (As := [.int k0_j5, .int p2]) (rest := []) ⟨hx, hb, hml, hown, hts⟩ (Met.sV (m_X11_putRatio l dC dI hX aX kX hT hM fX_ready fX_sheet_13 dX_sheet_13 nX_sheet_13 iX_sheetLength_13 xX_reader xX_solver xX_prover xX_values xX_clauses xX_nets k0_j5 p2 b_fX_sheet_13 (by first | exact b_nX_sheet_13 | with_reducible assumption | exact ⟨by omega, by omega⟩ | assumption) (b_iX_sheetLength_13) (by first | with_reducible assumption | omega | (rw [iI_t (by omega) (by omega)]; omega) | (have h7 : (0 : Int32).toInt = 0 := (by decide); omega)) H.size) H) (cwV 2 hts gwsMX11_putTimes_2 rfl rfl rfl (by decide +kernel) ⟨by first | decide +kernel | (dsimp only [headSpec] <;> omega), by first | decide +kernel | (dsimp only [headSpec] <;> omega)⟩) ⟨fun a U g mk q => by obtain ⟨q0, qh, q1, qP, qK, qD⟩ := q; exact ⟨q0, qh, q1, qP, va_K.moved (u := U) (U := U.calling g mk a) (Vm.Alike.refl U.vm) qK, qD⟩, va_recv hK hP (ci := 11) (q0 := 0) rfl rfl, fun U hU9 hW => ⟨rfl, hU9, by rw [hU9], by rw [hU9]; exact hP, va_K.moved hW.alike hK, hD.weaken (fun _ _ _ _ => trivial)⟩⟩ rfl rfl hl.1 rfl (lv_room (Nat.le_of_ble_eq_true rfl)) dX11_putTimes_59 ⟨by first | decide +kernel | (dsimp only [headSpec] <;> omega), by first | decide +kernel | (dsimp only [headSpec] <;> omega)⟩) hS (fun q _ h => hFc q h) hFc (fun u t9_ H locs ht hvm hw9 hB9 hz1 hk1 hS => ?_)
          revert u hw9 hB9
          refine fz_p4 ?_
          intro fX_sheet_14 dX_sheet_14 nX_sheet_14 iX_sheetLength_14 hw9 hB9
          try dsimp only at hw9 hB9
          revert hw9
          refine fz_a6 ?_
          intro b_fX_sheet_14 b_nX_sheet_14 b_iX_sheetLength_14 b_shl_14 f14_0 f14_1
          have hg1 := hB9.1.2.2.1
          rw [ht] at hg1
          have hg2 := hB9.1.2.2.2
          rw [ht] at hg2
          have hSz := hB9.2
          rw [ht] at hSz
          have hP : va_P (dC, dI) vwCl (WX hX aX kX hT hM fX_ready fX_sheet_14 dX_sheet_14 nX_sheet_14 iX_sheetLength_14 xX_reader xX_solver xX_prover xX_values xX_clauses xX_nets) H := fz_P ht hB9.1.1
          have hD := fz_sd hP (hB9.1.2.1.weaken (fun _ q _ h => hFc q.1 h)) rfl
          have hz9 : H.size ≤ s.heap.size + (nX_sheet_14 / 32 - (nX_sheet / 32)) := by (try dsimp only at hg1); omega
          have hn9 : nS s.heap.size H ≤ (2 * nX_sheet_14 - (2 * nX_sheet)) := by rw [hSz.n hS0]; (try dsimp only at hg2); omega
          refine W.tight (cells2 := (nX_sheet_14 / 32 - (nX_sheet / 32))) (slots2 := (2 * nX_sheet_14 - (2 * nX_sheet))) hz9 hn9 ?_
          clear hz9 hn9 hz0 hn0 hS0 hSz hg1 hg2
          refine lv_aload_n hx hb dX11_putTimes_62 rfl (lv_at hl 1 rfl) ?_
          obtain ⟨qS322, hR322, hSS322⟩ := hE.2.2.2 14 _ rfl
          refine lv_ldcwS hx hb hown hR322 dX11_putTimes_63 ?_
          refine W.known (fun hz0 hn0 => ?_)
          have hS0 := hS.1
          have hFc := allFree hD hS hA
          refine va_callv (va_runV (As := [.ref qS322]) (rest := []) ⟨hx, hb, hml, hown, hts⟩ (Met.sV (m_X11_putText l dC dI hX aX kX hT hM fX_ready fX_sheet_14 dX_sheet_14 nX_sheet_14 iX_sheetLength_14 xX_reader xX_solver xX_prover xX_values xX_clauses xX_nets qS322 2 (fun j => ([32, 42] : List Int32).getD j 0) b_fX_sheet_14 (by first | exact b_nX_sheet_14 | with_reducible assumption | exact ⟨by omega, by omega⟩ | assumption) (b_iX_sheetLength_14) (by first | with_reducible assumption | omega | (rw [iI_t (by omega) (by omega)]; omega) | (have h7 : (0 : Int32).toInt = 0 := (by decide); omega)) (by decide) H.size) H) (cwV 1 hts gwsMX11_putTimes_0 rfl rfl rfl (by decide +kernel) ⟨by first | decide +kernel | (dsimp only [headSpec] <;> omega), by first | decide +kernel | (dsimp only [headSpec] <;> omega)⟩) ⟨fun a U g mk q => by obtain ⟨q0, qh, q1, qP, qK, qD, qE⟩ := q; exact ⟨q0, qh, q1, qP, va_K.moved (u := U) (U := U.calling g mk a) (Vm.Alike.refl U.vm) qK, qD, qE.same rfl⟩, va_recv hK hP (ci := 11) (q0 := 0) rfl rfl, fun U hU9 hW => ⟨rfl, hU9, by rw [hU9], by rw [hU9]; exact hP, va_K.moved hW.alike hK, hD.weaken (fun _ _ _ _ => trivial), by rw [hU9]; exact (((hSS322 : (StrE qS322 2 (fun j => ([32, 42] : List Int32).getD j 0)) A s s.heap).kept hS.2.1).narrow (fun q h => hFc q h)).warm hW⟩⟩ rfl rfl hl.1 rfl (lv_room (Nat.le_of_ble_eq_true rfl)) dX11_putTimes_66 ⟨by first | decide +kernel | (dsimp only [headSpec] <;> omega), by first | decide +kernel | (dsimp only [headSpec] <;> omega)⟩) hS (fun q _ h => hFc q h) hFc (fun u t9_ H locs ht hvm hw9 hB9 hz1 hk1 hS => ?_)
          revert u hw9 hB9
          refine fz_p4 ?_
          intro fX_sheet_15 dX_sheet_15 nX_sheet_15 iX_sheetLength_15 hw9 hB9
          try dsimp only at hw9 hB9
          revert hw9
          refine fz_a6 ?_
          intro b_fX_sheet_15 b_nX_sheet_15 b_iX_sheetLength_15 b_shl_15 f15_0 f15_1
          have hg1 := hB9.1.2.2.1
          rw [ht] at hg1
          have hg2 := hB9.1.2.2.2
          rw [ht] at hg2
          have hSz := hB9.2
          rw [ht] at hSz
          have hP : va_P (dC, dI) vwCl (WX hX aX kX hT hM fX_ready fX_sheet_15 dX_sheet_15 nX_sheet_15 iX_sheetLength_15 xX_reader xX_solver xX_prover xX_values xX_clauses xX_nets) H := fz_P ht hB9.1.1
          have hD := fz_sd hP (hB9.1.2.1.weaken (fun _ q _ h => hFc q.1 h)) rfl
          have hz9 : H.size ≤ s.heap.size + (nX_sheet_15 / 32 - (nX_sheet / 32)) := by (try dsimp only at hg1); omega
          have hn9 : nS s.heap.size H ≤ (2 * nX_sheet_15 - (2 * nX_sheet)) := by rw [hSz.n hS0]; (try dsimp only at hg2); omega
          refine W.tight (cells2 := (nX_sheet_15 / 32 - (nX_sheet / 32))) (slots2 := (2 * nX_sheet_15 - (2 * nX_sheet))) hz9 hn9 ?_
          clear hz9 hn9 hz0 hn0 hS0 hSz hg1 hg2
          have hl : lv_has _ _ ([(5, .int k0_j5), (0, .ref (hX 0)), (1, .int p1), (2, .int p2), (3, .int p3), (4, .int p4)]) := lv_sub hl [0, 1, 2, 3, 4, 5] rfl
          refine W.known (fun hza hna => ?_)
          refine W.widen (k := 1875) (n := 120000) (by omega) (by omega) ?_
          exact join6 _ _ _ _ ⟨fX_sheet_15, dX_sheet_15, nX_sheet_15, iX_sheetLength_15, b_fX_sheet_15, (by first | exact b_nX_sheet_15 | with_reducible assumption | exact ⟨by omega, by omega⟩ | assumption), (b_iX_sheetLength_15), (by first | with_reducible assumption | omega | (rw [iI_t (by omega) (by omega)]; omega) | (have h7 : (0 : Int32).toInt = 0 := (by decide); omega)), (show iX_sheetLength.toInt ≤ iX_sheetLength_15.toInt from by omega), (show nX_sheet ≤ nX_sheet_15 from by omega), ⟨by omega, by omega⟩, rfl, hP, hD, hS, hl⟩
        · have t_41 : k0_j5.toInt = 1 := toI_nne c_41 rfl (by decide : (1 : Int32).toInt = 1)
          refine lv_iload_n hx hb dX11_putTimes_44 rfl (lv_at hl 3 rfl) ?_
          refine lv_iconst (v := 1) hx hb dX11_putTimes_45 (by decide) ?_
          refine lv_icmp_eq (tgt := 69) hx hb dX11_putTimes_46 (by decide) (fun c_46 => ?_) (fun c_46 => ?_)
          · have t_46 : p2.toInt = 1 := toI_eq c_46 rfl (by decide : (1 : Int32).toInt = 1)
            have hl : lv_has _ _ ([(5, .int k0_j5), (0, .ref (hX 0)), (1, .int p1), (2, .int p2), (3, .int p3), (4, .int p4)]) := lv_sub hl [0, 1, 2, 3, 4, 5] rfl
            refine W.known (fun hza hna => ?_)
            refine W.widen (k := 1875) (n := 120000) (by omega) (by omega) ?_
            exact join6 _ _ _ _ ⟨fX_sheet_j4, dX_sheet_j4, nX_sheet_j4, iX_sheetLength_j4, b_fX_sheet_j4, (by first | exact b_nX_sheet_j4 | with_reducible assumption | exact ⟨by omega, by omega⟩ | assumption), (b_iX_sheetLength_j4), (by first | with_reducible assumption | omega | (rw [iI_t (by omega) (by omega)]; omega) | (have h7 : (0 : Int32).toInt = 0 := (by decide); omega)), (show iX_sheetLength.toInt ≤ iX_sheetLength_j4.toInt from by omega), (show nX_sheet ≤ nX_sheet_j4 from by omega), ⟨by omega, by omega⟩, rfl, hP, hD, hS, hl⟩
          · have t_46 : ¬ p2.toInt = 1 := toI_neq c_46 rfl (by decide : (1 : Int32).toInt = 1)
            refine lv_aload_n hx hb dX11_putTimes_49 rfl (lv_at hl 1 rfl) ?_
            refine lv_bipush (v := 32) hx hb dX11_putTimes_50 (by decide) ?_
            refine W.known (fun hz0 hn0 => ?_)
            have hS0 := hS.1
            have hFc := allFree hD hS hA
            refine va_callv (va_runV (As := [.int 32]) (rest := []) ⟨hx, hb, hml, hown, hts⟩ (Met.sV (m_X11_put l dC dI hX aX kX hT hM fX_ready fX_sheet_j4 dX_sheet_j4 nX_sheet_j4 iX_sheetLength_j4 xX_reader xX_solver xX_prover xX_values xX_clauses xX_nets 32 b_fX_sheet_j4 (by first | exact b_nX_sheet_j4 | with_reducible assumption | exact ⟨by omega, by omega⟩ | assumption) (b_iX_sheetLength_j4) (by first | with_reducible assumption | omega | (rw [iI_t (by omega) (by omega)]; omega) | (have h7 : (0 : Int32).toInt = 0 := (by decide); omega)) H.size) H) (cwV 1 hts gwsMX11_putTimes_1 rfl rfl rfl (by decide +kernel) ⟨by first | decide +kernel | (dsimp only [headSpec] <;> omega), by first | decide +kernel | (dsimp only [headSpec] <;> omega)⟩) ⟨fun a U g mk q => by obtain ⟨q0, qh, q1, qP, qK, qD⟩ := q; exact ⟨q0, qh, q1, qP, va_K.moved (u := U) (U := U.calling g mk a) (Vm.Alike.refl U.vm) qK, qD⟩, va_recv hK hP (ci := 11) (q0 := 0) rfl rfl, fun U hU9 hW => ⟨rfl, hU9, by rw [hU9], by rw [hU9]; exact hP, va_K.moved hW.alike hK, hD.weaken (fun _ _ _ _ => trivial)⟩⟩ rfl rfl hl.1 rfl (lv_room (Nat.le_of_ble_eq_true rfl)) dX11_putTimes_52 ⟨by first | decide +kernel | (dsimp only [headSpec] <;> omega), by first | decide +kernel | (dsimp only [headSpec] <;> omega)⟩) hS (fun q _ h => hFc q h) hFc (fun u t9_ H locs ht hvm hw9 hB9 hz1 hk1 hS => ?_)
            revert u hw9 hB9
            refine fz_p4 ?_
            intro fX_sheet_16 dX_sheet_16 nX_sheet_16 iX_sheetLength_16 hw9 hB9
            try dsimp only at hw9 hB9
            revert hw9
            refine fz_a6 ?_
            intro b_fX_sheet_16 b_nX_sheet_16 b_iX_sheetLength_16 b_shl_16 f16_0 f16_1
            have hg1 := hB9.1.2.2.1
            rw [ht] at hg1
            have hg2 := hB9.1.2.2.2
            rw [ht] at hg2
            have hSz := hB9.2
            rw [ht] at hSz
            have hP : va_P (dC, dI) vwCl (WX hX aX kX hT hM fX_ready fX_sheet_16 dX_sheet_16 nX_sheet_16 iX_sheetLength_16 xX_reader xX_solver xX_prover xX_values xX_clauses xX_nets) H := fz_P ht hB9.1.1
            have hD := fz_sd hP (hB9.1.2.1.weaken (fun _ q _ h => hFc q.1 h)) rfl
            have hz9 : H.size ≤ s.heap.size + (nX_sheet_16 / 32 - (nX_sheet / 32)) := by (try dsimp only at hg1); omega
            have hn9 : nS s.heap.size H ≤ (2 * nX_sheet_16 - (2 * nX_sheet)) := by rw [hSz.n hS0]; (try dsimp only at hg2); omega
            refine W.tight (cells2 := (nX_sheet_16 / 32 - (nX_sheet / 32))) (slots2 := (2 * nX_sheet_16 - (2 * nX_sheet))) hz9 hn9 ?_
            clear hz9 hn9 hz0 hn0 hS0 hSz hg1 hg2
            refine lv_aload_n hx hb dX11_putTimes_55 rfl (lv_at hl 1 rfl) ?_
            refine lv_iload hx hb dX11_putTimes_56 (lv_at hl 0 rfl) ?_
            refine lv_iload_n hx hb dX11_putTimes_58 rfl (lv_at hl 3 rfl) ?_
            refine W.known (fun hz0 hn0 => ?_)
            have hS0 := hS.1
            have hFc := allFree hD hS hA
            refine va_callv (va_runV (As := [.int k0_j5, .int p2]) (rest := []) ⟨hx, hb, hml, hown, hts⟩ (Met.sV (m_X11_putRatio l dC dI hX aX kX hT hM fX_ready fX_sheet_16 dX_sheet_16 nX_sheet_16 iX_sheetLength_16 xX_reader xX_solver xX_prover xX_values xX_clauses xX_nets k0_j5 p2 b_fX_sheet_16 (by first | exact b_nX_sheet_16 | with_reducible assumption | exact ⟨by omega, by omega⟩ | assumption) (b_iX_sheetLength_16) (by first | with_reducible assumption | omega | (rw [iI_t (by omega) (by omega)]; omega) | (have h7 : (0 : Int32).toInt = 0 := (by decide); omega)) H.size) H) (cwV 2 hts gwsMX11_putTimes_2 rfl rfl rfl (by decide +kernel) ⟨by first | decide +kernel | (dsimp only [headSpec] <;> omega), by first | decide +kernel | (dsimp only [headSpec] <;> omega)⟩) ⟨fun a U g mk q => by obtain ⟨q0, qh, q1, qP, qK, qD⟩ := q; exact ⟨q0, qh, q1, qP, va_K.moved (u := U) (U := U.calling g mk a) (Vm.Alike.refl U.vm) qK, qD⟩, va_recv hK hP (ci := 11) (q0 := 0) rfl rfl, fun U hU9 hW => ⟨rfl, hU9, by rw [hU9], by rw [hU9]; exact hP, va_K.moved hW.alike hK, hD.weaken (fun _ _ _ _ => trivial)⟩⟩ rfl rfl hl.1 rfl (lv_room (Nat.le_of_ble_eq_true rfl)) dX11_putTimes_59 ⟨by first | decide +kernel | (dsimp only [headSpec] <;> omega), by first | decide +kernel | (dsimp only [headSpec] <;> omega)⟩) hS (fun q _ h => hFc q h) hFc (fun u t9_ H locs ht hvm hw9 hB9 hz1 hk1 hS => ?_)
            revert u hw9 hB9
            refine fz_p4 ?_
            intro fX_sheet_17 dX_sheet_17 nX_sheet_17 iX_sheetLength_17 hw9 hB9
            try dsimp only at hw9 hB9
            revert hw9
            refine fz_a6 ?_
            intro b_fX_sheet_17 b_nX_sheet_17 b_iX_sheetLength_17 b_shl_17 f17_0 f17_1
            have hg1 := hB9.1.2.2.1
            rw [ht] at hg1
            have hg2 := hB9.1.2.2.2
            rw [ht] at hg2
            have hSz := hB9.2
            rw [ht] at hSz
            have hP : va_P (dC, dI) vwCl (WX hX aX kX hT hM fX_ready fX_sheet_17 dX_sheet_17 nX_sheet_17 iX_sheetLength_17 xX_reader xX_solver xX_prover xX_values xX_clauses xX_nets) H := fz_P ht hB9.1.1
            have hD := fz_sd hP (hB9.1.2.1.weaken (fun _ q _ h => hFc q.1 h)) rfl
            have hz9 : H.size ≤ s.heap.size + (nX_sheet_17 / 32 - (nX_sheet / 32)) := by (try dsimp only at hg1); omega
            have hn9 : nS s.heap.size H ≤ (2 * nX_sheet_17 - (2 * nX_sheet)) := by rw [hSz.n hS0]; (try dsimp only at hg2); omega
            refine W.tight (cells2 := (nX_sheet_17 / 32 - (nX_sheet / 32))) (slots2 := (2 * nX_sheet_17 - (2 * nX_sheet))) hz9 hn9 ?_
            clear hz9 hn9 hz0 hn0 hS0 hSz hg1 hg2
            refine lv_aload_n hx hb dX11_putTimes_62 rfl (lv_at hl 1 rfl) ?_
            obtain ⟨qS322, hR322, hSS322⟩ := hE.2.2.2 14 _ rfl
            refine lv_ldcwS hx hb hown hR322 dX11_putTimes_63 ?_
            refine W.known (fun hz0 hn0 => ?_)
            have hS0 := hS.1
            have hFc := allFree hD hS hA
            refine va_callv (va_runV (As := [.ref qS322]) (rest := []) ⟨hx, hb, hml, hown, hts⟩ (Met.sV (m_X11_putText l dC dI hX aX kX hT hM fX_ready fX_sheet_17 dX_sheet_17 nX_sheet_17 iX_sheetLength_17 xX_reader xX_solver xX_prover xX_values xX_clauses xX_nets qS322 2 (fun j => ([32, 42] : List Int32).getD j 0) b_fX_sheet_17 (by first | exact b_nX_sheet_17 | with_reducible assumption | exact ⟨by omega, by omega⟩ | assumption) (b_iX_sheetLength_17) (by first | with_reducible assumption | omega | (rw [iI_t (by omega) (by omega)]; omega) | (have h7 : (0 : Int32).toInt = 0 := (by decide); omega)) (by decide) H.size) H) (cwV 1 hts gwsMX11_putTimes_0 rfl rfl rfl (by decide +kernel) ⟨by first | decide +kernel | (dsimp only [headSpec] <;> omega), by first | decide +kernel | (dsimp only [headSpec] <;> omega)⟩) ⟨fun a U g mk q => by obtain ⟨q0, qh, q1, qP, qK, qD, qE⟩ := q; exact ⟨q0, qh, q1, qP, va_K.moved (u := U) (U := U.calling g mk a) (Vm.Alike.refl U.vm) qK, qD, qE.same rfl⟩, va_recv hK hP (ci := 11) (q0 := 0) rfl rfl, fun U hU9 hW => ⟨rfl, hU9, by rw [hU9], by rw [hU9]; exact hP, va_K.moved hW.alike hK, hD.weaken (fun _ _ _ _ => trivial), by rw [hU9]; exact (((hSS322 : (StrE qS322 2 (fun j => ([32, 42] : List Int32).getD j 0)) A s s.heap).kept hS.2.1).narrow (fun q h => hFc q h)).warm hW⟩⟩ rfl rfl hl.1 rfl (lv_room (Nat.le_of_ble_eq_true rfl)) dX11_putTimes_66 ⟨by first | decide +kernel | (dsimp only [headSpec] <;> omega), by first | decide +kernel | (dsimp only [headSpec] <;> omega)⟩) hS (fun q _ h => hFc q h) hFc (fun u t9_ H locs ht hvm hw9 hB9 hz1 hk1 hS => ?_)
            revert u hw9 hB9
            refine fz_p4 ?_
            intro fX_sheet_18 dX_sheet_18 nX_sheet_18 iX_sheetLength_18 hw9 hB9
            try dsimp only at hw9 hB9
            revert hw9
            refine fz_a6 ?_
            intro b_fX_sheet_18 b_nX_sheet_18 b_iX_sheetLength_18 b_shl_18 f18_0 f18_1
            have hg1 := hB9.1.2.2.1
            rw [ht] at hg1
            have hg2 := hB9.1.2.2.2
            rw [ht] at hg2
            have hSz := hB9.2
            rw [ht] at hSz
            have hP : va_P (dC, dI) vwCl (WX hX aX kX hT hM fX_ready fX_sheet_18 dX_sheet_18 nX_sheet_18 iX_sheetLength_18 xX_reader xX_solver xX_prover xX_values xX_clauses xX_nets) H := fz_P ht hB9.1.1
            have hD := fz_sd hP (hB9.1.2.1.weaken (fun _ q _ h => hFc q.1 h)) rfl
            have hz9 : H.size ≤ s.heap.size + (nX_sheet_18 / 32 - (nX_sheet / 32)) := by (try dsimp only at hg1); omega
            have hn9 : nS s.heap.size H ≤ (2 * nX_sheet_18 - (2 * nX_sheet)) := by rw [hSz.n hS0]; (try dsimp only at hg2); omega
            refine W.tight (cells2 := (nX_sheet_18 / 32 - (nX_sheet / 32))) (slots2 := (2 * nX_sheet_18 - (2 * nX_sheet))) hz9 hn9 ?_
            clear hz9 hn9 hz0 hn0 hS0 hSz hg1 hg2
            have hl : lv_has _ _ ([(5, .int k0_j5), (0, .ref (hX 0)), (1, .int p1), (2, .int p2), (3, .int p3), (4, .int p4)]) := lv_sub hl [0, 1, 2, 3, 4, 5] rfl
            refine W.known (fun hza hna => ?_)
            refine W.widen (k := 1875) (n := 120000) (by omega) (by omega) ?_
            exact join6 _ _ _ _ ⟨fX_sheet_18, dX_sheet_18, nX_sheet_18, iX_sheetLength_18, b_fX_sheet_18, (by first | exact b_nX_sheet_18 | with_reducible assumption | exact ⟨by omega, by omega⟩ | assumption), (b_iX_sheetLength_18), (by first | with_reducible assumption | omega | (rw [iI_t (by omega) (by omega)]; omega) | (have h7 : (0 : Int32).toInt = 0 := (by decide); omega)), (show iX_sheetLength.toInt ≤ iX_sheetLength_18.toInt from by omega), (show nX_sheet ≤ nX_sheet_18 from by omega), ⟨by omega, by omega⟩, rfl, hP, hD, hS, hl⟩
      · rintro H locs ls stk ⟨fX_sheet_j6, dX_sheet_j6, nX_sheet_j6, iX_sheetLength_j6, b_fX_sheet_j6, b_nX_sheet_j6, b_iX_sheetLength_j6, b_shl_j6, hjx, hgm0_j6, ⟨hzj, hnj⟩, rfl, hP, hD, hS, hl⟩
        refine W.tight (cells2 := (nX_sheet_j6 / 32 - (nX_sheet / 32))) (slots2 := (2 * nX_sheet_j6 - (2 * nX_sheet))) (tg1 hzj hS.1) (tg2 hnj) ?_
        refine lv_aload_n hx hb dX11_putTimes_69 rfl (lv_at hl 1 rfl) ?_
        obtain ⟨qS324, hR324, hSS324⟩ := hE.2.2.2 15 _ rfl
        refine lv_ldcwS hx hb hown hR324 dX11_putTimes_70 ?_
        refine W.known (fun hz0 hn0 => ?_)
        have hS0 := hS.1
        have hFc := allFree hD hS hA
        refine va_callv (va_runV (As := [.ref qS324]) (rest := []) ⟨hx, hb, hml, hown, hts⟩ (Met.sV (m_X11_putText l dC dI hX aX kX hT hM fX_ready fX_sheet_j6 dX_sheet_j6 nX_sheet_j6 iX_sheetLength_j6 xX_reader xX_solver xX_prover xX_values xX_clauses xX_nets qS324 2 (fun j => ([32, 120] : List Int32).getD j 0) b_fX_sheet_j6 (by first | exact b_nX_sheet_j6 | with_reducible assumption | exact ⟨by omega, by omega⟩ | assumption) (b_iX_sheetLength_j6) (by first | with_reducible assumption | omega | (rw [iI_t (by omega) (by omega)]; omega) | (have h7 : (0 : Int32).toInt = 0 := (by decide); omega)) (by decide) H.size) H) (cwV 1 hts gwsMX11_putTimes_0 rfl rfl rfl (by decide +kernel) ⟨by first | decide +kernel | (dsimp only [headSpec] <;> omega), by first | decide +kernel | (dsimp only [headSpec] <;> omega)⟩) ⟨fun a U g mk q => by obtain ⟨q0, qh, q1, qP, qK, qD, qE⟩ := q; exact ⟨q0, qh, q1, qP, va_K.moved (u := U) (U := U.calling g mk a) (Vm.Alike.refl U.vm) qK, qD, qE.same rfl⟩, va_recv hK hP (ci := 11) (q0 := 0) rfl rfl, fun U hU9 hW => ⟨rfl, hU9, by rw [hU9], by rw [hU9]; exact hP, va_K.moved hW.alike hK, hD.weaken (fun _ _ _ _ => trivial), by rw [hU9]; exact (((hSS324 : (StrE qS324 2 (fun j => ([32, 120] : List Int32).getD j 0)) A s s.heap).kept hS.2.1).narrow (fun q h => hFc q h)).warm hW⟩⟩ rfl rfl hl.1 rfl (lv_room (Nat.le_of_ble_eq_true rfl)) dX11_putTimes_73 ⟨by first | decide +kernel | (dsimp only [headSpec] <;> omega), by first | decide +kernel | (dsimp only [headSpec] <;> omega)⟩) hS (fun q _ h => hFc q h) hFc (fun u t9_ H locs ht hvm hw9 hB9 hz1 hk1 hS => ?_)
        revert u hw9 hB9
        refine fz_p4 ?_
        intro fX_sheet_19 dX_sheet_19 nX_sheet_19 iX_sheetLength_19 hw9 hB9
        try dsimp only at hw9 hB9
        revert hw9
        refine fz_a6 ?_
        intro b_fX_sheet_19 b_nX_sheet_19 b_iX_sheetLength_19 b_shl_19 f19_0 f19_1
        have hg1 := hB9.1.2.2.1
        rw [ht] at hg1
        have hg2 := hB9.1.2.2.2
        rw [ht] at hg2
        have hSz := hB9.2
        rw [ht] at hSz
        have hP : va_P (dC, dI) vwCl (WX hX aX kX hT hM fX_ready fX_sheet_19 dX_sheet_19 nX_sheet_19 iX_sheetLength_19 xX_reader xX_solver xX_prover xX_values xX_clauses xX_nets) H := fz_P ht hB9.1.1
        have hD := fz_sd hP (hB9.1.2.1.weaken (fun _ q _ h => hFc q.1 h)) rfl
        have hz9 : H.size ≤ s.heap.size + (nX_sheet_19 / 32 - (nX_sheet / 32)) := by (try dsimp only at hg1); omega
        have hn9 : nS s.heap.size H ≤ (2 * nX_sheet_19 - (2 * nX_sheet)) := by rw [hSz.n hS0]; (try dsimp only at hg2); omega
        refine W.tight (cells2 := (nX_sheet_19 / 32 - (nX_sheet / 32))) (slots2 := (2 * nX_sheet_19 - (2 * nX_sheet))) hz9 hn9 ?_
        clear hz9 hn9 hz0 hn0 hS0 hSz hg1 hg2
        refine lv_aload_n hx hb dX11_putTimes_76 rfl (lv_at hl 1 rfl) ?_
        refine lv_iload_n hx hb dX11_putTimes_77 rfl (lv_at hl 4 rfl) ?_
        refine W.known (fun hz0 hn0 => ?_)
        have hS0 := hS.1
        have hFc := allFree hD hS hA
        refine va_callv (va_runV (As := [.int p3]) (rest := []) ⟨hx, hb, hml, hown, hts⟩ (Met.sV (m_X11_putNumber l dC dI hX aX kX hT hM fX_ready fX_sheet_19 dX_sheet_19 nX_sheet_19 iX_sheetLength_19 xX_reader xX_solver xX_prover xX_values xX_clauses xX_nets p3 b_fX_sheet_19 (by first | exact b_nX_sheet_19 | with_reducible assumption | exact ⟨by omega, by omega⟩ | assumption) (b_iX_sheetLength_19) (by first | with_reducible assumption | omega | (rw [iI_t (by omega) (by omega)]; omega) | (have h7 : (0 : Int32).toInt = 0 := (by decide); omega)) H.size) H) (cwV 1 hts gwsMX11_putTimes_3 rfl rfl rfl (by decide +kernel) ⟨by first | decide +kernel | (dsimp only [headSpec] <;> omega), by first | decide +kernel | (dsimp only [headSpec] <;> omega)⟩) ⟨fun a U g mk q => by obtain ⟨q0, qh, q1, qP, qK, qD⟩ := q; exact ⟨q0, qh, q1, qP, va_K.moved (u := U) (U := U.calling g mk a) (Vm.Alike.refl U.vm) qK, qD⟩, va_recv hK hP (ci := 11) (q0 := 0) rfl rfl, fun U hU9 hW => ⟨rfl, hU9, by rw [hU9], by rw [hU9]; exact hP, va_K.moved hW.alike hK, hD.weaken (fun _ _ _ _ => trivial)⟩⟩ rfl rfl hl.1 rfl (lv_room (Nat.le_of_ble_eq_true rfl)) dX11_putTimes_78 ⟨by first | decide +kernel | (dsimp only [headSpec] <;> omega), by first | decide +kernel | (dsimp only [headSpec] <;> omega)⟩) hS (fun q _ h => hFc q h) hFc (fun u t9_ H locs ht hvm hw9 hB9 hz1 hk1 hS => ?_)
        revert u hw9 hB9
        refine fz_p4 ?_
        intro fX_sheet_20 dX_sheet_20 nX_sheet_20 iX_sheetLength_20 hw9 hB9
        try dsimp only at hw9 hB9
        revert hw9
        refine fz_a6 ?_
        intro b_fX_sheet_20 b_nX_sheet_20 b_iX_sheetLength_20 b_shl_20 f20_0 f20_1
        have hg1 := hB9.1.2.2.1
        rw [ht] at hg1
        have hg2 := hB9.1.2.2.2
        rw [ht] at hg2
        have hSz := hB9.2
        rw [ht] at hSz
        have hP : va_P (dC, dI) vwCl (WX hX aX kX hT hM fX_ready fX_sheet_20 dX_sheet_20 nX_sheet_20 iX_sheetLength_20 xX_reader xX_solver xX_prover xX_values xX_clauses xX_nets) H := fz_P ht hB9.1.1
        have hD := fz_sd hP (hB9.1.2.1.weaken (fun _ q _ h => hFc q.1 h)) rfl
        have hz9 : H.size ≤ s.heap.size + (nX_sheet_20 / 32 - (nX_sheet / 32)) := by (try dsimp only at hg1); omega
        have hn9 : nS s.heap.size H ≤ (2 * nX_sheet_20 - (2 * nX_sheet)) := by rw [hSz.n hS0]; (try dsimp only at hg2); omega
        refine W.tight (cells2 := (nX_sheet_20 / 32 - (nX_sheet / 32))) (slots2 := (2 * nX_sheet_20 - (2 * nX_sheet))) hz9 hn9 ?_
        clear hz9 hn9 hz0 hn0 hS0 hSz hg1 hg2
        refine W.known (fun hz9 hn9 => ?_)
        refine W.widen (k := 7501) (n := 540000) (by omega) (by omega) ?_
        exact W.vret hx hb hr (fun t9_ ht hW => ⟨⟨(fX_sheet_20, dX_sheet_20, nX_sheet_20, iX_sheetLength_20), rfl, ⟨b_fX_sheet_20, (by (try dsimp only); exact (by first | exact b_nX_sheet_20 | with_reducible assumption | exact ⟨by omega, by omega⟩ | assumption)), b_iX_sheetLength_20, (by (try dsimp only); exact (by first | with_reducible assumption | omega | (rw [iI_t (by omega) (by omega)]; omega) | (have h7 : (0 : Int32).toInt = 0 := (by decide); omega))), (by (try dsimp only); omega), (by (try dsimp only); first | omega | (rw [iI_t (by omega) (by omega)]; omega))⟩, by rw [ht]; exact hP, hD, by rw [ht]; (try dsimp only); omega, by rw [ht]; (try dsimp only); omega⟩, hS.F ht⟩) hS.2.2 dX11_putTimes_81
theorem dX11_putWay_0 : decode cX11_putWay 0 = .ok (.iconst 1, 1) := dk_4 (by decide +kernel)
theorem dX11_putWay_1 : decode cX11_putWay 1 = .ok (.istore_n 3, 1) := dk_62 (by decide +kernel)
theorem dX11_putWay_2 : decode cX11_putWay 2 = .ok (.iconst 0, 1) := dk_3 (by decide +kernel)
theorem dX11_putWay_3 : decode cX11_putWay 3 = .ok (.istore 4, 2) := dk_54 (by decide +kernel)
theorem dX11_putWay_5 : decode cX11_putWay 5 = .ok (.iload 4, 2) := dk_21 (by decide +kernel)
theorem dX11_putWay_7 : decode cX11_putWay 7 = .ok (.aload_n 0, 1) := dk_42 (by decide +kernel)
theorem dX11_putWay_8 : decode cX11_putWay 8 = .ok (.getfield 23, 3) := dk_180 (by decide +kernel)
theorem dX11_putWay_11 : decode cX11_putWay 11 = .ok (.getfield 84, 3) := dk_180 (by decide +kernel)
theorem dX11_putWay_14 : decode cX11_putWay 14 = .ok (.if_icmp .ge 39, 3) := dk_162 (by decide +kernel)
theorem dX11_putWay_17 : decode cX11_putWay 17 = .ok (.aload_n 0, 1) := dk_42 (by decide +kernel)
theorem dX11_putWay_18 : decode cX11_putWay 18 = .ok (.getfield 23, 3) := dk_180 (by decide +kernel)
theorem dX11_putWay_21 : decode cX11_putWay 21 = .ok (.iload_n 1, 1) := dk_27 (by decide +kernel)
theorem dX11_putWay_22 : decode cX11_putWay 22 = .ok (.iload_n 2, 1) := dk_28 (by decide +kernel)
theorem dX11_putWay_23 : decode cX11_putWay 23 = .ok (.iload 4, 2) := dk_21 (by decide +kernel)
theorem dX11_putWay_25 : decode cX11_putWay 25 = .ok (.invokevirtual 119, 3) := dk_182 (by decide +kernel)
theorem dX11_putWay_28 : decode cX11_putWay 28 = .ok (.istore 5, 2) := dk_54 (by decide +kernel)
theorem dX11_putWay_30 : decode cX11_putWay 30 = .ok (.iload 5, 2) := dk_21 (by decide +kernel)
theorem dX11_putWay_32 : decode cX11_putWay 32 = .ok (.ifCond .eq 15, 3) := dk_153 (by decide +kernel)
theorem dX11_putWay_35 : decode cX11_putWay 35 = .ok (.aload_n 0, 1) := dk_42 (by decide +kernel)
theorem dX11_putWay_36 : decode cX11_putWay 36 = .ok (.iload 5, 2) := dk_21 (by decide +kernel)
theorem dX11_putWay_38 : decode cX11_putWay 38 = .ok (.iconst 1, 1) := dk_4 (by decide +kernel)
theorem dX11_putWay_39 : decode cX11_putWay 39 = .ok (.iload 4, 2) := dk_21 (by decide +kernel)
theorem dX11_putWay_41 : decode cX11_putWay 41 = .ok (.iload_n 3, 1) := dk_29 (by decide +kernel)
theorem dX11_putWay_42 : decode cX11_putWay 42 = .ok (.invokevirtual 303, 3) := dk_182 (by decide +kernel)
theorem dX11_putWay_45 : decode cX11_putWay 45 = .ok (.iconst 0, 1) := dk_3 (by decide +kernel)
theorem dX11_putWay_46 : decode cX11_putWay 46 = .ok (.istore_n 3, 1) := dk_62 (by decide +kernel)
theorem dX11_putWay_47 : decode cX11_putWay 47 = .ok (.iinc 4 1, 3) := dk_132 (by decide +kernel)
theorem dX11_putWay_50 : decode cX11_putWay 50 = .ok (.goto (-45), 3) := dk_167 (by decide +kernel)
theorem dX11_putWay_53 : decode cX11_putWay 53 = .ok (.iload_n 3, 1) := dk_29 (by decide +kernel)
theorem dX11_putWay_54 : decode cX11_putWay 54 = .ok (.ifCond .eq 10, 3) := dk_153 (by decide +kernel)
theorem dX11_putWay_57 : decode cX11_putWay 57 = .ok (.aload_n 0, 1) := dk_42 (by decide +kernel)
theorem dX11_putWay_58 : decode cX11_putWay 58 = .ok (.ldc_w 307, 3) := dk_19 (by decide +kernel)
theorem dX11_putWay_61 : decode cX11_putWay 61 = .ok (.invokevirtual 279, 3) := dk_182 (by decide +kernel)
theorem dX11_putWay_64 : decode cX11_putWay 64 = .ok (.aload_n 0, 1) := dk_42 (by decide +kernel)
theorem dX11_putWay_65 : decode cX11_putWay 65 = .ok (.getfield 23, 3) := dk_180 (by decide +kernel)
theorem dX11_putWay_68 : decode cX11_putWay 68 = .ok (.iload_n 1, 1) := dk_27 (by decide +kernel)
theorem dX11_putWay_69 : decode cX11_putWay 69 = .ok (.iload_n 2, 1) := dk_28 (by decide +kernel)
theorem dX11_putWay_70 : decode cX11_putWay 70 = .ok (.invokevirtual 116, 3) := dk_182 (by decide +kernel)
theorem dX11_putWay_73 : decode cX11_putWay 73 = .ok (.istore 4, 2) := dk_54 (by decide +kernel)
theorem dX11_putWay_75 : decode cX11_putWay 75 = .ok (.aload_n 0, 1) := dk_42 (by decide +kernel)
theorem dX11_putWay_76 : decode cX11_putWay 76 = .ok (.iload 4, 2) := dk_21 (by decide +kernel)
theorem dX11_putWay_78 : decode cX11_putWay 78 = .ok (.ifCond .ne 9, 3) := dk_154 (by decide +kernel)
theorem dX11_putWay_81 : decode cX11_putWay 81 = .ok (.ldc_w 309, 3) := dk_19 (by decide +kernel)
theorem dX11_putWay_84 : decode cX11_putWay 84 = .ok (.goto 18, 3) := dk_167 (by decide +kernel)
theorem dX11_putWay_87 : decode cX11_putWay 87 = .ok (.iload 4, 2) := dk_21 (by decide +kernel)
theorem dX11_putWay_89 : decode cX11_putWay 89 = .ok (.iconst 1, 1) := dk_4 (by decide +kernel)
theorem dX11_putWay_90 : decode cX11_putWay 90 = .ok (.if_icmp .ne 9, 3) := dk_160 (by decide +kernel)
theorem dX11_putWay_93 : decode cX11_putWay 93 = .ok (.ldc_w 311, 3) := dk_19 (by decide +kernel)
theorem dX11_putWay_96 : decode cX11_putWay 96 = .ok (.goto 6, 3) := dk_167 (by decide +kernel)
theorem dX11_putWay_99 : decode cX11_putWay 99 = .ok (.ldc_w 313, 3) := dk_19 (by decide +kernel)
theorem dX11_putWay_102 : decode cX11_putWay 102 = .ok (.invokevirtual 279, 3) := dk_182 (by decide +kernel)
theorem dX11_putWay_105 : decode cX11_putWay 105 = .ok (.aload_n 0, 1) := dk_42 (by decide +kernel)
theorem dX11_putWay_106 : decode cX11_putWay 106 = .ok (.aload_n 0, 1) := dk_42 (by decide +kernel)
theorem dX11_putWay_107 : decode cX11_putWay 107 = .ok (.getfield 23, 3) := dk_180 (by decide +kernel)
theorem dX11_putWay_110 : decode cX11_putWay 110 = .ok (.iload_n 1, 1) := dk_27 (by decide +kernel)
theorem dX11_putWay_111 : decode cX11_putWay 111 = .ok (.iload_n 2, 1) := dk_28 (by decide +kernel)
theorem dX11_putWay_112 : decode cX11_putWay 112 = .ok (.invokevirtual 112, 3) := dk_182 (by decide +kernel)
theorem dX11_putWay_115 : decode cX11_putWay 115 = .ok (.invokevirtual 283, 3) := dk_182 (by decide +kernel)
theorem dX11_putWay_118 : decode cX11_putWay 118 = .ok (.return_, 1) := dk_177 (by decide +kernel)
def wsMX11_putWay : List Cond := .code yX11_putWay cX11_putWay 6 none :: ([.fieldLink RX11 23 "OptimaWorks" "model" "LOptimaWorks$Model;", .fieldLink RX11 84 "OptimaWorks$Model" "variables" "I"] ++ wsX10 ++ wsX110 ++ (wsV RX11 119 RX1 yX1_number wsMX1_number) ++ (wsV RX11 303 RX11 yX11_putTimes wsMX11_putTimes) ++ (wsV RX11 279 RX11 yX11_putText wsMX11_putText) ++ (wsV RX11 116 RX1 yX1_sign wsMX1_sign) ++ (wsV RX11 112 RX1 yX1_rightSide wsMX1_rightSide) ++ (wsV RX11 283 RX11 yX11_putNumber wsMX11_putNumber))
theorem iwsMX11_putWay_in1 : ∀ w ∈ wsX10, w ∈ wsMX11_putWay := fun _ h => List.mem_cons_of_mem _ (List.mem_append_left _ (List.mem_append_left _ (List.mem_append_left _ (List.mem_append_left _ (List.mem_append_left _ (List.mem_append_left _ (List.mem_append_left _ (List.mem_append_right _ h))))))))
theorem iwsMX11_putWay_in11 : ∀ w ∈ wsX110, w ∈ wsMX11_putWay := fun _ h => List.mem_cons_of_mem _ (List.mem_append_left _ (List.mem_append_left _ (List.mem_append_left _ (List.mem_append_left _ (List.mem_append_left _ (List.mem_append_left _ (List.mem_append_right _ h)))))))
theorem gwsMX11_putWay_0 : GoodIn wsMX11_putWay (wsV RX11 119 RX1 yX1_number wsMX1_number) := goodIn_sub (fun _ h => List.mem_cons_of_mem _ (List.mem_append_left _ (List.mem_append_left _ (List.mem_append_left _ (List.mem_append_left _ (List.mem_append_left _ (List.mem_append_right _ h))))))) (gdV (by decide +kernel) gdwsMX1_number)
theorem gwsMX11_putWay_1 : GoodIn wsMX11_putWay (wsV RX11 303 RX11 yX11_putTimes wsMX11_putTimes) := goodIn_sub (fun _ h => List.mem_cons_of_mem _ (List.mem_append_left _ (List.mem_append_left _ (List.mem_append_left _ (List.mem_append_left _ (List.mem_append_right _ h)))))) (gdV (by decide +kernel) gdwsMX11_putTimes)
theorem gwsMX11_putWay_2 : GoodIn wsMX11_putWay (wsV RX11 279 RX11 yX11_putText wsMX11_putText) := goodIn_sub (fun _ h => List.mem_cons_of_mem _ (List.mem_append_left _ (List.mem_append_left _ (List.mem_append_left _ (List.mem_append_right _ h))))) (gdV (by decide +kernel) gdwsMX11_putText)
theorem gwsMX11_putWay_3 : GoodIn wsMX11_putWay (wsV RX11 116 RX1 yX1_sign wsMX1_sign) := goodIn_sub (fun _ h => List.mem_cons_of_mem _ (List.mem_append_left _ (List.mem_append_left _ (List.mem_append_right _ h)))) (gdV (by decide +kernel) gdwsMX1_sign)
theorem gwsMX11_putWay_4 : GoodIn wsMX11_putWay (wsV RX11 112 RX1 yX1_rightSide wsMX1_rightSide) := goodIn_sub (fun _ h => List.mem_cons_of_mem _ (List.mem_append_left _ (List.mem_append_right _ h))) (gdV (by decide +kernel) gdwsMX1_rightSide)
theorem gwsMX11_putWay_5 : GoodIn wsMX11_putWay (wsV RX11 283 RX11 yX11_putNumber wsMX11_putNumber) := goodIn_sub (fun _ h => List.mem_cons_of_mem _ (List.mem_append_right _ h)) (gdV (by decide +kernel) gdwsMX11_putNumber)
theorem gdwsMX11_putWay : wsMX11_putWay.all goodWord = true := gdC rfl (gdA (gdA (gdA (gdA (gdA (gdA (gdA (gdA (by decide +kernel : ([.fieldLink RX11 23 "OptimaWorks" "model" "LOptimaWorks$Model;", .fieldLink RX11 84 "OptimaWorks$Model" "variables" "I"] : List Cond).all goodWord = true) gdwsX10) gdwsX110) (gdV (by decide +kernel) gdwsMX1_number)) (gdV (by decide +kernel) gdwsMX11_putTimes)) (gdV (by decide +kernel) gdwsMX11_putText)) (gdV (by decide +kernel) gdwsMX1_sign)) (gdV (by decide +kernel) gdwsMX1_rightSide)) (gdV (by decide +kernel) gdwsMX11_putNumber))
theorem hm_m_X11_putWay_0 : (.fieldLink RX11 23 "OptimaWorks" "model" "LOptimaWorks$Model;" : Cond) ∈ wsMX11_putWay := by decide +kernel
set_option maxHeartbeats 4000000 in
set_option maxRecDepth 100000 in
/-- a way more -/
theorem m_X11_putWay (l : Launch) (hst : l.stackTraces = false) (dC : Nat → ClassId) (dI : Nat → Nat → Nat) (hX : Nat → Nat) (aX : Nat → Nat) (kX : Nat → ClassId) (hT : Nat → Nat) (hM : Nat → Nat) (fX_ready : Nat → Int32) (fX_sheet : Nat → Int32) (dX_sheet : Nat) (nX_sheet : Nat) (iX_sheetLength : Int32) (xX_reader : Value) (xX_solver : Value) (xX_prover : Value) (xX_values : Value) (xX_clauses : Value) (xX_nets : Value) (aM : Nat → Nat) (kM : Nat → ClassId) (iM_stands : Int32) (iM_variables : Int32) (iM_rows : Int32) (iM_goals : Int32) (iM_differents : Int32) (iM_cases : Int32) (fM_from : Nat → Int32) (fM_to : Nat → Int32) (fM_whole : Nat → Int32) (fM_ways : Nat → Int32) (iM_plainRows : Int32) (fM_plainRow : Nat → Int32) (fM_kept : Nat → Int32) (fM_goalOver : Nat → Int32) (fM_goalUnder : Nat → Int32) (fM_goalMax : Nat → Int32) (fM_different : Nat → Int32) (p1 : Int32) (p2 : Int32) (b_fX_sheet : ∀ q : Nat, (-128) ≤ (fX_sheet q).toInt ∧ (fX_sheet q).toInt ≤ 127) (b_nX_sheet : 64 ≤ nX_sheet ∧ nX_sheet ≤ 60000) (b_iX_sheetLength : 0 ≤ iX_sheetLength.toInt ∧ iX_sheetLength.toInt ≤ 30000) (b_shl : iX_sheetLength.toInt ≤ ((nX_sheet : Nat) : Int)) (b_iM_stands : 0 ≤ iM_stands.toInt ∧ iM_stands.toInt ≤ 1) (b_iM_variables : 0 ≤ iM_variables.toInt ∧ iM_variables.toInt ≤ 8) (b_iM_rows : 0 ≤ iM_rows.toInt ∧ iM_rows.toInt ≤ 12) (b_iM_goals : 0 ≤ iM_goals.toInt ∧ iM_goals.toInt ≤ 3) (b_iM_differents : 0 ≤ iM_differents.toInt ∧ iM_differents.toInt ≤ 8) (b_iM_cases : 0 ≤ iM_cases.toInt ∧ iM_cases.toInt ≤ 200000) (b_fM_ways : ∀ q : Nat, 0 ≤ (fM_ways q).toInt ∧ (fM_ways q).toInt ≤ 3) (b_iM_plainRows : 0 ≤ iM_plainRows.toInt ∧ iM_plainRows.toInt ≤ 12) (b_fM_plainRow : ∀ q : Nat, 0 ≤ (fM_plainRow q).toInt ∧ (fM_plainRow q).toInt ≤ 11) (b_pr : iM_plainRows.toInt ≤ iM_rows.toInt) (b_p1 : 0 ≤ p1.toInt ∧ p1.toInt ≤ 11) (b_p2 : 0 ≤ p2.toInt ∧ p2.toInt ≤ 2) (sz : Nat) : Met l yX11_putWay wsMX11_putWay ({ frames := 6, cells := 9376, slots := 660000, locals := 132 }) (va_Pc [.ref (hX 0), .int p1, .int p2] (fun U => U.heap.size = sz ∧ va_P (dC, dI) vwCl (WX hX aX kX hT hM fX_ready fX_sheet dX_sheet nX_sheet iX_sheetLength xX_reader xX_solver xX_prover xX_values xX_clauses xX_nets ++ (WM hM aM kM iM_stands iM_variables iM_rows iM_goals iM_differents iM_cases fM_from fM_to fM_whole fM_ways iM_plainRows fM_plainRow fM_kept fM_goalOver fM_goalUnder fM_goalMax fM_different)) U.heap ∧ va_K (dC, dI) vwCl (tX kX ++ (tM kM)) U ∧ va_D (fun _ => True) (WX hX aX kX hT hM fX_ready fX_sheet dX_sheet nX_sheet iX_sheetLength xX_reader xX_solver xX_prover xX_values xX_clauses xX_nets ++ (WM hM aM kM iM_stands iM_variables iM_rows iM_goals iM_differents iM_cases fM_from fM_to fM_whole fM_ways iM_plainRows fM_plainRow fM_kept fM_goalOver fM_goalUnder fM_goalMax fM_different)) ∧ CE (va_A (WX hX aX kX hT hM fX_ready fX_sheet dX_sheet nX_sheet iX_sheetLength xX_reader xX_solver xX_prover xX_values xX_clauses xX_nets ++ (WM hM aM kM iM_stands iM_variables iM_rows iM_goals iM_differents iM_cases fM_from fM_to fM_whole fM_ways iM_plainRows fM_plainRow fM_kept fM_goalOver fM_goalUnder fM_goalMax fM_different)) sz) U U.heap)) (va_Qv (fun (u : (Nat → Int32) × (Nat) × (Nat) × (Int32)) => (∀ q : Nat, (-128) ≤ ((u.1) q).toInt ∧ ((u.1) q).toInt ≤ 127) ∧ (64 ≤ (u.2.2.1) ∧ (u.2.2.1) ≤ 60000) ∧ (0 ≤ (u.2.2.2).toInt ∧ (u.2.2.2).toInt ≤ 30000) ∧ ((u.2.2.2).toInt ≤ (((u.2.2.1) : Nat) : Int)) ∧ (nX_sheet ≤ (u.2.2.1)) ∧ (iX_sheetLength.toInt ≤ (u.2.2.2).toInt)) (fun (u : (Nat → Int32) × (Nat) × (Nat) × (Int32)) t => va_P (dC, dI) vwCl (WX hX aX kX hT hM fX_ready (u.1) (u.2.1) (u.2.2.1) (u.2.2.2) xX_reader xX_solver xX_prover xX_values xX_clauses xX_nets ++ (WM hM aM kM iM_stands iM_variables iM_rows iM_goals iM_differents iM_cases fM_from fM_to fM_whole fM_ways iM_plainRows fM_plainRow fM_kept fM_goalOver fM_goalUnder fM_goalMax fM_different)) t.heap ∧ va_D (va_A (WX hX aX kX hT hM fX_ready fX_sheet dX_sheet nX_sheet iX_sheetLength xX_reader xX_solver xX_prover xX_values xX_clauses xX_nets ++ (WM hM aM kM iM_stands iM_variables iM_rows iM_goals iM_differents iM_cases fM_from fM_to fM_whole fM_ways iM_plainRows fM_plainRow fM_kept fM_goalOver fM_goalUnder fM_goalMax fM_different)) sz) (WX hX aX kX hT hM fX_ready (u.1) (u.2.1) (u.2.2.1) (u.2.2.2) xX_reader xX_solver xX_prover xX_values xX_clauses xX_nets ++ (WM hM aM kM iM_stands iM_variables iM_rows iM_goals iM_differents iM_cases fM_from fM_to fM_whole fM_ways iM_plainRows fM_plainRow fM_kept fM_goalOver fM_goalUnder fM_goalMax fM_different)) ∧ t.heap.size + (nX_sheet / 32) ≤ sz + ((u.2.2.1) / 32) ∧ nS sz t.heap + (2 * nX_sheet) ≤ (2 * (u.2.2.1))) (va_A (WX hX aX kX hT hM fX_ready fX_sheet dX_sheet nX_sheet iX_sheetLength xX_reader xX_solver xX_prover xX_values xX_clauses xX_nets ++ (WM hM aM kM iM_stands iM_variables iM_rows iM_goals iM_differents iM_cases fM_from fM_to fM_whole fM_ways iM_plainRows fM_plainRow fM_kept fM_goalOver fM_goalUnder fM_goalMax fM_different)) sz)) 9376 660000 (va_A (WX hX aX kX hT hM fX_ready fX_sheet dX_sheet nX_sheet iX_sheetLength xX_reader xX_solver xX_prover xX_values xX_clauses xX_nets ++ (WM hM aM kM iM_stands iM_variables iM_rows iM_goals iM_differents iM_cases fM_from fM_to fM_whole fM_ways iM_plainRows fM_plainRow fM_kept fM_goalOver fM_goalUnder fM_goalMax fM_different)) sz) := by
  refine Met.ofW (cc := cX11_putWay) (maxL := 6) (ret := none) (by decide) rfl ?_
  intro p e s m args below meth c s₁ B hml hv
  obtain ⟨rfl, hsz, hP, hK, hD0, hE⟩ := hv
  have hx := B.exec
  have hb := B.bytes
  have hr := B.returns
  have hts := atoms_spec (ws := wsMX11_putWay) B.pre
  have hown : s.vm.findClass RX11 = some m.cls := findClass_of_methodNamed B.named
  have hlocks := B.notSynchronized
  subst hsz
  have hD := hD0.self (sz := s.heap.size)
  generalize hAe : va_A (WX hX aX kX hT hM fX_ready fX_sheet dX_sheet nX_sheet iX_sheetLength xX_reader xX_solver xX_prover xX_values xX_clauses xX_nets ++ (WM hM aM kM iM_stands iM_variables iM_rows iM_goals iM_differents iM_cases fM_from fM_to fM_whole fM_ways iM_plainRows fM_plainRow fM_kept fM_goalOver fM_goalUnder fM_goalMax fM_different)) s.heap.size = A at hD hE ⊢
  have hA : ∀ q : Nat, s.heap.size ≤ q → A q := fun q h => by rw [← hAe]; exact Or.inr h
  have hS : va_S A s.heap s.heap [] := va_S.rf
  have hl := lv_entry ([.ref (hX 0), .int p1, .int p2]) (n := 6) (Nat.le_of_ble_eq_true rfl)
  rw [lg_entry_eq]
  generalize (lg_sl ([.ref (hX 0), .int p1, .int p2]) ++ List.replicate (6 - (lg_sl ([.ref (hX 0), .int p1, .int p2])).length) Slot.unset).toArray = ls at hl ⊢
  have hl : lv_has ls 6 [(0, .ref (hX 0)), (1, .int p1), (2, .int p2)] := hl
  refine W.widen (k := (nX_sheet / 32 - (nX_sheet / 32))) (n := (2 * nX_sheet - (2 * nX_sheet))) (Nat.zero_le _) (Nat.zero_le _) ?_
  refine lv_iconst (v := 1) hx hb dX11_putWay_0 (by decide) ?_
  refine lv_istore_n hx hb dX11_putWay_1 rfl hl (by decide) rfl (fun ls (hl : lv_has ls _ ([(3, .int 1), (0, .ref (hX 0)), (1, .int p1), (2, .int p2)])) => ?_)
  refine lv_iconst (v := 0) hx hb dX11_putWay_2 (by decide) ?_
  refine lv_istore hx hb dX11_putWay_3 hl (by decide) rfl (fun ls (hl : lv_has ls _ ([(4, .int 0), (3, .int 1), (0, .ref (hX 0)), (1, .int p1), (2, .int p2)])) => ?_)
  have hl : lv_has _ _ ([(4, .int 0), (3, .int 1), (0, .ref (hX 0)), (1, .int p1), (2, .int p2)]) := lv_sub hl [0, 1, 2, 3, 4] rfl
  refine (fun (loop : ∀ (n9 : Nat) (fX_sheet_x5 : Nat → Int32) (dX_sheet_x5 : Nat) (nX_sheet_x5 : Nat) (iX_sheetLength_x5 : Int32) (l4_x5 : Int32) (l3_x5 : Int32) (H : Heap) (locs : List Loc) (ls : Array Slot), (∀ q : Nat, (-128) ≤ (fX_sheet_x5 q).toInt ∧ (fX_sheet_x5 q).toInt ≤ 127) → (64 ≤ nX_sheet_x5 ∧ nX_sheet_x5 ≤ 60000) → (0 ≤ iX_sheetLength_x5.toInt ∧ iX_sheetLength_x5.toInt ≤ 30000) → (0 ≤ l4_x5.toInt ∧ l4_x5.toInt ≤ 8) → (0 ≤ l3_x5.toInt ∧ l3_x5.toInt ≤ 1) → (iX_sheetLength_x5.toInt ≤ ((nX_sheet_x5 : Nat) : Int)) → (iX_sheetLength.toInt ≤ iX_sheetLength_x5.toInt) → (nX_sheet ≤ nX_sheet_x5) → (8 - l4_x5.toInt < ((n9 : Nat) : Int)) → va_P (dC, dI) vwCl (WX hX aX kX hT hM fX_ready fX_sheet_x5 dX_sheet_x5 nX_sheet_x5 iX_sheetLength_x5 xX_reader xX_solver xX_prover xX_values xX_clauses xX_nets ++ (WM hM aM kM iM_stands iM_variables iM_rows iM_goals iM_differents iM_cases fM_from fM_to fM_whole fM_ways iM_plainRows fM_plainRow fM_kept fM_goalOver fM_goalUnder fM_goalMax fM_different)) H → va_D A (WX hX aX kX hT hM fX_ready fX_sheet_x5 dX_sheet_x5 nX_sheet_x5 iX_sheetLength_x5 xX_reader xX_solver xX_prover xX_values xX_clauses xX_nets ++ (WM hM aM kM iM_stands iM_variables iM_rows iM_goals iM_differents iM_cases fM_from fM_to fM_whole fM_ways iM_plainRows fM_plainRow fM_kept fM_goalOver fM_goalUnder fM_goalMax fM_different)) → va_S A s.heap H locs → lv_has ls 6 [(4, .int l4_x5), (3, .int l3_x5), (0, .ref (hX 0)), (1, .int p1), (2, .int p2)] → W p l e _ s m _ below meth c H locs (nX_sheet_x5 / 32 - (nX_sheet / 32)) (2 * nX_sheet_x5 - (2 * nX_sheet)) _ (F0 m 5 ls [])) => loop (9) fX_sheet dX_sheet nX_sheet iX_sheetLength 0 1 _ _ _ b_fX_sheet (by first | exact b_nX_sheet | with_reducible assumption | exact ⟨by omega, by omega⟩ | assumption) (b_iX_sheetLength) (show 0 ≤ (0 : Int32).toInt ∧ (0 : Int32).toInt ≤ 8 from by decide) (show 0 ≤ (1 : Int32).toInt ∧ (1 : Int32).toInt ≤ 1 from by decide) (by first | with_reducible assumption | omega | (rw [iI_t (by omega) (by omega)]; omega) | (have h7 : (0 : Int32).toInt = 0 := (by decide); omega)) (show iX_sheetLength.toInt ≤ iX_sheetLength.toInt from by omega) (show nX_sheet ≤ nX_sheet from by omega) ((by have e9 : (0 : Int32).toInt = 0 := (by decide : (0 : Int32).toInt = 0); omega)) hP hD hS hl) ?_
  intro n9
  induction n9 with
  | zero => intro fX_sheet_x5 dX_sheet_x5 nX_sheet_x5 iX_sheetLength_x5 l4_x5 l3_x5 H locs ls b_fX_sheet_x5 b_nX_sheet_x5 b_iX_sheetLength_x5 b_l4_x5 b_l3_x5 b_shl_x5 hlx hgm0_x5 hf9; exact False.elim (by omega)
  | succ n9 ihx5 =>
    intro fX_sheet_x5 dX_sheet_x5 nX_sheet_x5 iX_sheetLength_x5 l4_x5 l3_x5 H locs ls b_fX_sheet_x5 b_nX_sheet_x5 b_iX_sheetLength_x5 b_l4_x5 b_l3_x5 b_shl_x5 hlx hgm0_x5 hfx5 hP hD hS hl
    refine lv_iload hx hb dX11_putWay_5 (lv_at hl 0 rfl) ?_
    refine lv_aload_n hx hb dX11_putWay_7 rfl (lv_at hl 2 rfl) ?_
    refine va_get (D := (dC, dI)) (ci := 11) (v := .ref (hM 0)) (C := RX11) (T := TX11) (N := 11) hx hb hts iwsMX11_putWay_in11 hown hK hP 0 rfl rfl 2 (by decide) (hts _ hm_m_X11_putWay_0) (fun _ h9 => h9) rfl dX11_putWay_8 ?_
    refine va_get (D := (dC, dI)) (ci := 1) (v := .int iM_variables) (C := RX1) (T := TX1) (N := 17) hx hb hts iwsMX11_putWay_in1 hown hK hP 3 rfl rfl 1 (by decide) (hts (.fieldLink RX11 84 "OptimaWorks$Model" "variables" "I") (by decide +kernel)) (fun _ h9 => h9) rfl dX11_putWay_11 ?_
    refine lv_icmp_ge (tgt := 53) hx hb dX11_putWay_14 (by decide) (fun c_14 => ?_) (fun c_14 => ?_)
    · have t_14 : l4_x5.toInt ≥ iM_variables.toInt := toI_ge c_14 rfl rfl
      refine lv_iload_n hx hb dX11_putWay_53 rfl (lv_at hl 1 rfl) ?_
      refine W.known (fun hzk hnk => ?_)
      refine W.widen (k := 1875) (n := 120000) (by omega) (by omega) ?_
      refine W.cut (pc := 64) (fun H locs ls stk => ∃ (fX_sheet_j15 : Nat → Int32) (dX_sheet_j15 : Nat) (nX_sheet_j15 : Nat) (iX_sheetLength_j15 : Int32), (∀ q : Nat, (-128) ≤ (fX_sheet_j15 q).toInt ∧ (fX_sheet_j15 q).toInt ≤ 127) ∧ (64 ≤ nX_sheet_j15 ∧ nX_sheet_j15 ≤ 60000) ∧ (0 ≤ iX_sheetLength_j15.toInt ∧ iX_sheetLength_j15.toInt ≤ 30000) ∧ (iX_sheetLength_j15.toInt ≤ ((nX_sheet_j15 : Nat) : Int)) ∧ (iX_sheetLength.toInt ≤ iX_sheetLength_j15.toInt) ∧ (nX_sheet ≤ nX_sheet_j15) ∧ (H.size + (nX_sheet / 32) ≤ s.heap.size + (nX_sheet_j15 / 32) ∧ nS s.heap.size H + (2 * nX_sheet) ≤ (2 * nX_sheet_j15)) ∧  stk = [] ∧ va_P (dC, dI) vwCl (WX hX aX kX hT hM fX_ready fX_sheet_j15 dX_sheet_j15 nX_sheet_j15 iX_sheetLength_j15 xX_reader xX_solver xX_prover xX_values xX_clauses xX_nets ++ (WM hM aM kM iM_stands iM_variables iM_rows iM_goals iM_differents iM_cases fM_from fM_to fM_whole fM_ways iM_plainRows fM_plainRow fM_kept fM_goalOver fM_goalUnder fM_goalMax fM_different)) H ∧ va_D A (WX hX aX kX hT hM fX_ready fX_sheet_j15 dX_sheet_j15 nX_sheet_j15 iX_sheetLength_j15 xX_reader xX_solver xX_prover xX_values xX_clauses xX_nets ++ (WM hM aM kM iM_stands iM_variables iM_rows iM_goals iM_differents iM_cases fM_from fM_to fM_whole fM_ways iM_plainRows fM_plainRow fM_kept fM_goalOver fM_goalUnder fM_goalMax fM_different)) ∧ va_S A s.heap H locs ∧ lv_has ls 6 [(4, .int l4_x5), (3, .int l3_x5), (0, .ref (hX 0)), (1, .int p1), (2, .int p2)]) (fun join15 => ?_) ?_
      · refine W.tight (cells2 := (nX_sheet_x5 / 32 - (nX_sheet / 32))) (slots2 := (2 * nX_sheet_x5 - (2 * nX_sheet))) hzk hnk ?_
        refine lv_if_eq (tgt := 64) hx hb dX11_putWay_54 (by decide) (fun c_54 => ?_) (fun c_54 => ?_)
        · have t_54 : l3_x5.toInt = 0 := toI_eq c_54 rfl (by decide : (0 : Int32).toInt = 0)
          have hl : lv_has _ _ ([(4, .int l4_x5), (3, .int l3_x5), (0, .ref (hX 0)), (1, .int p1), (2, .int p2)]) := lv_sub hl [0, 1, 2, 3, 4] rfl
          refine W.known (fun hza hna => ?_)
          refine W.widen (k := 1875) (n := 120000) (by omega) (by omega) ?_
          exact join15 _ _ _ _ ⟨fX_sheet_x5, dX_sheet_x5, nX_sheet_x5, iX_sheetLength_x5, b_fX_sheet_x5, (by first | exact b_nX_sheet_x5 | with_reducible assumption | exact ⟨by omega, by omega⟩ | assumption), (b_iX_sheetLength_x5), (by first | with_reducible assumption | omega | (rw [iI_t (by omega) (by omega)]; omega) | (have h7 : (0 : Int32).toInt = 0 := (by decide); omega)), (show iX_sheetLength.toInt ≤ iX_sheetLength_x5.toInt from by omega), (show nX_sheet ≤ nX_sheet_x5 from by omega), ⟨by omega, by omega⟩, rfl, hP, hD, hS, hl⟩
        · have t_54 : ¬ l3_x5.toInt = 0 := toI_neq c_54 rfl (by decide : (0 : Int32).toInt = 0)
          refine lv_aload_n hx hb dX11_putWay_57 rfl (lv_at hl 2 rfl) ?_
          obtain ⟨qS307, hR307, hSS307⟩ := hE.2.2.2 8 _ rfl
          refine lv_ldcwS hx hb hown hR307 dX11_putWay_58 ?_
          refine W.known (fun hz0 hn0 => ?_)
          have hS0 := hS.1
          have p9 := cj_2_0 (WX hX aX kX hT hM fX_ready fX_sheet_x5 dX_sheet_x5 nX_sheet_x5 iX_sheetLength_x5 xX_reader xX_solver xX_prover xX_values xX_clauses xX_nets) (WM hM aM kM iM_stands iM_variables iM_rows iM_goals iM_differents iM_cases fM_from fM_to fM_whole fM_ways iM_plainRows fM_plainRow fM_kept fM_goalOver fM_goalUnder fM_goalMax fM_different)
          have hPc := hP.mem (fun q h => p9.mem_iff.mpr (List.mem_append_left _ h))
          have hDc := (hD.perm p9).left
          have hKc : va_K (dC, dI) vwCl (tX kX) _ := hK.sub [0, 1] rfl
          have hFc := freeG p9 hD hS hA
          refine va_callv (va_runV (As := [.ref qS307]) (rest := []) ⟨hx, hb, hml, hown, hts⟩ (Met.sV (m_X11_putText l dC dI hX aX kX hT hM fX_ready fX_sheet_x5 dX_sheet_x5 nX_sheet_x5 iX_sheetLength_x5 xX_reader xX_solver xX_prover xX_values xX_clauses xX_nets qS307 2 (fun j => ([32, 48] : List Int32).getD j 0) b_fX_sheet_x5 (by first | exact b_nX_sheet_x5 | with_reducible assumption | exact ⟨by omega, by omega⟩ | assumption) (b_iX_sheetLength_x5) (by first | with_reducible assumption | omega | (rw [iI_t (by omega) (by omega)]; omega) | (have h7 : (0 : Int32).toInt = 0 := (by decide); omega)) (by decide) H.size) H) (cwV 1 hts gwsMX11_putWay_2 rfl rfl rfl (by decide +kernel) ⟨by first | decide +kernel | (dsimp only [headSpec] <;> omega), by first | decide +kernel | (dsimp only [headSpec] <;> omega)⟩) ⟨fun a U g mk q => by obtain ⟨q0, qh, q1, qP, qK, qD, qE⟩ := q; exact ⟨q0, qh, q1, qP, va_K.moved (u := U) (U := U.calling g mk a) (Vm.Alike.refl U.vm) qK, qD, qE.same rfl⟩, va_recv hK hP (ci := 11) (q0 := 0) rfl rfl, fun U hU9 hW => ⟨rfl, hU9, by rw [hU9], by rw [hU9]; exact hPc, va_K.moved hW.alike hKc, hDc.weaken (fun _ _ _ _ => trivial), by rw [hU9]; exact (((hSS307 : (StrE qS307 2 (fun j => ([32, 48] : List Int32).getD j 0)) A s s.heap).kept hS.2.1).narrow (fun q h => hFc q h)).warm hW⟩⟩ rfl rfl hl.1 rfl (lv_room (Nat.le_of_ble_eq_true rfl)) dX11_putWay_61 ⟨by first | decide +kernel | (dsimp only [headSpec] <;> omega), by first | decide +kernel | (dsimp only [headSpec] <;> omega)⟩) hS (fun q _ h => hFc q h) hFc (fun u t9_ H locs ht hvm hw9 hB9 hz1 hk1 hS => ?_)
          revert u hw9 hB9
          refine fz_p4 ?_
          intro fX_sheet_40 dX_sheet_40 nX_sheet_40 iX_sheetLength_40 hw9 hB9
          try dsimp only at hw9 hB9
          revert hw9
          refine fz_a6 ?_
          intro b_fX_sheet_40 b_nX_sheet_40 b_iX_sheetLength_40 b_shl_40 f40_0 f40_1
          have hg1 := hB9.1.2.2.1
          rw [ht] at hg1
          have hg2 := hB9.1.2.2.2
          rw [ht] at hg2
          have hSz := hB9.2
          rw [ht] at hSz
          have p8 := cj_2_0 (WX hX aX kX hT hM fX_ready fX_sheet_40 dX_sheet_40 nX_sheet_40 iX_sheetLength_40 xX_reader xX_solver xX_prover xX_values xX_clauses xX_nets) (WM hM aM kM iM_stands iM_variables iM_rows iM_goals iM_differents iM_cases fM_from fM_to fM_whole fM_ways iM_plainRows fM_plainRow fM_kept fM_goalOver fM_goalUnder fM_goalMax fM_different)
          obtain ⟨hP, hD⟩ := frameG p9 p8 hP hD hk1 hFc (fz_P ht hB9.1.1) hB9.1.2.1
          have hz9 : H.size ≤ s.heap.size + (nX_sheet_40 / 32 - (nX_sheet / 32)) := by (try dsimp only at hg1); omega
          have hn9 : nS s.heap.size H ≤ (2 * nX_sheet_40 - (2 * nX_sheet)) := by rw [hSz.n hS0]; (try dsimp only at hg2); omega
          refine W.tight (cells2 := (nX_sheet_40 / 32 - (nX_sheet / 32))) (slots2 := (2 * nX_sheet_40 - (2 * nX_sheet))) hz9 hn9 ?_
          clear hz9 hn9 hz0 hn0 hS0 hSz hg1 hg2
          have hl : lv_has _ _ ([(4, .int l4_x5), (3, .int l3_x5), (0, .ref (hX 0)), (1, .int p1), (2, .int p2)]) := lv_sub hl [0, 1, 2, 3, 4] rfl
          refine W.known (fun hza hna => ?_)
          refine W.widen (k := 1875) (n := 120000) (by omega) (by omega) ?_
          exact join15 _ _ _ _ ⟨fX_sheet_40, dX_sheet_40, nX_sheet_40, iX_sheetLength_40, b_fX_sheet_40, (by first | exact b_nX_sheet_40 | with_reducible assumption | exact ⟨by omega, by omega⟩ | assumption), (b_iX_sheetLength_40), (by first | with_reducible assumption | omega | (rw [iI_t (by omega) (by omega)]; omega) | (have h7 : (0 : Int32).toInt = 0 := (by decide); omega)), (show iX_sheetLength.toInt ≤ iX_sheetLength_40.toInt from by omega), (show nX_sheet ≤ nX_sheet_40 from by omega), ⟨by omega, by omega⟩, rfl, hP, hD, hS, hl⟩
      · rintro H locs ls stk ⟨fX_sheet_j15, dX_sheet_j15, nX_sheet_j15, iX_sheetLength_j15, b_fX_sheet_j15, b_nX_sheet_j15, b_iX_sheetLength_j15, b_shl_j15, hjx, hgm0_j15, ⟨hzj, hnj⟩, rfl, hP, hD, hS, hl⟩
        refine W.tight (cells2 := (nX_sheet_j15 / 32 - (nX_sheet / 32))) (slots2 := (2 * nX_sheet_j15 - (2 * nX_sheet))) (tg1 hzj hS.1) (tg2 hnj) ?_
        refine lv_aload_n hx hb dX11_putWay_64 rfl (lv_at hl 2 rfl) ?_
        refine va_get (D := (dC, dI)) (ci := 11) (v := .ref (hM 0)) (C := RX11) (T := TX11) (N := 11) hx hb hts iwsMX11_putWay_in11 hown hK hP 0 rfl rfl 2 (by decide) (hts _ hm_m_X11_putWay_0) (fun _ h9 => h9) rfl dX11_putWay_65 ?_
        refine lv_iload_n hx hb dX11_putWay_68 rfl (lv_at hl 3 rfl) ?_
        refine lv_iload_n hx hb dX11_putWay_69 rfl (lv_at hl 4 rfl) ?_
        have p9 := cj_2_1 (WX hX aX kX hT hM fX_ready fX_sheet_j15 dX_sheet_j15 nX_sheet_j15 iX_sheetLength_j15 xX_reader xX_solver xX_prover xX_values xX_clauses xX_nets) (WM hM aM kM iM_stands iM_variables iM_rows iM_goals iM_differents iM_cases fM_from fM_to fM_whole fM_ways iM_plainRows fM_plainRow fM_kept fM_goalOver fM_goalUnder fM_goalMax fM_different)
        have hPc := hP.mem (fun q h => p9.mem_iff.mpr (List.mem_append_left _ h))
        have hDc := (hD.perm p9).left
        have hKc : va_K (dC, dI) vwCl (tM kM) _ := hK.sub [2, 3, 4, 5, 6, 7, 8, 9, 10, 11] rfl
        have hFc := freeG p9 hD hS hA
        refine va_calli (va_runV (As := [.int p1, .int p2]) (rest := []) ⟨hx, hb, hml, hown, hts⟩ (m_X1_sign l dC dI hM aM kM iM_stands iM_variables iM_rows iM_goals iM_differents iM_cases fM_from fM_to fM_whole fM_ways iM_plainRows fM_plainRow fM_kept fM_goalOver fM_goalUnder fM_goalMax fM_different p1 p2 (b_iM_stands) (b_iM_variables) (b_iM_rows) (b_iM_goals) (b_iM_differents) (b_iM_cases) b_fM_ways (b_iM_plainRows) b_fM_plainRow (by first | with_reducible assumption | omega | assumption) (b_p1) (b_p2) H.size) (cwV 2 hts gwsMX11_putWay_3 rfl rfl rfl (by decide +kernel) ⟨by first | decide +kernel | (dsimp only [headSpec] <;> omega), by first | decide +kernel | (dsimp only [headSpec] <;> omega)⟩) (fz_pre (va_recv hK hP (ci := 1) (q0 := 3) rfl rfl) hPc hKc hDc) rfl rfl hl.1 rfl (lv_room (Nat.le_of_ble_eq_true rfl)) dX11_putWay_70 ⟨by first | decide +kernel | (dsimp only [headSpec] <;> omega), by first | decide +kernel | (dsimp only [headSpec] <;> omega)⟩) hS (fun q _ h => hFc q h) hFc (fun r41 u t9_ H locs ht hvm hw9 hB9 hz1 hk1 hS => ?_)
        clear hw9
        have p8 := p9
        obtain ⟨hP, hD⟩ := frameG p9 p8 hP hD hk1 hFc (fz_P ht hB9.1) hB9.2
        refine lv_istore hx hb dX11_putWay_73 hl (by decide) rfl (fun ls (hl : lv_has ls _ ([(4, .int r41), (3, .int l3_x5), (0, .ref (hX 0)), (1, .int p1), (2, .int p2)])) => ?_)
        refine lv_aload_n hx hb dX11_putWay_75 rfl (lv_at hl 2 rfl) ?_
        refine lv_iload hx hb dX11_putWay_76 (lv_at hl 0 rfl) ?_
        refine lv_if_ne (tgt := 87) hx hb dX11_putWay_78 (by decide) (fun c_78 => ?_) (fun c_78 => ?_)
        · have t_78 : r41.toInt ≠ 0 := toI_ne c_78 rfl (by decide : (0 : Int32).toInt = 0)
          refine lv_iload hx hb dX11_putWay_87 (lv_at hl 0 rfl) ?_
          refine lv_iconst (v := 1) hx hb dX11_putWay_89 (by decide) ?_
          refine lv_icmp_ne (tgt := 99) hx hb dX11_putWay_90 (by decide) (fun c_90 => ?_) (fun c_90 => ?_)
          · have t_90 : r41.toInt ≠ 1 := toI_ne c_90 rfl (by decide : (1 : Int32).toInt = 1)
            obtain ⟨qS313, hR313, hSS313⟩ := hE.2.2.2 11 _ rfl
            refine lv_ldcwS hx hb hown hR313 dX11_putWay_99 ?_
            refine W.known (fun hz0 hn0 => ?_)
            have hS0 := hS.1
            have p9 := cj_2_0 (WX hX aX kX hT hM fX_ready fX_sheet_j15 dX_sheet_j15 nX_sheet_j15 iX_sheetLength_j15 xX_reader xX_solver xX_prover xX_values xX_clauses xX_nets) (WM hM aM kM iM_stands iM_variables iM_rows iM_goals iM_differents iM_cases fM_from fM_to fM_whole fM_ways iM_plainRows fM_plainRow fM_kept fM_goalOver fM_goalUnder fM_goalMax fM_different)
            have hPc := hP.mem (fun q h => p9.mem_iff.mpr (List.mem_append_left _ h))
            have hDc := (hD.perm p9).left
            have hKc : va_K (dC, dI) vwCl (tX kX) _ := hK.sub [0, 1] rfl
            have hFc := freeG p9 hD hS hA
            refine va_callv (va_runV (As := [.ref qS313]) (rest := []) ⟨hx, hb, hml, hown, hts⟩ (Met.sV (m_X11_putText l dC dI hX aX kX hT hM fX_ready fX_sheet_j15 dX_sheet_j15 nX_sheet_j15 iX_sheetLength_j15 xX_reader xX_solver xX_prover xX_values xX_clauses xX_nets qS313 3 (fun j => ([32, 61, 32] : List Int32).getD j 0) b_fX_sheet_j15 (by first | exact b_nX_sheet_j15 | with_reducible assumption | exact ⟨by omega, by omega⟩ | assumption) (b_iX_sheetLength_j15) (by first | with_reducible assumption | omega | (rw [iI_t (by omega) (by omega)]; omega) | (have h7 : (0 : Int32).toInt = 0 := (by decide); omega)) (by decide) H.size) H) (cwV 1 hts gwsMX11_putWay_2 rfl rfl rfl (by decide +kernel) ⟨by first | decide +kernel | (dsimp only [headSpec] <;> omega), by first | decide +kernel | (dsimp only [headSpec] <;> omega)⟩) ⟨fun a U g mk q => by obtain ⟨q0, qh, q1, qP, qK, qD, qE⟩ := q; exact ⟨q0, qh, q1, qP, va_K.moved (u := U) (U := U.calling g mk a) (Vm.Alike.refl U.vm) qK, qD, qE.same rfl⟩, va_recv hK hP (ci := 11) (q0 := 0) rfl rfl, fun U hU9 hW => ⟨rfl, hU9, by rw [hU9], by rw [hU9]; exact hPc, va_K.moved hW.alike hKc, hDc.weaken (fun _ _ _ _ => trivial), by rw [hU9]; exact (((hSS313 : (StrE qS313 3 (fun j => ([32, 61, 32] : List Int32).getD j 0)) A s s.heap).kept hS.2.1).narrow (fun q h => hFc q h)).warm hW⟩⟩ rfl rfl hl.1 rfl (lv_room (Nat.le_of_ble_eq_true rfl)) dX11_putWay_102 ⟨by first | decide +kernel | (dsimp only [headSpec] <;> omega), by first | decide +kernel | (dsimp only [headSpec] <;> omega)⟩) hS (fun q _ h => hFc q h) hFc (fun u t9_ H locs ht hvm hw9 hB9 hz1 hk1 hS => ?_)
            revert u hw9 hB9
            refine fz_p4 ?_
            intro fX_sheet_42 dX_sheet_42 nX_sheet_42 iX_sheetLength_42 hw9 hB9
            try dsimp only at hw9 hB9
            revert hw9
            refine fz_a6 ?_
            intro b_fX_sheet_42 b_nX_sheet_42 b_iX_sheetLength_42 b_shl_42 f42_0 f42_1
            have hg1 := hB9.1.2.2.1
            rw [ht] at hg1
            have hg2 := hB9.1.2.2.2
            rw [ht] at hg2
            have hSz := hB9.2
            rw [ht] at hSz
            have p8 := cj_2_0 (WX hX aX kX hT hM fX_ready fX_sheet_42 dX_sheet_42 nX_sheet_42 iX_sheetLength_42 xX_reader xX_solver xX_prover xX_values xX_clauses xX_nets) (WM hM aM kM iM_stands iM_variables iM_rows iM_goals iM_differents iM_cases fM_from fM_to fM_whole fM_ways iM_plainRows fM_plainRow fM_kept fM_goalOver fM_goalUnder fM_goalMax fM_different)
            obtain ⟨hP, hD⟩ := frameG p9 p8 hP hD hk1 hFc (fz_P ht hB9.1.1) hB9.1.2.1
            have hz9 : H.size ≤ s.heap.size + (nX_sheet_42 / 32 - (nX_sheet / 32)) := by (try dsimp only at hg1); omega
            have hn9 : nS s.heap.size H ≤ (2 * nX_sheet_42 - (2 * nX_sheet)) := by rw [hSz.n hS0]; (try dsimp only at hg2); omega
            refine W.tight (cells2 := (nX_sheet_42 / 32 - (nX_sheet / 32))) (slots2 := (2 * nX_sheet_42 - (2 * nX_sheet))) hz9 hn9 ?_
            clear hz9 hn9 hz0 hn0 hS0 hSz hg1 hg2
            refine lv_aload_n hx hb dX11_putWay_105 rfl (lv_at hl 2 rfl) ?_
            refine lv_aload_n hx hb dX11_putWay_106 rfl (lv_at hl 2 rfl) ?_
            refine va_get (D := (dC, dI)) (ci := 11) (v := .ref (hM 0)) (C := RX11) (T := TX11) (N := 11) hx hb hts iwsMX11_putWay_in11 hown hK hP 0 rfl rfl 2 (by decide) (hts _ hm_m_X11_putWay_0) (fun _ h9 => h9) rfl dX11_putWay_107 ?_
            refine lv_iload_n hx hb dX11_putWay_110 rfl (lv_at hl 3 rfl) ?_
            refine lv_iload_n hx hb dX11_putWay_111 rfl (lv_at hl 4 rfl) ?_
            have p9 := cj_2_1 (WX hX aX kX hT hM fX_ready fX_sheet_42 dX_sheet_42 nX_sheet_42 iX_sheetLength_42 xX_reader xX_solver xX_prover xX_values xX_clauses xX_nets) (WM hM aM kM iM_stands iM_variables iM_rows iM_goals iM_differents iM_cases fM_from fM_to fM_whole fM_ways iM_plainRows fM_plainRow fM_kept fM_goalOver fM_goalUnder fM_goalMax fM_different)
            have hPc := hP.mem (fun q h => p9.mem_iff.mpr (List.mem_append_left _ h))
            have hDc := (hD.perm p9).left
            have hKc : va_K (dC, dI) vwCl (tM kM) _ := hK.sub [2, 3, 4, 5, 6, 7, 8, 9, 10, 11] rfl
            have hFc := freeG p9 hD hS hA
            refine va_calli (va_runV (As := [.int p1, .int p2]) (rest := [.ref (hX 0)]) ⟨hx, hb, hml, hown, hts⟩ (m_X1_rightSide l dC dI hM aM kM iM_stands iM_variables iM_rows iM_goals iM_differents iM_cases fM_from fM_to fM_whole fM_ways iM_plainRows fM_plainRow fM_kept fM_goalOver fM_goalUnder fM_goalMax fM_different p1 p2 (b_iM_stands) (b_iM_variables) (b_iM_rows) (b_iM_goals) (b_iM_differents) (b_iM_cases) b_fM_ways (b_iM_plainRows) b_fM_plainRow (by first | with_reducible assumption | omega | assumption) (b_p1) (b_p2) H.size) (cwV 2 hts gwsMX11_putWay_4 rfl rfl rfl (by decide +kernel) ⟨by first | decide +kernel | (dsimp only [headSpec] <;> omega), by first | decide +kernel | (dsimp only [headSpec] <;> omega)⟩) (fz_pre (va_recv hK hP (ci := 1) (q0 := 3) rfl rfl) hPc hKc hDc) rfl rfl hl.1 rfl (lv_room (Nat.le_of_ble_eq_true rfl)) dX11_putWay_112 ⟨by first | decide +kernel | (dsimp only [headSpec] <;> omega), by first | decide +kernel | (dsimp only [headSpec] <;> omega)⟩) hS (fun q _ h => hFc q h) hFc (fun r43 u t9_ H locs ht hvm hw9 hB9 hz1 hk1 hS => ?_)
            clear hw9
            have p8 := p9
            obtain ⟨hP, hD⟩ := frameG p9 p8 hP hD hk1 hFc (fz_P ht hB9.1) hB9.2
            refine W.known (fun hz0 hn0 => ?_)
            have hS0 := hS.1
            have p9 := cj_2_0 (WX hX aX kX hT hM fX_ready fX_sheet_42 dX_sheet_42 nX_sheet_42 iX_sheetLength_42 xX_reader xX_solver xX_prover xX_values xX_clauses xX_nets) (WM hM aM kM iM_stands iM_variables iM_rows iM_goals iM_differents iM_cases fM_from fM_to fM_whole fM_ways iM_plainRows fM_plainRow fM_kept fM_goalOver fM_goalUnder fM_goalMax fM_different)
            have hPc := hP.mem (fun q h => p9.mem_iff.mpr (List.mem_append_left _ h))
            have hDc := (hD.perm p9).left
            have hKc : va_K (dC, dI) vwCl (tX kX) _ := hK.sub [0, 1] rfl
            have hFc := freeG p9 hD hS hA
            refine va_callv (va_runV (As := [.int r43]) (rest := []) ⟨hx, hb, hml, hown, hts⟩ (Met.sV (m_X11_putNumber l dC dI hX aX kX hT hM fX_ready fX_sheet_42 dX_sheet_42 nX_sheet_42 iX_sheetLength_42 xX_reader xX_solver xX_prover xX_values xX_clauses xX_nets r43 b_fX_sheet_42 (by first | exact b_nX_sheet_42 | with_reducible assumption | exact ⟨by omega, by omega⟩ | assumption) (b_iX_sheetLength_42) (by first | with_reducible assumption | omega | (rw [iI_t (by omega) (by omega)]; omega) | (have h7 : (0 : Int32).toInt = 0 := (by decide); omega)) H.size) H) (cwV 1 hts gwsMX11_putWay_5 rfl rfl rfl (by decide +kernel) ⟨by first | decide +kernel | (dsimp only [headSpec] <;> omega), by first | decide +kernel | (dsimp only [headSpec] <;> omega)⟩) ⟨fun a U g mk q => by obtain ⟨q0, qh, q1, qP, qK, qD⟩ := q; exact ⟨q0, qh, q1, qP, va_K.moved (u := U) (U := U.calling g mk a) (Vm.Alike.refl U.vm) qK, qD⟩, va_recv hK hP (ci := 11) (q0 := 0) rfl rfl, fun U hU9 hW => ⟨rfl, hU9, by rw [hU9], by rw [hU9]; exact hPc, va_K.moved hW.alike hKc, hDc.weaken (fun _ _ _ _ => trivial)⟩⟩ rfl rfl hl.1 rfl (lv_room (Nat.le_of_ble_eq_true rfl)) dX11_putWay_115 ⟨by first | decide +kernel | (dsimp only [headSpec] <;> omega), by first | decide +kernel | (dsimp only [headSpec] <;> omega)⟩) hS (fun q _ h => hFc q h) hFc (fun u t9_ H locs ht hvm hw9 hB9 hz1 hk1 hS => ?_)
            revert u hw9 hB9
            refine fz_p4 ?_
            intro fX_sheet_44 dX_sheet_44 nX_sheet_44 iX_sheetLength_44 hw9 hB9
            try dsimp only at hw9 hB9
            revert hw9
            refine fz_a6 ?_
            intro b_fX_sheet_44 b_nX_sheet_44 b_iX_sheetLength_44 b_shl_44 f44_0 f44_1
            have hg1 := hB9.1.2.2.1
            rw [ht] at hg1
            have hg2 := hB9.1.2.2.2
            rw [ht] at hg2
            have hSz := hB9.2
            rw [ht] at hSz
            have p8 := cj_2_0 (WX hX aX kX hT hM fX_ready fX_sheet_44 dX_sheet_44 nX_sheet_44 iX_sheetLength_44 xX_reader xX_solver xX_prover xX_values xX_clauses xX_nets) (WM hM aM kM iM_stands iM_variables iM_rows iM_goals iM_differents iM_cases fM_from fM_to fM_whole fM_ways iM_plainRows fM_plainRow fM_kept fM_goalOver fM_goalUnder fM_goalMax fM_different)
            obtain ⟨hP, hD⟩ := frameG p9 p8 hP hD hk1 hFc (fz_P ht hB9.1.1) hB9.1.2.1
            have hz9 : H.size ≤ s.heap.size + (nX_sheet_44 / 32 - (nX_sheet / 32)) := by (try dsimp only at hg1); omega
            have hn9 : nS s.heap.size H ≤ (2 * nX_sheet_44 - (2 * nX_sheet)) := by rw [hSz.n hS0]; (try dsimp only at hg2); omega
            refine W.tight (cells2 := (nX_sheet_44 / 32 - (nX_sheet / 32))) (slots2 := (2 * nX_sheet_44 - (2 * nX_sheet))) hz9 hn9 ?_
            clear hz9 hn9 hz0 hn0 hS0 hSz hg1 hg2
            refine W.known (fun hz9 hn9 => ?_)
            refine W.widen (k := 9376) (n := 660000) (by omega) (by omega) ?_
            exact W.vret hx hb hr (fun t9_ ht hW => ⟨⟨(fX_sheet_44, dX_sheet_44, nX_sheet_44, iX_sheetLength_44), rfl, ⟨b_fX_sheet_44, (by (try dsimp only); exact (by first | exact b_nX_sheet_44 | with_reducible assumption | exact ⟨by omega, by omega⟩ | assumption)), b_iX_sheetLength_44, (by (try dsimp only); exact (by first | with_reducible assumption | omega | (rw [iI_t (by omega) (by omega)]; omega) | (have h7 : (0 : Int32).toInt = 0 := (by decide); omega))), (by (try dsimp only); omega), (by (try dsimp only); first | omega | (rw [iI_t (by omega) (by omega)]; omega))⟩, by rw [ht]; exact hP, hD, by rw [ht]; (try dsimp only); omega, by rw [ht]; (try dsimp only); omega⟩, hS.F ht⟩) hS.2.2 dX11_putWay_118
          · have t_90 : r41.toInt = 1 := toI_nne c_90 rfl (by decide : (1 : Int32).toInt = 1)
            obtain ⟨qS311, hR311, hSS311⟩ := hE.2.2.2 10 _ rfl
            refine lv_ldcwS hx hb hown hR311 dX11_putWay_93 ?_
            refine lv_goto (tgt := 102) hx hb dX11_putWay_96 (by decide) ?_
            refine W.known (fun hz0 hn0 => ?_)
            have hS0 := hS.1
            have p9 := cj_2_0 (WX hX aX kX hT hM fX_ready fX_sheet_j15 dX_sheet_j15 nX_sheet_j15 iX_sheetLength_j15 xX_reader xX_solver xX_prover xX_values xX_clauses xX_nets) (WM hM aM kM iM_stands iM_variables iM_rows iM_goals iM_differents iM_cases fM_from fM_to fM_whole fM_ways iM_plainRows fM_plainRow fM_kept fM_goalOver fM_goalUnder fM_goalMax fM_different)
            have hPc := hP.mem (fun q h => p9.mem_iff.mpr (List.mem_append_left _ h))
            have hDc := (hD.perm p9).left
            have hKc : va_K (dC, dI) vwCl (tX kX) _ := hK.sub [0, 1] rfl
            have hFc := freeG p9 hD hS hA
            refine va_callv (va_runV (As := [.ref qS311]) (rest := []) ⟨hx, hb, hml, hown, hts⟩ (Met.sV (m_X11_putText l dC dI hX aX kX hT hM fX_ready fX_sheet_j15 dX_sheet_j15 nX_sheet_j15 iX_sheetLength_j15 xX_reader xX_solver xX_prover xX_values xX_clauses xX_nets qS311 4 (fun j => ([32, 62, 61, 32] : List Int32).getD j 0) b_fX_sheet_j15 (by first | exact b_nX_sheet_j15 | with_reducible assumption | exact ⟨by omega, by omega⟩ | assumption) (b_iX_sheetLength_j15) (by first | with_reducible assumption | omega | (rw [iI_t (by omega) (by omega)]; omega) | (have h7 : (0 : Int32).toInt = 0 := (by decide); omega)) (by decide) H.size) H) (cwV 1 hts gwsMX11_putWay_2 rfl rfl rfl (by decide +kernel) ⟨by first | decide +kernel | (dsimp only [headSpec] <;> omega), by first | decide +kernel | (dsimp only [headSpec] <;> omega)⟩) ⟨fun a U g mk q => by obtain ⟨q0, qh, q1, qP, qK, qD, qE⟩ := q; exact ⟨q0, qh, q1, qP, va_K.moved (u := U) (U := U.calling g mk a) (Vm.Alike.refl U.vm) qK, qD, qE.same rfl⟩, va_recv hK hP (ci := 11) (q0 := 0) rfl rfl, fun U hU9 hW => ⟨rfl, hU9, by rw [hU9], by rw [hU9]; exact hPc, va_K.moved hW.alike hKc, hDc.weaken (fun _ _ _ _ => trivial), by rw [hU9]; exact (((hSS311 : (StrE qS311 4 (fun j => ([32, 62, 61, 32] : List Int32).getD j 0)) A s s.heap).kept hS.2.1).narrow (fun q h => hFc q h)).warm hW⟩⟩ rfl rfl hl.1 rfl (lv_room (Nat.le_of_ble_eq_true rfl)) dX11_putWay_102 ⟨by first | decide +kernel | (dsimp only [headSpec] <;> omega), by first | decide +kernel | (dsimp only [headSpec] <;> omega)⟩) hS (fun q _ h => hFc q h) hFc (fun u t9_ H locs ht hvm hw9 hB9 hz1 hk1 hS => ?_)
            revert u hw9 hB9
            refine fz_p4 ?_
            intro fX_sheet_45 dX_sheet_45 nX_sheet_45 iX_sheetLength_45 hw9 hB9
            try dsimp only at hw9 hB9
            revert hw9
            refine fz_a6 ?_
            intro b_fX_sheet_45 b_nX_sheet_45 b_iX_sheetLength_45 b_shl_45 f45_0 f45_1
            have hg1 := hB9.1.2.2.1
            rw [ht] at hg1
            have hg2 := hB9.1.2.2.2
            rw [ht] at hg2
            have hSz := hB9.2
            rw [ht] at hSz
            have p8 := cj_2_0 (WX hX aX kX hT hM fX_ready fX_sheet_45 dX_sheet_45 nX_sheet_45 iX_sheetLength_45 xX_reader xX_solver xX_prover xX_values xX_clauses xX_nets) (WM hM aM kM iM_stands iM_variables iM_rows iM_goals iM_differents iM_cases fM_from fM_to fM_whole fM_ways iM_plainRows fM_plainRow fM_kept fM_goalOver fM_goalUnder fM_goalMax fM_different)
            obtain ⟨hP, hD⟩ := frameG p9 p8 hP hD hk1 hFc (fz_P ht hB9.1.1) hB9.1.2.1
            have hz9 : H.size ≤ s.heap.size + (nX_sheet_45 / 32 - (nX_sheet / 32)) := by (try dsimp only at hg1); omega
            have hn9 : nS s.heap.size H ≤ (2 * nX_sheet_45 - (2 * nX_sheet)) := by rw [hSz.n hS0]; (try dsimp only at hg2); omega
            refine W.tight (cells2 := (nX_sheet_45 / 32 - (nX_sheet / 32))) (slots2 := (2 * nX_sheet_45 - (2 * nX_sheet))) hz9 hn9 ?_
            clear hz9 hn9 hz0 hn0 hS0 hSz hg1 hg2
            refine lv_aload_n hx hb dX11_putWay_105 rfl (lv_at hl 2 rfl) ?_
            refine lv_aload_n hx hb dX11_putWay_106 rfl (lv_at hl 2 rfl) ?_
            refine va_get (D := (dC, dI)) (ci := 11) (v := .ref (hM 0)) (C := RX11) (T := TX11) (N := 11) hx hb hts iwsMX11_putWay_in11 hown hK hP 0 rfl rfl 2 (by decide) (hts _ hm_m_X11_putWay_0) (fun _ h9 => h9) rfl dX11_putWay_107 ?_
            refine lv_iload_n hx hb dX11_putWay_110 rfl (lv_at hl 3 rfl) ?_
            refine lv_iload_n hx hb dX11_putWay_111 rfl (lv_at hl 4 rfl) ?_
            have p9 := cj_2_1 (WX hX aX kX hT hM fX_ready fX_sheet_45 dX_sheet_45 nX_sheet_45 iX_sheetLength_45 xX_reader xX_solver xX_prover xX_values xX_clauses xX_nets) (WM hM aM kM iM_stands iM_variables iM_rows iM_goals iM_differents iM_cases fM_from fM_to fM_whole fM_ways iM_plainRows fM_plainRow fM_kept fM_goalOver fM_goalUnder fM_goalMax fM_different)
            have hPc := hP.mem (fun q h => p9.mem_iff.mpr (List.mem_append_left _ h))
            have hDc := (hD.perm p9).left
            have hKc : va_K (dC, dI) vwCl (tM kM) _ := hK.sub [2, 3, 4, 5, 6, 7, 8, 9, 10, 11] rfl
            have hFc := freeG p9 hD hS hA
            refine va_calli (va_runV (As := [.int p1, .int p2]) (rest := [.ref (hX 0)]) ⟨hx, hb, hml, hown, hts⟩ (m_X1_rightSide l dC dI hM aM kM iM_stands iM_variables iM_rows iM_goals iM_differents iM_cases fM_from fM_to fM_whole fM_ways iM_plainRows fM_plainRow fM_kept fM_goalOver fM_goalUnder fM_goalMax fM_different p1 p2 (b_iM_stands) (b_iM_variables) (b_iM_rows) (b_iM_goals) (b_iM_differents) (b_iM_cases) b_fM_ways (b_iM_plainRows) b_fM_plainRow (by first | with_reducible assumption | omega | assumption) (b_p1) (b_p2) H.size) (cwV 2 hts gwsMX11_putWay_4 rfl rfl rfl (by decide +kernel) ⟨by first | decide +kernel | (dsimp only [headSpec] <;> omega), by first | decide +kernel | (dsimp only [headSpec] <;> omega)⟩) (fz_pre (va_recv hK hP (ci := 1) (q0 := 3) rfl rfl) hPc hKc hDc) rfl rfl hl.1 rfl (lv_room (Nat.le_of_ble_eq_true rfl)) dX11_putWay_112 ⟨by first | decide +kernel | (dsimp only [headSpec] <;> omega), by first | decide +kernel | (dsimp only [headSpec] <;> omega)⟩) hS (fun q _ h => hFc q h) hFc (fun r46 u t9_ H locs ht hvm hw9 hB9 hz1 hk1 hS => ?_)
            clear hw9
            have p8 := p9
            obtain ⟨hP, hD⟩ := frameG p9 p8 hP hD hk1 hFc (fz_P ht hB9.1) hB9.2
            refine W.known (fun hz0 hn0 => ?_)
            have hS0 := hS.1
            have p9 := cj_2_0 (WX hX aX kX hT hM fX_ready fX_sheet_45 dX_sheet_45 nX_sheet_45 iX_sheetLength_45 xX_reader xX_solver xX_prover xX_values xX_clauses xX_nets) (WM hM aM kM iM_stands iM_variables iM_rows iM_goals iM_differents iM_cases fM_from fM_to fM_whole fM_ways iM_plainRows fM_plainRow fM_kept fM_goalOver fM_goalUnder fM_goalMax fM_different)
            have hPc := hP.mem (fun q h => p9.mem_iff.mpr (List.mem_append_left _ h))
            have hDc := (hD.perm p9).left
            have hKc : va_K (dC, dI) vwCl (tX kX) _ := hK.sub [0, 1] rfl
            have hFc := freeG p9 hD hS hA
            refine va_callv (va_runV (As := [.int r46]) (rest := []) ⟨hx, hb, hml, hown, hts⟩ (Met.sV (m_X11_putNumber l dC dI hX aX kX hT hM fX_ready fX_sheet_45 dX_sheet_45 nX_sheet_45 iX_sheetLength_45 xX_reader xX_solver xX_prover xX_values xX_clauses xX_nets r46 b_fX_sheet_45 (by first | exact b_nX_sheet_45 | with_reducible assumption | exact ⟨by omega, by omega⟩ | assumption) (b_iX_sheetLength_45) (by first | with_reducible assumption | omega | (rw [iI_t (by omega) (by omega)]; omega) | (have h7 : (0 : Int32).toInt = 0 := (by decide); omega)) H.size) H) (cwV 1 hts gwsMX11_putWay_5 rfl rfl rfl (by decide +kernel) ⟨by first | decide +kernel | (dsimp only [headSpec] <;> omega), by first | decide +kernel | (dsimp only [headSpec] <;> omega)⟩) ⟨fun a U g mk q => by obtain ⟨q0, qh, q1, qP, qK, qD⟩ := q; exact ⟨q0, qh, q1, qP, va_K.moved (u := U) (U := U.calling g mk a) (Vm.Alike.refl U.vm) qK, qD⟩, va_recv hK hP (ci := 11) (q0 := 0) rfl rfl, fun U hU9 hW => ⟨rfl, hU9, by rw [hU9], by rw [hU9]; exact hPc, va_K.moved hW.alike hKc, hDc.weaken (fun _ _ _ _ => trivial)⟩⟩ rfl rfl hl.1 rfl (lv_room (Nat.le_of_ble_eq_true rfl)) dX11_putWay_115 ⟨by first | decide +kernel | (dsimp only [headSpec] <;> omega), by first | decide +kernel | (dsimp only [headSpec] <;> omega)⟩) hS (fun q _ h => hFc q h) hFc (fun u t9_ H locs ht hvm hw9 hB9 hz1 hk1 hS => ?_)
            revert u hw9 hB9
            refine fz_p4 ?_
            intro fX_sheet_47 dX_sheet_47 nX_sheet_47 iX_sheetLength_47 hw9 hB9
            try dsimp only at hw9 hB9
            revert hw9
            refine fz_a6 ?_
            intro b_fX_sheet_47 b_nX_sheet_47 b_iX_sheetLength_47 b_shl_47 f47_0 f47_1
            have hg1 := hB9.1.2.2.1
            rw [ht] at hg1
            have hg2 := hB9.1.2.2.2
            rw [ht] at hg2
            have hSz := hB9.2
            rw [ht] at hSz
            have p8 := cj_2_0 (WX hX aX kX hT hM fX_ready fX_sheet_47 dX_sheet_47 nX_sheet_47 iX_sheetLength_47 xX_reader xX_solver xX_prover xX_values xX_clauses xX_nets) (WM hM aM kM iM_stands iM_variables iM_rows iM_goals iM_differents iM_cases fM_from fM_to fM_whole fM_ways iM_plainRows fM_plainRow fM_kept fM_goalOver fM_goalUnder fM_goalMax fM_different)
            obtain ⟨hP, hD⟩ := frameG p9 p8 hP hD hk1 hFc (fz_P ht hB9.1.1) hB9.1.2.1
            have hz9 : H.size ≤ s.heap.size + (nX_sheet_47 / 32 - (nX_sheet / 32)) := by (try dsimp only at hg1); omega
            have hn9 : nS s.heap.size H ≤ (2 * nX_sheet_47 - (2 * nX_sheet)) := by rw [hSz.n hS0]; (try dsimp only at hg2); omega
            refine W.tight (cells2 := (nX_sheet_47 / 32 - (nX_sheet / 32))) (slots2 := (2 * nX_sheet_47 - (2 * nX_sheet))) hz9 hn9 ?_
            clear hz9 hn9 hz0 hn0 hS0 hSz hg1 hg2
            refine W.known (fun hz9 hn9 => ?_)
            refine W.widen (k := 9376) (n := 660000) (by omega) (by omega) ?_
            exact W.vret hx hb hr (fun t9_ ht hW => ⟨⟨(fX_sheet_47, dX_sheet_47, nX_sheet_47, iX_sheetLength_47), rfl, ⟨b_fX_sheet_47, (by (try dsimp only); exact (by first | exact b_nX_sheet_47 | with_reducible assumption | exact ⟨by omega, by omega⟩ | assumption)), b_iX_sheetLength_47, (by (try dsimp only); exact (by first | with_reducible assumption | omega | (rw [iI_t (by omega) (by omega)]; omega) | (have h7 : (0 : Int32).toInt = 0 := (by decide); omega))), (by (try dsimp only); omega), (by (try dsimp only); first | omega | (rw [iI_t (by omega) (by omega)]; omega))⟩, by rw [ht]; exact hP, hD, by rw [ht]; (try dsimp only); omega, by rw [ht]; (try dsimp only); omega⟩, hS.F ht⟩) hS.2.2 dX11_putWay_118
        · have t_78 : r41.toInt = 0 := toI_nne c_78 rfl (by decide : (0 : Int32).toInt = 0)
          obtain ⟨qS309, hR309, hSS309⟩ := hE.2.2.2 9 _ rfl
          refine lv_ldcwS hx hb hown hR309 dX11_putWay_81 ?_
          refine lv_goto (tgt := 102) hx hb dX11_putWay_84 (by decide) ?_
          refine W.known (fun hz0 hn0 => ?_)
          have hS0 := hS.1
          have p9 := cj_2_0 (WX hX aX kX hT hM fX_ready fX_sheet_j15 dX_sheet_j15 nX_sheet_j15 iX_sheetLength_j15 xX_reader xX_solver xX_prover xX_values xX_clauses xX_nets) (WM hM aM kM iM_stands iM_variables iM_rows iM_goals iM_differents iM_cases fM_from fM_to fM_whole fM_ways iM_plainRows fM_plainRow fM_kept fM_goalOver fM_goalUnder fM_goalMax fM_different)
          have hPc := hP.mem (fun q h => p9.mem_iff.mpr (List.mem_append_left _ h))
          have hDc := (hD.perm p9).left
          have hKc : va_K (dC, dI) vwCl (tX kX) _ := hK.sub [0, 1] rfl
          have hFc := freeG p9 hD hS hA
          refine va_callv (va_runV (As := [.ref qS309]) (rest := []) ⟨hx, hb, hml, hown, hts⟩ (Met.sV (m_X11_putText l dC dI hX aX kX hT hM fX_ready fX_sheet_j15 dX_sheet_j15 nX_sheet_j15 iX_sheetLength_j15 xX_reader xX_solver xX_prover xX_values xX_clauses xX_nets qS309 4 (fun j => ([32, 60, 61, 32] : List Int32).getD j 0) b_fX_sheet_j15 (by first | exact b_nX_sheet_j15 | with_reducible assumption | exact ⟨by omega, by omega⟩ | assumption) (b_iX_sheetLength_j15) (by first | with_reducible assumption | omega | (rw [iI_t (by omega) (by omega)]; omega) | (have h7 : (0 : Int32).toInt = 0 := (by decide); omega)) (by decide) H.size) H) (cwV 1 hts gwsMX11_putWay_2 rfl rfl rfl (by decide +kernel) ⟨by first | decide +kernel | (dsimp only [headSpec] <;> omega), by first | decide +kernel | (dsimp only [headSpec] <;> omega)⟩) ⟨fun a U g mk q => by obtain ⟨q0, qh, q1, qP, qK, qD, qE⟩ := q; exact ⟨q0, qh, q1, qP, va_K.moved (u := U) (U := U.calling g mk a) (Vm.Alike.refl U.vm) qK, qD, qE.same rfl⟩, va_recv hK hP (ci := 11) (q0 := 0) rfl rfl, fun U hU9 hW => ⟨rfl, hU9, by rw [hU9], by rw [hU9]; exact hPc, va_K.moved hW.alike hKc, hDc.weaken (fun _ _ _ _ => trivial), by rw [hU9]; exact (((hSS309 : (StrE qS309 4 (fun j => ([32, 60, 61, 32] : List Int32).getD j 0)) A s s.heap).kept hS.2.1).narrow (fun q h => hFc q h)).warm hW⟩⟩ rfl rfl hl.1 rfl (lv_room (Nat.le_of_ble_eq_true rfl)) dX11_putWay_102 ⟨by first | decide +kernel | (dsimp only [headSpec] <;> omega), by first | decide +kernel | (dsimp only [headSpec] <;> omega)⟩) hS (fun q _ h => hFc q h) hFc (fun u t9_ H locs ht hvm hw9 hB9 hz1 hk1 hS => ?_)
          revert u hw9 hB9
          refine fz_p4 ?_
          intro fX_sheet_48 dX_sheet_48 nX_sheet_48 iX_sheetLength_48 hw9 hB9
          try dsimp only at hw9 hB9
          revert hw9
          refine fz_a6 ?_
          intro b_fX_sheet_48 b_nX_sheet_48 b_iX_sheetLength_48 b_shl_48 f48_0 f48_1
          have hg1 := hB9.1.2.2.1
          rw [ht] at hg1
          have hg2 := hB9.1.2.2.2
          rw [ht] at hg2
          have hSz := hB9.2
          rw [ht] at hSz
          have p8 := cj_2_0 (WX hX aX kX hT hM fX_ready fX_sheet_48 dX_sheet_48 nX_sheet_48 iX_sheetLength_48 xX_reader xX_solver xX_prover xX_values xX_clauses xX_nets) (WM hM aM kM iM_stands iM_variables iM_rows iM_goals iM_differents iM_cases fM_from fM_to fM_whole fM_ways iM_plainRows fM_plainRow fM_kept fM_goalOver fM_goalUnder fM_goalMax fM_different)
          obtain ⟨hP, hD⟩ := frameG p9 p8 hP hD hk1 hFc (fz_P ht hB9.1.1) hB9.1.2.1
          have hz9 : H.size ≤ s.heap.size + (nX_sheet_48 / 32 - (nX_sheet / 32)) := by (try dsimp only at hg1); omega
          have hn9 : nS s.heap.size H ≤ (2 * nX_sheet_48 - (2 * nX_sheet)) := by rw [hSz.n hS0]; (try dsimp only at hg2); omega
          refine W.tight (cells2 := (nX_sheet_48 / 32 - (nX_sheet / 32))) (slots2 := (2 * nX_sheet_48 - (2 * nX_sheet))) hz9 hn9 ?_
          clear hz9 hn9 hz0 hn0 hS0 hSz hg1 hg2
          refine lv_aload_n hx hb dX11_putWay_105 rfl (lv_at hl 2 rfl) ?_
          refine lv_aload_n hx hb dX11_putWay_106 rfl (lv_at hl 2 rfl) ?_
          refine va_get (D := (dC, dI)) (ci := 11) (v := .ref (hM 0)) (C := RX11) (T := TX11) (N := 11) hx hb hts iwsMX11_putWay_in11 hown hK hP 0 rfl rfl 2 (by decide) (hts _ hm_m_X11_putWay_0) (fun _ h9 => h9) rfl dX11_putWay_107 ?_
          refine lv_iload_n hx hb dX11_putWay_110 rfl (lv_at hl 3 rfl) ?_
          refine lv_iload_n hx hb dX11_putWay_111 rfl (lv_at hl 4 rfl) ?_
          have p9 := cj_2_1 (WX hX aX kX hT hM fX_ready fX_sheet_48 dX_sheet_48 nX_sheet_48 iX_sheetLength_48 xX_reader xX_solver xX_prover xX_values xX_clauses xX_nets) (WM hM aM kM iM_stands iM_variables iM_rows iM_goals iM_differents iM_cases fM_from fM_to fM_whole fM_ways iM_plainRows fM_plainRow fM_kept fM_goalOver fM_goalUnder fM_goalMax fM_different)
          have hPc := hP.mem (fun q h => p9.mem_iff.mpr (List.mem_append_left _ h))
          have hDc := (hD.perm p9).left
          have hKc : va_K (dC, dI) vwCl (tM kM) _ := hK.sub [2, 3, 4, 5, 6, 7, 8, 9, 10, 11] rfl
          have hFc := freeG p9 hD hS hA
          refine va_calli (va_runV (As := [.int p1, .int p2]) (rest := [.ref (hX 0)]) ⟨hx, hb, hml, hown, hts⟩ (m_X1_rightSide l dC dI hM aM kM iM_stands iM_variables iM_rows iM_goals iM_differents iM_cases fM_from fM_to fM_whole fM_ways iM_plainRows fM_plainRow fM_kept fM_goalOver fM_goalUnder fM_goalMax fM_different p1 p2 (b_iM_stands) (b_iM_variables) (b_iM_rows) (b_iM_goals) (b_iM_differents) (b_iM_cases) b_fM_ways (b_iM_plainRows) b_fM_plainRow (by first | with_reducible assumption | omega | assumption) (b_p1) (b_p2) H.size) (cwV 2 hts gwsMX11_putWay_4 rfl rfl rfl (by decide +kernel) ⟨by first | decide +kernel | (dsimp only [headSpec] <;> omega), by first | decide +kernel | (dsimp only [headSpec] <;> omega)⟩) (fz_pre (va_recv hK hP (ci := 1) (q0 := 3) rfl rfl) hPc hKc hDc) rfl rfl hl.1 rfl (lv_room (Nat.le_of_ble_eq_true rfl)) dX11_putWay_112 ⟨by first | decide +kernel | (dsimp only [headSpec] <;> omega), by first | decide +kernel | (dsimp only [headSpec] <;> omega)⟩) hS (fun q _ h => hFc q h) hFc (fun r49 u t9_ H locs ht hvm hw9 hB9 hz1 hk1 hS => ?_)
          clear hw9
          have p8 := p9
          obtain ⟨hP, hD⟩ := frameG p9 p8 hP hD hk1 hFc (fz_P ht hB9.1) hB9.2
          refine W.known (fun hz0 hn0 => ?_)
          have hS0 := hS.1
          have p9 := cj_2_0 (WX hX aX kX hT hM fX_ready fX_sheet_48 dX_sheet_48 nX_sheet_48 iX_sheetLength_48 xX_reader xX_solver xX_prover xX_values xX_clauses xX_nets) (WM hM aM kM iM_stands iM_variables iM_rows iM_goals iM_differents iM_cases fM_from fM_to fM_whole fM_ways iM_plainRows fM_plainRow fM_kept fM_goalOver fM_goalUnder fM_goalMax fM_different)
          have hPc := hP.mem (fun q h => p9.mem_iff.mpr (List.mem_append_left _ h))
          have hDc := (hD.perm p9).left
          have hKc : va_K (dC, dI) vwCl (tX kX) _ := hK.sub [0, 1] rfl
          have hFc := freeG p9 hD hS hA
          refine va_callv (va_runV (As := [.int r49]) (rest := []) ⟨hx, hb, hml, hown, hts⟩ (Met.sV (m_X11_putNumber l dC dI hX aX kX hT hM fX_ready fX_sheet_48 dX_sheet_48 nX_sheet_48 iX_sheetLength_48 xX_reader xX_solver xX_prover xX_values xX_clauses xX_nets r49 b_fX_sheet_48 (by first | exact b_nX_sheet_48 | with_reducible assumption | exact ⟨by omega, by omega⟩ | assumption) (b_iX_sheetLength_48) (by first | with_reducible assumption | omega | (rw [iI_t (by omega) (by omega)]; omega) | (have h7 : (0 : Int32).toInt = 0 := (by decide); omega)) H.size) H) (cwV 1 hts gwsMX11_putWay_5 rfl rfl rfl (by decide +kernel) ⟨by first | decide +kernel | (dsimp only [headSpec] <;> omega), by first | decide +kernel | (dsimp only [headSpec] <;> omega)⟩) ⟨fun a U g mk q => by obtain ⟨q0, qh, q1, qP, qK, qD⟩ := q; exact ⟨q0, qh, q1, qP, va_K.moved (u := U) (U := U.calling g mk a) (Vm.Alike.refl U.vm) qK, qD⟩, va_recv hK hP (ci := 11) (q0 := 0) rfl rfl, fun U hU9 hW => ⟨rfl, hU9, by rw [hU9], by rw [hU9]; exact hPc, va_K.moved hW.alike hKc, hDc.weaken (fun _ _ _ _ => trivial)⟩⟩ rfl rfl hl.1 rfl (lv_room (Nat.le_of_ble_eq_true rfl)) dX11_putWay_115 ⟨by first | decide +kernel | (dsimp only [headSpec] <;> omega), by first | decide +kernel | (dsimp only [headSpec] <;> omega)⟩) hS (fun q _ h => hFc q h) hFc (fun u t9_ H locs ht hvm hw9 hB9 hz1 hk1 hS => ?_)
          revert u hw9 hB9
          refine fz_p4 ?_
          intro fX_sheet_50 dX_sheet_50 nX_sheet_50 iX_sheetLength_50 hw9 hB9
          try dsimp only at hw9 hB9
          revert hw9
          refine fz_a6 ?_
          intro b_fX_sheet_50 b_nX_sheet_50 b_iX_sheetLength_50 b_shl_50 f50_0 f50_1
          have hg1 := hB9.1.2.2.1
          rw [ht] at hg1
          have hg2 := hB9.1.2.2.2
          rw [ht] at hg2
          have hSz := hB9.2
          rw [ht] at hSz
          have p8 := cj_2_0 (WX hX aX kX hT hM fX_ready fX_sheet_50 dX_sheet_50 nX_sheet_50 iX_sheetLength_50 xX_reader xX_solver xX_prover xX_values xX_clauses xX_nets) (WM hM aM kM iM_stands iM_variables iM_rows iM_goals iM_differents iM_cases fM_from fM_to fM_whole fM_ways iM_plainRows fM_plainRow fM_kept fM_goalOver fM_goalUnder fM_goalMax fM_different)
          obtain ⟨hP, hD⟩ := frameG p9 p8 hP hD hk1 hFc (fz_P ht hB9.1.1) hB9.1.2.1
          have hz9 : H.size ≤ s.heap.size + (nX_sheet_50 / 32 - (nX_sheet / 32)) := by (try dsimp only at hg1); omega
          have hn9 : nS s.heap.size H ≤ (2 * nX_sheet_50 - (2 * nX_sheet)) := by rw [hSz.n hS0]; (try dsimp only at hg2); omega
          refine W.tight (cells2 := (nX_sheet_50 / 32 - (nX_sheet / 32))) (slots2 := (2 * nX_sheet_50 - (2 * nX_sheet))) hz9 hn9 ?_
          clear hz9 hn9 hz0 hn0 hS0 hSz hg1 hg2
          refine W.known (fun hz9 hn9 => ?_)
          refine W.widen (k := 9376) (n := 660000) (by omega) (by omega) ?_
          exact W.vret hx hb hr (fun t9_ ht hW => ⟨⟨(fX_sheet_50, dX_sheet_50, nX_sheet_50, iX_sheetLength_50), rfl, ⟨b_fX_sheet_50, (by (try dsimp only); exact (by first | exact b_nX_sheet_50 | with_reducible assumption | exact ⟨by omega, by omega⟩ | assumption)), b_iX_sheetLength_50, (by (try dsimp only); exact (by first | with_reducible assumption | omega | (rw [iI_t (by omega) (by omega)]; omega) | (have h7 : (0 : Int32).toInt = 0 := (by decide); omega))), (by (try dsimp only); omega), (by (try dsimp only); first | omega | (rw [iI_t (by omega) (by omega)]; omega))⟩, by rw [ht]; exact hP, hD, by rw [ht]; (try dsimp only); omega, by rw [ht]; (try dsimp only); omega⟩, hS.F ht⟩) hS.2.2 dX11_putWay_118
    · have t_14 : ¬ l4_x5.toInt ≥ iM_variables.toInt := toI_nge c_14 rfl rfl
      refine lv_aload_n hx hb dX11_putWay_17 rfl (lv_at hl 2 rfl) ?_
      refine va_get (D := (dC, dI)) (ci := 11) (v := .ref (hM 0)) (C := RX11) (T := TX11) (N := 11) hx hb hts iwsMX11_putWay_in11 hown hK hP 0 rfl rfl 2 (by decide) (hts _ hm_m_X11_putWay_0) (fun _ h9 => h9) rfl dX11_putWay_18 ?_
      refine lv_iload_n hx hb dX11_putWay_21 rfl (lv_at hl 3 rfl) ?_
      refine lv_iload_n hx hb dX11_putWay_22 rfl (lv_at hl 4 rfl) ?_
      refine lv_iload hx hb dX11_putWay_23 (lv_at hl 0 rfl) ?_
      have p9 := cj_2_1 (WX hX aX kX hT hM fX_ready fX_sheet_x5 dX_sheet_x5 nX_sheet_x5 iX_sheetLength_x5 xX_reader xX_solver xX_prover xX_values xX_clauses xX_nets) (WM hM aM kM iM_stands iM_variables iM_rows iM_goals iM_differents iM_cases fM_from fM_to fM_whole fM_ways iM_plainRows fM_plainRow fM_kept fM_goalOver fM_goalUnder fM_goalMax fM_different)
      have hPc := hP.mem (fun q h => p9.mem_iff.mpr (List.mem_append_left _ h))
      have hDc := (hD.perm p9).left
      have hKc : va_K (dC, dI) vwCl (tM kM) _ := hK.sub [2, 3, 4, 5, 6, 7, 8, 9, 10, 11] rfl
      have hFc := freeG p9 hD hS hA
      refine va_calli (va_runV (As := [.int p1, .int p2, .int l4_x5]) (rest := []) ⟨hx, hb, hml, hown, hts⟩ (m_X1_number l dC dI hM aM kM iM_stands iM_variables iM_rows iM_goals iM_differents iM_cases fM_from fM_to fM_whole fM_ways iM_plainRows fM_plainRow fM_kept fM_goalOver fM_goalUnder fM_goalMax fM_different p1 p2 l4_x5 (b_iM_stands) (b_iM_variables) (b_iM_rows) (b_iM_goals) (b_iM_differents) (b_iM_cases) b_fM_ways (b_iM_plainRows) b_fM_plainRow (by first | with_reducible assumption | omega | assumption) (b_p1) (b_p2) (b_l4_x5) H.size) (cwV 3 hts gwsMX11_putWay_0 rfl rfl rfl (by decide +kernel) ⟨by first | decide +kernel | (dsimp only [headSpec] <;> omega), by first | decide +kernel | (dsimp only [headSpec] <;> omega)⟩) (fz_pre (va_recv hK hP (ci := 1) (q0 := 3) rfl rfl) hPc hKc hDc) rfl rfl hl.1 rfl (lv_room (Nat.le_of_ble_eq_true rfl)) dX11_putWay_25 ⟨by first | decide +kernel | (dsimp only [headSpec] <;> omega), by first | decide +kernel | (dsimp only [headSpec] <;> omega)⟩) hS (fun q _ h => hFc q h) hFc (fun r51 u t9_ H locs ht hvm hw9 hB9 hz1 hk1 hS => ?_)
      clear hw9
      have p8 := p9
      obtain ⟨hP, hD⟩ := frameG p9 p8 hP hD hk1 hFc (fz_P ht hB9.1) hB9.2
      refine lv_istore hx hb dX11_putWay_28 hl (by decide) rfl (fun ls (hl : lv_has ls _ ([(5, .int r51), (4, .int l4_x5), (3, .int l3_x5), (0, .ref (hX 0)), (1, .int p1), (2, .int p2)])) => ?_)
      refine lv_iload hx hb dX11_putWay_30 (lv_at hl 0 rfl) ?_
      refine W.known (fun hzk hnk => ?_)
      refine W.widen (k := 1875) (n := 120000) (by omega) (by omega) ?_
      refine W.cut (pc := 47) (fun H locs ls stk => ∃ (fX_sheet_j16 : Nat → Int32) (dX_sheet_j16 : Nat) (nX_sheet_j16 : Nat) (iX_sheetLength_j16 : Int32) (l3_j16 : Int32), (∀ q : Nat, (-128) ≤ (fX_sheet_j16 q).toInt ∧ (fX_sheet_j16 q).toInt ≤ 127) ∧ (64 ≤ nX_sheet_j16 ∧ nX_sheet_j16 ≤ 60000) ∧ (0 ≤ iX_sheetLength_j16.toInt ∧ iX_sheetLength_j16.toInt ≤ 30000) ∧ (0 ≤ l3_j16.toInt ∧ l3_j16.toInt ≤ 1) ∧ (iX_sheetLength_j16.toInt ≤ ((nX_sheet_j16 : Nat) : Int)) ∧ (iX_sheetLength.toInt ≤ iX_sheetLength_j16.toInt) ∧ (nX_sheet ≤ nX_sheet_j16) ∧ (H.size + (nX_sheet / 32) ≤ s.heap.size + (nX_sheet_j16 / 32) ∧ nS s.heap.size H + (2 * nX_sheet) ≤ (2 * nX_sheet_j16)) ∧  stk = [] ∧ va_P (dC, dI) vwCl (WX hX aX kX hT hM fX_ready fX_sheet_j16 dX_sheet_j16 nX_sheet_j16 iX_sheetLength_j16 xX_reader xX_solver xX_prover xX_values xX_clauses xX_nets ++ (WM hM aM kM iM_stands iM_variables iM_rows iM_goals iM_differents iM_cases fM_from fM_to fM_whole fM_ways iM_plainRows fM_plainRow fM_kept fM_goalOver fM_goalUnder fM_goalMax fM_different)) H ∧ va_D A (WX hX aX kX hT hM fX_ready fX_sheet_j16 dX_sheet_j16 nX_sheet_j16 iX_sheetLength_j16 xX_reader xX_solver xX_prover xX_values xX_clauses xX_nets ++ (WM hM aM kM iM_stands iM_variables iM_rows iM_goals iM_differents iM_cases fM_from fM_to fM_whole fM_ways iM_plainRows fM_plainRow fM_kept fM_goalOver fM_goalUnder fM_goalMax fM_different)) ∧ va_S A s.heap H locs ∧ lv_has ls 6 [(5, .int r51), (4, .int l4_x5), (3, .int l3_j16), (0, .ref (hX 0)), (1, .int p1), (2, .int p2)]) (fun join16 => ?_) ?_
      · refine W.tight (cells2 := (nX_sheet_x5 / 32 - (nX_sheet / 32))) (slots2 := (2 * nX_sheet_x5 - (2 * nX_sheet))) hzk hnk ?_
        refine lv_if_eq (tgt := 47) hx hb dX11_putWay_32 (by decide) (fun c_32 => ?_) (fun c_32 => ?_)
        · have t_32 : r51.toInt = 0 := toI_eq c_32 rfl (by decide : (0 : Int32).toInt = 0)
          have hl : lv_has _ _ ([(5, .int r51), (4, .int l4_x5), (3, .int l3_x5), (0, .ref (hX 0)), (1, .int p1), (2, .int p2)]) := lv_sub hl [0, 1, 2, 3, 4, 5] rfl
          refine W.known (fun hza hna => ?_)
          refine W.widen (k := 1875) (n := 120000) (by omega) (by omega) ?_
          exact join16 _ _ _ _ ⟨fX_sheet_x5, dX_sheet_x5, nX_sheet_x5, iX_sheetLength_x5, l3_x5, b_fX_sheet_x5, (by first | exact b_nX_sheet_x5 | with_reducible assumption | exact ⟨by omega, by omega⟩ | assumption), (b_iX_sheetLength_x5), (b_l3_x5), (by first | with_reducible assumption | omega | (rw [iI_t (by omega) (by omega)]; omega) | (have h7 : (0 : Int32).toInt = 0 := (by decide); omega)), (show iX_sheetLength.toInt ≤ iX_sheetLength_x5.toInt from by omega), (show nX_sheet ≤ nX_sheet_x5 from by omega), ⟨by omega, by omega⟩, rfl, hP, hD, hS, hl⟩
        · have t_32 : ¬ r51.toInt = 0 := toI_neq c_32 rfl (by decide : (0 : Int32).toInt = 0)
          refine lv_aload_n hx hb dX11_putWay_35 rfl (lv_at hl 3 rfl) ?_
          refine lv_iload hx hb dX11_putWay_36 (lv_at hl 0 rfl) ?_
          refine lv_iconst (v := 1) hx hb dX11_putWay_38 (by decide) ?_
          refine lv_iload hx hb dX11_putWay_39 (lv_at hl 1 rfl) ?_
          refine lv_iload_n hx hb dX11_putWay_41 rfl (lv_at hl 2 rfl) ?_
          refine W.known (fun hz0 hn0 => ?_)
          have hS0 := hS.1
          have p9 := cj_2_0 (WX hX aX kX hT hM fX_ready fX_sheet_x5 dX_sheet_x5 nX_sheet_x5 iX_sheetLength_x5 xX_reader xX_solver xX_prover xX_values xX_clauses xX_nets) (WM hM aM kM iM_stands iM_variables iM_rows iM_goals iM_differents iM_cases fM_from fM_to fM_whole fM_ways iM_plainRows fM_plainRow fM_kept fM_goalOver fM_goalUnder fM_goalMax fM_different)
          have hPc := hP.mem (fun q h => p9.mem_iff.mpr (List.mem_append_left _ h))
          have hDc := (hD.perm p9).left
          have hKc : va_K (dC, dI) vwCl (tX kX) _ := hK.sub [0, 1] rfl
          have hFc := freeG p9 hD hS hA
          refine va_callv (va_runV (As := [.int r51, .int 1, .int l4_x5, .int l3_x5]) (rest := []) ⟨hx, hb, hml, hown, hts⟩ (Met.sV (m_X11_putTimes l hst dC dI hX aX kX hT hM fX_ready fX_sheet_x5 dX_sheet_x5 nX_sheet_x5 iX_sheetLength_x5 xX_reader xX_solver xX_prover xX_values xX_clauses xX_nets r51 1 l4_x5 l3_x5 b_fX_sheet_x5 (by first | exact b_nX_sheet_x5 | with_reducible assumption | exact ⟨by omega, by omega⟩ | assumption) (b_iX_sheetLength_x5) (by first | with_reducible assumption | omega | (rw [iI_t (by omega) (by omega)]; omega) | (have h7 : (0 : Int32).toInt = 0 := (by decide); omega)) H.size) H) (cwV 4 hts gwsMX11_putWay_1 rfl rfl rfl (by decide +kernel) ⟨by first | decide +kernel | (dsimp only [headSpec] <;> omega), by first | decide +kernel | (dsimp only [headSpec] <;> omega)⟩) ⟨fun a U g mk q => by obtain ⟨q0, qh, q1, qP, qK, qD, qE⟩ := q; exact ⟨q0, qh, q1, qP, va_K.moved (u := U) (U := U.calling g mk a) (Vm.Alike.refl U.vm) qK, qD, qE.call⟩, va_recv hK hP (ci := 11) (q0 := 0) rfl rfl, fun U hU9 hW => ⟨rfl, hU9, by rw [hU9], by rw [hU9]; exact hPc, va_K.moved hW.alike hKc, hDc.weaken (fun _ _ _ _ => trivial), by rw [hU9]; exact (((hE : CE A s s.heap).kept hS.2.1).narrow (fun q h => hFc q h)).warm hW⟩⟩ rfl rfl hl.1 rfl (lv_room (Nat.le_of_ble_eq_true rfl)) dX11_putWay_42 ⟨by first | decide +kernel | (dsimp only [headSpec] <;> omega), by first | decide +kernel | (dsimp only [headSpec] <;> omega)⟩) hS (fun q _ h => hFc q h) hFc (fun u t9_ H locs ht hvm hw9 hB9 hz1 hk1 hS => ?_)
          revert u hw9 hB9
          refine fz_p4 ?_
          intro fX_sheet_53 dX_sheet_53 nX_sheet_53 iX_sheetLength_53 hw9 hB9
          try dsimp only at hw9 hB9
          revert hw9
          refine fz_a6 ?_
          intro b_fX_sheet_53 b_nX_sheet_53 b_iX_sheetLength_53 b_shl_53 f53_0 f53_1
          have hg1 := hB9.1.2.2.1
          rw [ht] at hg1
          have hg2 := hB9.1.2.2.2
          rw [ht] at hg2
          have hSz := hB9.2
          rw [ht] at hSz
          have p8 := cj_2_0 (WX hX aX kX hT hM fX_ready fX_sheet_53 dX_sheet_53 nX_sheet_53 iX_sheetLength_53 xX_reader xX_solver xX_prover xX_values xX_clauses xX_nets) (WM hM aM kM iM_stands iM_variables iM_rows iM_goals iM_differents iM_cases fM_from fM_to fM_whole fM_ways iM_plainRows fM_plainRow fM_kept fM_goalOver fM_goalUnder fM_goalMax fM_different)
          obtain ⟨hP, hD⟩ := frameG p9 p8 hP hD hk1 hFc (fz_P ht hB9.1.1) hB9.1.2.1
          have hz9 : H.size ≤ s.heap.size + (nX_sheet_53 / 32 - (nX_sheet / 32)) := by (try dsimp only at hg1); omega
          have hn9 : nS s.heap.size H ≤ (2 * nX_sheet_53 - (2 * nX_sheet)) := by rw [hSz.n hS0]; (try dsimp only at hg2); omega
          refine W.tight (cells2 := (nX_sheet_53 / 32 - (nX_sheet / 32))) (slots2 := (2 * nX_sheet_53 - (2 * nX_sheet))) hz9 hn9 ?_
          clear hz9 hn9 hz0 hn0 hS0 hSz hg1 hg2
          refine lv_iconst (v := 0) hx hb dX11_putWay_45 (by decide) ?_
          refine lv_istore_n hx hb dX11_putWay_46 rfl hl (by decide) rfl (fun ls (hl : lv_has ls _ ([(3, .int 0), (5, .int r51), (4, .int l4_x5), (0, .ref (hX 0)), (1, .int p1), (2, .int p2)])) => ?_)
          have hl : lv_has _ _ ([(5, .int r51), (4, .int l4_x5), (3, .int 0), (0, .ref (hX 0)), (1, .int p1), (2, .int p2)]) := lv_sub hl [1, 2, 0, 3, 4, 5] rfl
          refine W.known (fun hza hna => ?_)
          refine W.widen (k := 1875) (n := 120000) (by omega) (by omega) ?_
          exact join16 _ _ _ _ ⟨fX_sheet_53, dX_sheet_53, nX_sheet_53, iX_sheetLength_53, 0, b_fX_sheet_53, (by first | exact b_nX_sheet_53 | with_reducible assumption | exact ⟨by omega, by omega⟩ | assumption), (b_iX_sheetLength_53), (show 0 ≤ (0 : Int32).toInt ∧ (0 : Int32).toInt ≤ 1 from by decide), (by first | with_reducible assumption | omega | (rw [iI_t (by omega) (by omega)]; omega) | (have h7 : (0 : Int32).toInt = 0 := (by decide); omega)), (show iX_sheetLength.toInt ≤ iX_sheetLength_53.toInt from by omega), (show nX_sheet ≤ nX_sheet_53 from by omega), ⟨by omega, by omega⟩, rfl, hP, hD, hS, hl⟩
      · rintro H locs ls stk ⟨fX_sheet_j16, dX_sheet_j16, nX_sheet_j16, iX_sheetLength_j16, l3_j16, b_fX_sheet_j16, b_nX_sheet_j16, b_iX_sheetLength_j16, b_l3_j16, b_shl_j16, hjx, hgm0_j16, ⟨hzj, hnj⟩, rfl, hP, hD, hS, hl⟩
        refine W.tight (cells2 := (nX_sheet_j16 / 32 - (nX_sheet / 32))) (slots2 := (2 * nX_sheet_j16 - (2 * nX_sheet))) (tg1 hzj hS.1) (tg2 hnj) ?_
        refine lv_iinc (v := (iI (l4_x5.toInt + 1))) hx hb dX11_putWay_47 hl (k := 1) rfl (iI_add2 (iI_of _) (by decide : (1 : Int32) = iI 1)) (by decide) rfl (fun ls (hl : lv_has ls _ ([(4, .int (iI (l4_x5.toInt + 1))), (5, .int r51), (3, .int l3_j16), (0, .ref (hX 0)), (1, .int p1), (2, .int p2)])) => ?_)
        refine lv_goto (tgt := 5) hx hb dX11_putWay_50 (by decide) ?_
        have hl : lv_has _ _ ([(4, .int (iI (l4_x5.toInt + 1))), (3, .int l3_j16), (0, .ref (hX 0)), (1, .int p1), (2, .int p2)]) := lv_sub hl [0, 2, 3, 4, 5] rfl
        exact ihx5 fX_sheet_j16 dX_sheet_j16 nX_sheet_j16 iX_sheetLength_j16 (iI (l4_x5.toInt + 1)) l3_j16 _ _ _ b_fX_sheet_j16 (by first | exact b_nX_sheet_j16 | with_reducible assumption | exact ⟨by omega, by omega⟩ | assumption) (b_iX_sheetLength_j16) (iI_rng (Int.le_trans (by decide) (Int.add_le_add (b_l4_x5.1) (Int.le_refl _))) (by omega) (by decide) (by decide)) (b_l3_j16) (by first | with_reducible assumption | omega | (rw [iI_t (by omega) (by omega)]; omega) | (have h7 : (0 : Int32).toInt = 0 := (by decide); omega)) (show iX_sheetLength.toInt ≤ iX_sheetLength_j16.toInt from by omega) (show nX_sheet ≤ nX_sheet_j16 from by omega) (by have e9 : ((iI (l4_x5.toInt + 1))).toInt = (l4_x5.toInt + 1) := (iI_t (Int.le_trans (by decide) (Int.add_le_add (b_l4_x5.1) (Int.le_refl _))) (Int.le_trans (Int.add_le_add (b_l4_x5.2) (Int.le_refl _)) (by decide))); omega) hP hD hS hl
theorem dX11_putRow_0 : decode cX11_putRow 0 = .ok (.aload_n 0, 1) := dk_42 (by decide +kernel)
theorem dX11_putRow_1 : decode cX11_putRow 1 = .ok (.ldc_w 294, 3) := dk_19 (by decide +kernel)
theorem dX11_putRow_4 : decode cX11_putRow 4 = .ok (.invokevirtual 279, 3) := dk_182 (by decide +kernel)
theorem dX11_putRow_7 : decode cX11_putRow 7 = .ok (.aload_n 0, 1) := dk_42 (by decide +kernel)
theorem dX11_putRow_8 : decode cX11_putRow 8 = .ok (.iload_n 1, 1) := dk_27 (by decide +kernel)
theorem dX11_putRow_9 : decode cX11_putRow 9 = .ok (.invokevirtual 283, 3) := dk_182 (by decide +kernel)
theorem dX11_putRow_12 : decode cX11_putRow 12 = .ok (.aload_n 0, 1) := dk_42 (by decide +kernel)
theorem dX11_putRow_13 : decode cX11_putRow 13 = .ok (.ldc_w 296, 3) := dk_19 (by decide +kernel)
theorem dX11_putRow_16 : decode cX11_putRow 16 = .ok (.invokevirtual 279, 3) := dk_182 (by decide +kernel)
theorem dX11_putRow_19 : decode cX11_putRow 19 = .ok (.iconst 0, 1) := dk_3 (by decide +kernel)
theorem dX11_putRow_20 : decode cX11_putRow 20 = .ok (.istore_n 2, 1) := dk_61 (by decide +kernel)
theorem dX11_putRow_21 : decode cX11_putRow 21 = .ok (.iload_n 2, 1) := dk_28 (by decide +kernel)
theorem dX11_putRow_22 : decode cX11_putRow 22 = .ok (.aload_n 0, 1) := dk_42 (by decide +kernel)
theorem dX11_putRow_23 : decode cX11_putRow 23 = .ok (.getfield 23, 3) := dk_180 (by decide +kernel)
theorem dX11_putRow_26 : decode cX11_putRow 26 = .ok (.getfield 109, 3) := dk_180 (by decide +kernel)
theorem dX11_putRow_29 : decode cX11_putRow 29 = .ok (.iload_n 1, 1) := dk_27 (by decide +kernel)
theorem dX11_putRow_30 : decode cX11_putRow 30 = .ok (.iaload, 1) := dk_46 (by decide +kernel)
theorem dX11_putRow_31 : decode cX11_putRow 31 = .ok (.if_icmp .ge 26, 3) := dk_162 (by decide +kernel)
theorem dX11_putRow_34 : decode cX11_putRow 34 = .ok (.iload_n 2, 1) := dk_28 (by decide +kernel)
theorem dX11_putRow_35 : decode cX11_putRow 35 = .ok (.ifCond .le 10, 3) := dk_158 (by decide +kernel)
theorem dX11_putRow_38 : decode cX11_putRow 38 = .ok (.aload_n 0, 1) := dk_42 (by decide +kernel)
theorem dX11_putRow_39 : decode cX11_putRow 39 = .ok (.ldc_w 298, 3) := dk_19 (by decide +kernel)
theorem dX11_putRow_42 : decode cX11_putRow 42 = .ok (.invokevirtual 279, 3) := dk_182 (by decide +kernel)
theorem dX11_putRow_45 : decode cX11_putRow 45 = .ok (.aload_n 0, 1) := dk_42 (by decide +kernel)
theorem dX11_putRow_46 : decode cX11_putRow 46 = .ok (.iload_n 1, 1) := dk_27 (by decide +kernel)
theorem dX11_putRow_47 : decode cX11_putRow 47 = .ok (.iload_n 2, 1) := dk_28 (by decide +kernel)
theorem dX11_putRow_48 : decode cX11_putRow 48 = .ok (.invokevirtual 300, 3) := dk_182 (by decide +kernel)
theorem dX11_putRow_51 : decode cX11_putRow 51 = .ok (.iinc 2 1, 3) := dk_132 (by decide +kernel)
theorem dX11_putRow_54 : decode cX11_putRow 54 = .ok (.goto (-33), 3) := dk_167 (by decide +kernel)
theorem dX11_putRow_57 : decode cX11_putRow 57 = .ok (.aload_n 0, 1) := dk_42 (by decide +kernel)
theorem dX11_putRow_58 : decode cX11_putRow 58 = .ok (.ldc_w 292, 3) := dk_19 (by decide +kernel)
theorem dX11_putRow_61 : decode cX11_putRow 61 = .ok (.invokevirtual 279, 3) := dk_182 (by decide +kernel)
theorem dX11_putRow_64 : decode cX11_putRow 64 = .ok (.return_, 1) := dk_177 (by decide +kernel)
def wsMX11_putRow : List Cond := .code yX11_putRow cX11_putRow 3 none :: ([.fieldLink RX11 23 "OptimaWorks" "model" "LOptimaWorks$Model;", .fieldLink RX11 109 "OptimaWorks$Model" "ways" "[I"] ++ wsX10 ++ wsX110 ++ (wsV RX11 279 RX11 yX11_putText wsMX11_putText) ++ (wsV RX11 283 RX11 yX11_putNumber wsMX11_putNumber) ++ (wsV RX11 300 RX11 yX11_putWay wsMX11_putWay))
theorem iwsMX11_putRow_in1 : ∀ w ∈ wsX10, w ∈ wsMX11_putRow := fun _ h => List.mem_cons_of_mem _ (List.mem_append_left _ (List.mem_append_left _ (List.mem_append_left _ (List.mem_append_left _ (List.mem_append_right _ h)))))
theorem iwsMX11_putRow_in11 : ∀ w ∈ wsX110, w ∈ wsMX11_putRow := fun _ h => List.mem_cons_of_mem _ (List.mem_append_left _ (List.mem_append_left _ (List.mem_append_left _ (List.mem_append_right _ h))))
theorem gwsMX11_putRow_0 : GoodIn wsMX11_putRow (wsV RX11 279 RX11 yX11_putText wsMX11_putText) := goodIn_sub (fun _ h => List.mem_cons_of_mem _ (List.mem_append_left _ (List.mem_append_left _ (List.mem_append_right _ h)))) (gdV (by decide +kernel) gdwsMX11_putText)
theorem gwsMX11_putRow_1 : GoodIn wsMX11_putRow (wsV RX11 283 RX11 yX11_putNumber wsMX11_putNumber) := goodIn_sub (fun _ h => List.mem_cons_of_mem _ (List.mem_append_left _ (List.mem_append_right _ h))) (gdV (by decide +kernel) gdwsMX11_putNumber)
theorem gwsMX11_putRow_2 : GoodIn wsMX11_putRow (wsV RX11 300 RX11 yX11_putWay wsMX11_putWay) := goodIn_sub (fun _ h => List.mem_cons_of_mem _ (List.mem_append_right _ h)) (gdV (by decide +kernel) gdwsMX11_putWay)
theorem gdwsMX11_putRow : wsMX11_putRow.all goodWord = true := gdC rfl (gdA (gdA (gdA (gdA (gdA (by decide +kernel : ([.fieldLink RX11 23 "OptimaWorks" "model" "LOptimaWorks$Model;", .fieldLink RX11 109 "OptimaWorks$Model" "ways" "[I"] : List Cond).all goodWord = true) gdwsX10) gdwsX110) (gdV (by decide +kernel) gdwsMX11_putText)) (gdV (by decide +kernel) gdwsMX11_putNumber)) (gdV (by decide +kernel) gdwsMX11_putWay))
set_option maxHeartbeats 4000000 in
set_option maxRecDepth 100000 in
/-- a row more -/
theorem m_X11_putRow (l : Launch) (hst : l.stackTraces = false) (dC : Nat → ClassId) (dI : Nat → Nat → Nat) (hX : Nat → Nat) (aX : Nat → Nat) (kX : Nat → ClassId) (hT : Nat → Nat) (hM : Nat → Nat) (fX_ready : Nat → Int32) (fX_sheet : Nat → Int32) (dX_sheet : Nat) (nX_sheet : Nat) (iX_sheetLength : Int32) (xX_reader : Value) (xX_solver : Value) (xX_prover : Value) (xX_values : Value) (xX_clauses : Value) (xX_nets : Value) (aM : Nat → Nat) (kM : Nat → ClassId) (iM_stands : Int32) (iM_variables : Int32) (iM_rows : Int32) (iM_goals : Int32) (iM_differents : Int32) (iM_cases : Int32) (fM_from : Nat → Int32) (fM_to : Nat → Int32) (fM_whole : Nat → Int32) (fM_ways : Nat → Int32) (iM_plainRows : Int32) (fM_plainRow : Nat → Int32) (fM_kept : Nat → Int32) (fM_goalOver : Nat → Int32) (fM_goalUnder : Nat → Int32) (fM_goalMax : Nat → Int32) (fM_different : Nat → Int32) (p1 : Int32) (b_fX_sheet : ∀ q : Nat, (-128) ≤ (fX_sheet q).toInt ∧ (fX_sheet q).toInt ≤ 127) (b_nX_sheet : 64 ≤ nX_sheet ∧ nX_sheet ≤ 60000) (b_iX_sheetLength : 0 ≤ iX_sheetLength.toInt ∧ iX_sheetLength.toInt ≤ 30000) (b_shl : iX_sheetLength.toInt ≤ ((nX_sheet : Nat) : Int)) (b_iM_stands : 0 ≤ iM_stands.toInt ∧ iM_stands.toInt ≤ 1) (b_iM_variables : 0 ≤ iM_variables.toInt ∧ iM_variables.toInt ≤ 8) (b_iM_rows : 0 ≤ iM_rows.toInt ∧ iM_rows.toInt ≤ 12) (b_iM_goals : 0 ≤ iM_goals.toInt ∧ iM_goals.toInt ≤ 3) (b_iM_differents : 0 ≤ iM_differents.toInt ∧ iM_differents.toInt ≤ 8) (b_iM_cases : 0 ≤ iM_cases.toInt ∧ iM_cases.toInt ≤ 200000) (b_fM_ways : ∀ q : Nat, 0 ≤ (fM_ways q).toInt ∧ (fM_ways q).toInt ≤ 3) (b_iM_plainRows : 0 ≤ iM_plainRows.toInt ∧ iM_plainRows.toInt ≤ 12) (b_fM_plainRow : ∀ q : Nat, 0 ≤ (fM_plainRow q).toInt ∧ (fM_plainRow q).toInt ≤ 11) (b_pr : iM_plainRows.toInt ≤ iM_rows.toInt) (b_p1 : 0 ≤ p1.toInt ∧ p1.toInt ≤ 11) (sz : Nat) : Met l yX11_putRow wsMX11_putRow ({ frames := 7, cells := 11251, slots := 780000, locals := 157 }) (va_Pc [.ref (hX 0), .int p1] (fun U => U.heap.size = sz ∧ va_P (dC, dI) vwCl (WX hX aX kX hT hM fX_ready fX_sheet dX_sheet nX_sheet iX_sheetLength xX_reader xX_solver xX_prover xX_values xX_clauses xX_nets ++ (WM hM aM kM iM_stands iM_variables iM_rows iM_goals iM_differents iM_cases fM_from fM_to fM_whole fM_ways iM_plainRows fM_plainRow fM_kept fM_goalOver fM_goalUnder fM_goalMax fM_different)) U.heap ∧ va_K (dC, dI) vwCl (tX kX ++ (tM kM)) U ∧ va_D (fun _ => True) (WX hX aX kX hT hM fX_ready fX_sheet dX_sheet nX_sheet iX_sheetLength xX_reader xX_solver xX_prover xX_values xX_clauses xX_nets ++ (WM hM aM kM iM_stands iM_variables iM_rows iM_goals iM_differents iM_cases fM_from fM_to fM_whole fM_ways iM_plainRows fM_plainRow fM_kept fM_goalOver fM_goalUnder fM_goalMax fM_different)) ∧ CE (va_A (WX hX aX kX hT hM fX_ready fX_sheet dX_sheet nX_sheet iX_sheetLength xX_reader xX_solver xX_prover xX_values xX_clauses xX_nets ++ (WM hM aM kM iM_stands iM_variables iM_rows iM_goals iM_differents iM_cases fM_from fM_to fM_whole fM_ways iM_plainRows fM_plainRow fM_kept fM_goalOver fM_goalUnder fM_goalMax fM_different)) sz) U U.heap)) (va_Qv (fun (u : (Nat → Int32) × (Nat) × (Nat) × (Int32)) => (∀ q : Nat, (-128) ≤ ((u.1) q).toInt ∧ ((u.1) q).toInt ≤ 127) ∧ (64 ≤ (u.2.2.1) ∧ (u.2.2.1) ≤ 60000) ∧ (0 ≤ (u.2.2.2).toInt ∧ (u.2.2.2).toInt ≤ 30000) ∧ ((u.2.2.2).toInt ≤ (((u.2.2.1) : Nat) : Int)) ∧ (nX_sheet ≤ (u.2.2.1)) ∧ (iX_sheetLength.toInt ≤ (u.2.2.2).toInt)) (fun (u : (Nat → Int32) × (Nat) × (Nat) × (Int32)) t => va_P (dC, dI) vwCl (WX hX aX kX hT hM fX_ready (u.1) (u.2.1) (u.2.2.1) (u.2.2.2) xX_reader xX_solver xX_prover xX_values xX_clauses xX_nets ++ (WM hM aM kM iM_stands iM_variables iM_rows iM_goals iM_differents iM_cases fM_from fM_to fM_whole fM_ways iM_plainRows fM_plainRow fM_kept fM_goalOver fM_goalUnder fM_goalMax fM_different)) t.heap ∧ va_D (va_A (WX hX aX kX hT hM fX_ready fX_sheet dX_sheet nX_sheet iX_sheetLength xX_reader xX_solver xX_prover xX_values xX_clauses xX_nets ++ (WM hM aM kM iM_stands iM_variables iM_rows iM_goals iM_differents iM_cases fM_from fM_to fM_whole fM_ways iM_plainRows fM_plainRow fM_kept fM_goalOver fM_goalUnder fM_goalMax fM_different)) sz) (WX hX aX kX hT hM fX_ready (u.1) (u.2.1) (u.2.2.1) (u.2.2.2) xX_reader xX_solver xX_prover xX_values xX_clauses xX_nets ++ (WM hM aM kM iM_stands iM_variables iM_rows iM_goals iM_differents iM_cases fM_from fM_to fM_whole fM_ways iM_plainRows fM_plainRow fM_kept fM_goalOver fM_goalUnder fM_goalMax fM_different)) ∧ t.heap.size + (nX_sheet / 32) ≤ sz + ((u.2.2.1) / 32) ∧ nS sz t.heap + (2 * nX_sheet) ≤ (2 * (u.2.2.1))) (va_A (WX hX aX kX hT hM fX_ready fX_sheet dX_sheet nX_sheet iX_sheetLength xX_reader xX_solver xX_prover xX_values xX_clauses xX_nets ++ (WM hM aM kM iM_stands iM_variables iM_rows iM_goals iM_differents iM_cases fM_from fM_to fM_whole fM_ways iM_plainRows fM_plainRow fM_kept fM_goalOver fM_goalUnder fM_goalMax fM_different)) sz)) 11251 780000 (va_A (WX hX aX kX hT hM fX_ready fX_sheet dX_sheet nX_sheet iX_sheetLength xX_reader xX_solver xX_prover xX_values xX_clauses xX_nets ++ (WM hM aM kM iM_stands iM_variables iM_rows iM_goals iM_differents iM_cases fM_from fM_to fM_whole fM_ways iM_plainRows fM_plainRow fM_kept fM_goalOver fM_goalUnder fM_goalMax fM_different)) sz) := by
  refine Met.ofW (cc := cX11_putRow) (maxL := 3) (ret := none) (by decide) rfl ?_
  intro p e s m args below meth c s₁ B hml hv
  obtain ⟨rfl, hsz, hP, hK, hD0, hE⟩ := hv
  have hx := B.exec
  have hb := B.bytes
  have hr := B.returns
  have hts := atoms_spec (ws := wsMX11_putRow) B.pre
  have hown : s.vm.findClass RX11 = some m.cls := findClass_of_methodNamed B.named
  have hlocks := B.notSynchronized
  subst hsz
  have hD := hD0.self (sz := s.heap.size)
  generalize hAe : va_A (WX hX aX kX hT hM fX_ready fX_sheet dX_sheet nX_sheet iX_sheetLength xX_reader xX_solver xX_prover xX_values xX_clauses xX_nets ++ (WM hM aM kM iM_stands iM_variables iM_rows iM_goals iM_differents iM_cases fM_from fM_to fM_whole fM_ways iM_plainRows fM_plainRow fM_kept fM_goalOver fM_goalUnder fM_goalMax fM_different)) s.heap.size = A at hD hE ⊢
  have hA : ∀ q : Nat, s.heap.size ≤ q → A q := fun q h => by rw [← hAe]; exact Or.inr h
  have hS : va_S A s.heap s.heap [] := va_S.rf
  have hl := lv_entry ([.ref (hX 0), .int p1]) (n := 3) (Nat.le_of_ble_eq_true rfl)
  rw [lg_entry_eq]
  generalize (lg_sl ([.ref (hX 0), .int p1]) ++ List.replicate (3 - (lg_sl ([.ref (hX 0), .int p1])).length) Slot.unset).toArray = ls at hl ⊢
  have hl : lv_has ls 3 [(0, .ref (hX 0)), (1, .int p1)] := hl
  refine W.widen (k := (nX_sheet / 32 - (nX_sheet / 32))) (n := (2 * nX_sheet - (2 * nX_sheet))) (Nat.zero_le _) (Nat.zero_le _) ?_
  refine lv_aload_n hx hb dX11_putRow_0 rfl (lv_at hl 0 rfl) ?_
  obtain ⟨qS294, hR294, hSS294⟩ := hE.2.2.2 5 _ rfl
  refine lv_ldcwS hx hb hown hR294 dX11_putRow_1 ?_
  refine W.known (fun hz0 hn0 => ?_)
  have hS0 := hS.1
  have p9 := cj_2_0 (WX hX aX kX hT hM fX_ready fX_sheet dX_sheet nX_sheet iX_sheetLength xX_reader xX_solver xX_prover xX_values xX_clauses xX_nets) (WM hM aM kM iM_stands iM_variables iM_rows iM_goals iM_differents iM_cases fM_from fM_to fM_whole fM_ways iM_plainRows fM_plainRow fM_kept fM_goalOver fM_goalUnder fM_goalMax fM_different)
  have hPc := hP.mem (fun q h => p9.mem_iff.mpr (List.mem_append_left _ h))
  have hDc := (hD.perm p9).left
  have hKc : va_K (dC, dI) vwCl (tX kX) _ := hK.sub [0, 1] rfl
  have hFc := freeG p9 hD hS hA
  refine va_callv (va_runV (As := [.ref qS294]) (rest := []) ⟨hx, hb, hml, hown, hts⟩ (Met.sV (m_X11_putText l dC dI hX aX kX hT hM fX_ready fX_sheet dX_sheet nX_sheet iX_sheetLength xX_reader xX_solver xX_prover xX_values xX_clauses xX_nets qS294 5 (fun j => ([114, 111, 119, 32, 114] : List Int32).getD j 0) b_fX_sheet (by first | exact b_nX_sheet | with_reducible assumption | exact ⟨by omega, by omega⟩ | assumption) (b_iX_sheetLength) (by first | with_reducible assumption | omega | (rw [iI_t (by omega) (by omega)]; omega) | (have h7 : (0 : Int32).toInt = 0 := (by decide); omega)) (by decide) s.heap.size) s.heap) (cwV 1 hts gwsMX11_putRow_0 rfl rfl rfl (by decide +kernel) ⟨by first | decide +kernel | (dsimp only [headSpec] <;> omega), by first | decide +kernel | (dsimp only [headSpec] <;> omega)⟩) ⟨fun a U g mk q => by obtain ⟨q0, qh, q1, qP, qK, qD, qE⟩ := q; exact ⟨q0, qh, q1, qP, va_K.moved (u := U) (U := U.calling g mk a) (Vm.Alike.refl U.vm) qK, qD, qE.same rfl⟩, va_recv hK hP (ci := 11) (q0 := 0) rfl rfl, fun U hU9 hW => ⟨rfl, hU9, by rw [hU9], by rw [hU9]; exact hPc, va_K.moved hW.alike hKc, hDc.weaken (fun _ _ _ _ => trivial), by rw [hU9]; exact (((hSS294 : (StrE qS294 5 (fun j => ([114, 111, 119, 32, 114] : List Int32).getD j 0)) A s s.heap).kept hS.2.1).narrow (fun q h => hFc q h)).warm hW⟩⟩ rfl rfl hl.1 rfl (lv_room (Nat.le_of_ble_eq_true rfl)) dX11_putRow_4 ⟨by first | decide +kernel | (dsimp only [headSpec] <;> omega), by first | decide +kernel | (dsimp only [headSpec] <;> omega)⟩) hS (fun q _ h => hFc q h) hFc (fun u t9_ H locs ht hvm hw9 hB9 hz1 hk1 hS => ?_)
  revert u hw9 hB9
  refine fz_p4 ?_
  intro fX_sheet_1 dX_sheet_1 nX_sheet_1 iX_sheetLength_1 hw9 hB9
  try dsimp only at hw9 hB9
  revert hw9
  refine fz_a6 ?_
  intro b_fX_sheet_1 b_nX_sheet_1 b_iX_sheetLength_1 b_shl_1 f1_0 f1_1
  have hg1 := hB9.1.2.2.1
  rw [ht] at hg1
  have hg2 := hB9.1.2.2.2
  rw [ht] at hg2
  have hSz := hB9.2
  rw [ht] at hSz
  have p8 := cj_2_0 (WX hX aX kX hT hM fX_ready fX_sheet_1 dX_sheet_1 nX_sheet_1 iX_sheetLength_1 xX_reader xX_solver xX_prover xX_values xX_clauses xX_nets) (WM hM aM kM iM_stands iM_variables iM_rows iM_goals iM_differents iM_cases fM_from fM_to fM_whole fM_ways iM_plainRows fM_plainRow fM_kept fM_goalOver fM_goalUnder fM_goalMax fM_different)
  obtain ⟨hP, hD⟩ := frameG p9 p8 hP hD hk1 hFc (fz_P ht hB9.1.1) hB9.1.2.1
  have hz9 : H.size ≤ s.heap.size + (nX_sheet_1 / 32 - (nX_sheet / 32)) := by (try dsimp only at hg1); omega
  have hn9 : nS s.heap.size H ≤ (2 * nX_sheet_1 - (2 * nX_sheet)) := by rw [hSz.n hS0]; (try dsimp only at hg2); omega
  refine W.tight (cells2 := (nX_sheet_1 / 32 - (nX_sheet / 32))) (slots2 := (2 * nX_sheet_1 - (2 * nX_sheet))) hz9 hn9 ?_
  clear hz9 hn9 hz0 hn0 hS0 hSz hg1 hg2
  refine lv_aload_n hx hb dX11_putRow_7 rfl (lv_at hl 0 rfl) ?_
  refine lv_iload_n hx hb dX11_putRow_8 rfl (lv_at hl 1 rfl) ?_
  refine W.known (fun hz0 hn0 => ?_)
  have hS0 := hS.1
  have p9 := cj_2_0 (WX hX aX kX hT hM fX_ready fX_sheet_1 dX_sheet_1 nX_sheet_1 iX_sheetLength_1 xX_reader xX_solver xX_prover xX_values xX_clauses xX_nets) (WM hM aM kM iM_stands iM_variables iM_rows iM_goals iM_differents iM_cases fM_from fM_to fM_whole fM_ways iM_plainRows fM_plainRow fM_kept fM_goalOver fM_goalUnder fM_goalMax fM_different)
  have hPc := hP.mem (fun q h => p9.mem_iff.mpr (List.mem_append_left _ h))
  have hDc := (hD.perm p9).left
  have hKc : va_K (dC, dI) vwCl (tX kX) _ := hK.sub [0, 1] rfl
  have hFc := freeG p9 hD hS hA
  refine va_callv (va_runV (As := [.int p1]) (rest := []) ⟨hx, hb, hml, hown, hts⟩ (Met.sV (m_X11_putNumber l dC dI hX aX kX hT hM fX_ready fX_sheet_1 dX_sheet_1 nX_sheet_1 iX_sheetLength_1 xX_reader xX_solver xX_prover xX_values xX_clauses xX_nets p1 b_fX_sheet_1 (by first | exact b_nX_sheet_1 | with_reducible assumption | exact ⟨by omega, by omega⟩ | assumption) (b_iX_sheetLength_1) (by first | with_reducible assumption | omega | (rw [iI_t (by omega) (by omega)]; omega) | (have h7 : (0 : Int32).toInt = 0 := (by decide); omega)) H.size) H) (cwV 1 hts gwsMX11_putRow_1 rfl rfl rfl (by decide +kernel) ⟨by first | decide +kernel | (dsimp only [headSpec] <;> omega), by first | decide +kernel | (dsimp only [headSpec] <;> omega)⟩) ⟨fun a U g mk q => by obtain ⟨q0, qh, q1, qP, qK, qD⟩ := q; exact ⟨q0, qh, q1, qP, va_K.moved (u := U) (U := U.calling g mk a) (Vm.Alike.refl U.vm) qK, qD⟩, va_recv hK hP (ci := 11) (q0 := 0) rfl rfl, fun U hU9 hW => ⟨rfl, hU9, by rw [hU9], by rw [hU9]; exact hPc, va_K.moved hW.alike hKc, hDc.weaken (fun _ _ _ _ => trivial)⟩⟩ rfl rfl hl.1 rfl (lv_room (Nat.le_of_ble_eq_true rfl)) dX11_putRow_9 ⟨by first | decide +kernel | (dsimp only [headSpec] <;> omega), by first | decide +kernel | (dsimp only [headSpec] <;> omega)⟩) hS (fun q _ h => hFc q h) hFc (fun u t9_ H locs ht hvm hw9 hB9 hz1 hk1 hS => ?_)
  revert u hw9 hB9
  refine fz_p4 ?_
  intro fX_sheet_2 dX_sheet_2 nX_sheet_2 iX_sheetLength_2 hw9 hB9
  try dsimp only at hw9 hB9
  revert hw9
  refine fz_a6 ?_
  intro b_fX_sheet_2 b_nX_sheet_2 b_iX_sheetLength_2 b_shl_2 f2_0 f2_1
  have hg1 := hB9.1.2.2.1
  rw [ht] at hg1
  have hg2 := hB9.1.2.2.2
  rw [ht] at hg2
  have hSz := hB9.2
  rw [ht] at hSz
  have p8 := cj_2_0 (WX hX aX kX hT hM fX_ready fX_sheet_2 dX_sheet_2 nX_sheet_2 iX_sheetLength_2 xX_reader xX_solver xX_prover xX_values xX_clauses xX_nets) (WM hM aM kM iM_stands iM_variables iM_rows iM_goals iM_differents iM_cases fM_from fM_to fM_whole fM_ways iM_plainRows fM_plainRow fM_kept fM_goalOver fM_goalUnder fM_goalMax fM_different)
  obtain ⟨hP, hD⟩ := frameG p9 p8 hP hD hk1 hFc (fz_P ht hB9.1.1) hB9.1.2.1
  have hz9 : H.size ≤ s.heap.size + (nX_sheet_2 / 32 - (nX_sheet / 32)) := by (try dsimp only at hg1); omega
  have hn9 : nS s.heap.size H ≤ (2 * nX_sheet_2 - (2 * nX_sheet)) := by rw [hSz.n hS0]; (try dsimp only at hg2); omega
  refine W.tight (cells2 := (nX_sheet_2 / 32 - (nX_sheet / 32))) (slots2 := (2 * nX_sheet_2 - (2 * nX_sheet))) hz9 hn9 ?_
  clear hz9 hn9 hz0 hn0 hS0 hSz hg1 hg2
  refine lv_aload_n hx hb dX11_putRow_12 rfl (lv_at hl 0 rfl) ?_
  obtain ⟨qS296, hR296, hSS296⟩ := hE.2.2.2 6 _ rfl
  refine lv_ldcwS hx hb hown hR296 dX11_putRow_13 ?_
  refine W.known (fun hz0 hn0 => ?_)
  have hS0 := hS.1
  have p9 := cj_2_0 (WX hX aX kX hT hM fX_ready fX_sheet_2 dX_sheet_2 nX_sheet_2 iX_sheetLength_2 xX_reader xX_solver xX_prover xX_values xX_clauses xX_nets) (WM hM aM kM iM_stands iM_variables iM_rows iM_goals iM_differents iM_cases fM_from fM_to fM_whole fM_ways iM_plainRows fM_plainRow fM_kept fM_goalOver fM_goalUnder fM_goalMax fM_different)
  have hPc := hP.mem (fun q h => p9.mem_iff.mpr (List.mem_append_left _ h))
  have hDc := (hD.perm p9).left
  have hKc : va_K (dC, dI) vwCl (tX kX) _ := hK.sub [0, 1] rfl
  have hFc := freeG p9 hD hS hA
  refine va_callv (va_runV (As := [.ref qS296]) (rest := []) ⟨hx, hb, hml, hown, hts⟩ (Met.sV (m_X11_putText l dC dI hX aX kX hT hM fX_ready fX_sheet_2 dX_sheet_2 nX_sheet_2 iX_sheetLength_2 xX_reader xX_solver xX_prover xX_values xX_clauses xX_nets qS296 2 (fun j => ([32, 58] : List Int32).getD j 0) b_fX_sheet_2 (by first | exact b_nX_sheet_2 | with_reducible assumption | exact ⟨by omega, by omega⟩ | assumption) (b_iX_sheetLength_2) (by first | with_reducible assumption | omega | (rw [iI_t (by omega) (by omega)]; omega) | (have h7 : (0 : Int32).toInt = 0 := (by decide); omega)) (by decide) H.size) H) (cwV 1 hts gwsMX11_putRow_0 rfl rfl rfl (by decide +kernel) ⟨by first | decide +kernel | (dsimp only [headSpec] <;> omega), by first | decide +kernel | (dsimp only [headSpec] <;> omega)⟩) ⟨fun a U g mk q => by obtain ⟨q0, qh, q1, qP, qK, qD, qE⟩ := q; exact ⟨q0, qh, q1, qP, va_K.moved (u := U) (U := U.calling g mk a) (Vm.Alike.refl U.vm) qK, qD, qE.same rfl⟩, va_recv hK hP (ci := 11) (q0 := 0) rfl rfl, fun U hU9 hW => ⟨rfl, hU9, by rw [hU9], by rw [hU9]; exact hPc, va_K.moved hW.alike hKc, hDc.weaken (fun _ _ _ _ => trivial), by rw [hU9]; exact (((hSS296 : (StrE qS296 2 (fun j => ([32, 58] : List Int32).getD j 0)) A s s.heap).kept hS.2.1).narrow (fun q h => hFc q h)).warm hW⟩⟩ rfl rfl hl.1 rfl (lv_room (Nat.le_of_ble_eq_true rfl)) dX11_putRow_16 ⟨by first | decide +kernel | (dsimp only [headSpec] <;> omega), by first | decide +kernel | (dsimp only [headSpec] <;> omega)⟩) hS (fun q _ h => hFc q h) hFc (fun u t9_ H locs ht hvm hw9 hB9 hz1 hk1 hS => ?_)
  revert u hw9 hB9
  refine fz_p4 ?_
  intro fX_sheet_3 dX_sheet_3 nX_sheet_3 iX_sheetLength_3 hw9 hB9
  try dsimp only at hw9 hB9
  revert hw9
  refine fz_a6 ?_
  intro b_fX_sheet_3 b_nX_sheet_3 b_iX_sheetLength_3 b_shl_3 f3_0 f3_1
  have hg1 := hB9.1.2.2.1
  rw [ht] at hg1
  have hg2 := hB9.1.2.2.2
  rw [ht] at hg2
  have hSz := hB9.2
  rw [ht] at hSz
  have p8 := cj_2_0 (WX hX aX kX hT hM fX_ready fX_sheet_3 dX_sheet_3 nX_sheet_3 iX_sheetLength_3 xX_reader xX_solver xX_prover xX_values xX_clauses xX_nets) (WM hM aM kM iM_stands iM_variables iM_rows iM_goals iM_differents iM_cases fM_from fM_to fM_whole fM_ways iM_plainRows fM_plainRow fM_kept fM_goalOver fM_goalUnder fM_goalMax fM_different)
  obtain ⟨hP, hD⟩ := frameG p9 p8 hP hD hk1 hFc (fz_P ht hB9.1.1) hB9.1.2.1
  have hz9 : H.size ≤ s.heap.size + (nX_sheet_3 / 32 - (nX_sheet / 32)) := by (try dsimp only at hg1); omega
  have hn9 : nS s.heap.size H ≤ (2 * nX_sheet_3 - (2 * nX_sheet)) := by rw [hSz.n hS0]; (try dsimp only at hg2); omega
  refine W.tight (cells2 := (nX_sheet_3 / 32 - (nX_sheet / 32))) (slots2 := (2 * nX_sheet_3 - (2 * nX_sheet))) hz9 hn9 ?_
  clear hz9 hn9 hz0 hn0 hS0 hSz hg1 hg2
  refine lv_iconst (v := 0) hx hb dX11_putRow_19 (by decide) ?_
  refine lv_istore_n hx hb dX11_putRow_20 rfl hl (by decide) rfl (fun ls (hl : lv_has ls _ ([(2, .int 0), (0, .ref (hX 0)), (1, .int p1)])) => ?_)
  have hl : lv_has _ _ ([(2, .int 0), (0, .ref (hX 0)), (1, .int p1)]) := lv_sub hl [0, 1, 2] rfl
  refine (fun (loop : ∀ (n9 : Nat) (fX_sheet_x21 : Nat → Int32) (dX_sheet_x21 : Nat) (nX_sheet_x21 : Nat) (iX_sheetLength_x21 : Int32) (l2_x21 : Int32) (H : Heap) (locs : List Loc) (ls : Array Slot), (∀ q : Nat, (-128) ≤ (fX_sheet_x21 q).toInt ∧ (fX_sheet_x21 q).toInt ≤ 127) → (64 ≤ nX_sheet_x21 ∧ nX_sheet_x21 ≤ 60000) → (0 ≤ iX_sheetLength_x21.toInt ∧ iX_sheetLength_x21.toInt ≤ 30000) → (0 ≤ l2_x21.toInt ∧ l2_x21.toInt ≤ 3) → (iX_sheetLength_x21.toInt ≤ ((nX_sheet_x21 : Nat) : Int)) → (iX_sheetLength.toInt ≤ iX_sheetLength_x21.toInt) → (nX_sheet ≤ nX_sheet_x21) → (3 - l2_x21.toInt < ((n9 : Nat) : Int)) → va_P (dC, dI) vwCl (WX hX aX kX hT hM fX_ready fX_sheet_x21 dX_sheet_x21 nX_sheet_x21 iX_sheetLength_x21 xX_reader xX_solver xX_prover xX_values xX_clauses xX_nets ++ (WM hM aM kM iM_stands iM_variables iM_rows iM_goals iM_differents iM_cases fM_from fM_to fM_whole fM_ways iM_plainRows fM_plainRow fM_kept fM_goalOver fM_goalUnder fM_goalMax fM_different)) H → va_D A (WX hX aX kX hT hM fX_ready fX_sheet_x21 dX_sheet_x21 nX_sheet_x21 iX_sheetLength_x21 xX_reader xX_solver xX_prover xX_values xX_clauses xX_nets ++ (WM hM aM kM iM_stands iM_variables iM_rows iM_goals iM_differents iM_cases fM_from fM_to fM_whole fM_ways iM_plainRows fM_plainRow fM_kept fM_goalOver fM_goalUnder fM_goalMax fM_different)) → va_S A s.heap H locs → lv_has ls 3 [(2, .int l2_x21), (0, .ref (hX 0)), (1, .int p1)] → W p l e _ s m _ below meth c H locs (nX_sheet_x21 / 32 - (nX_sheet / 32)) (2 * nX_sheet_x21 - (2 * nX_sheet)) _ (F0 m 21 ls [])) => loop (4) fX_sheet_3 dX_sheet_3 nX_sheet_3 iX_sheetLength_3 0 _ _ _ b_fX_sheet_3 (by first | exact b_nX_sheet_3 | with_reducible assumption | exact ⟨by omega, by omega⟩ | assumption) (b_iX_sheetLength_3) (show 0 ≤ (0 : Int32).toInt ∧ (0 : Int32).toInt ≤ 3 from by decide) (by first | with_reducible assumption | omega | (rw [iI_t (by omega) (by omega)]; omega) | (have h7 : (0 : Int32).toInt = 0 := (by decide); omega)) (show iX_sheetLength.toInt ≤ iX_sheetLength_3.toInt from by omega) (show nX_sheet ≤ nX_sheet_3 from by omega) ((by have e9 : (0 : Int32).toInt = 0 := (by decide : (0 : Int32).toInt = 0); omega)) hP hD hS hl) ?_
  intro n9
  induction n9 with
  | zero => intro fX_sheet_x21 dX_sheet_x21 nX_sheet_x21 iX_sheetLength_x21 l2_x21 H locs ls b_fX_sheet_x21 b_nX_sheet_x21 b_iX_sheetLength_x21 b_l2_x21 b_shl_x21 hlx hgm0_x21 hf9; exact False.elim (by omega)
  | succ n9 ihx21 =>
    intro fX_sheet_x21 dX_sheet_x21 nX_sheet_x21 iX_sheetLength_x21 l2_x21 H locs ls b_fX_sheet_x21 b_nX_sheet_x21 b_iX_sheetLength_x21 b_l2_x21 b_shl_x21 hlx hgm0_x21 hfx21 hP hD hS hl
    refine lv_iload_n hx hb dX11_putRow_21 rfl (lv_at hl 0 rfl) ?_
    refine lv_aload_n hx hb dX11_putRow_22 rfl (lv_at hl 1 rfl) ?_
    refine va_get (D := (dC, dI)) (ci := 11) (v := .ref (hM 0)) (C := RX11) (T := TX11) (N := 11) hx hb hts iwsMX11_putRow_in11 hown hK hP 0 rfl rfl 2 (by decide) (hts (.fieldLink RX11 23 "OptimaWorks" "model" "LOptimaWorks$Model;") (by decide +kernel)) (fun _ h9 => h9) rfl dX11_putRow_23 ?_
    refine va_get (D := (dC, dI)) (ci := 1) (v := .ref (aM 3)) (C := RX1) (T := TX1) (N := 17) hx hb hts iwsMX11_putRow_in1 hown hK hP 3 rfl rfl 9 (by decide) (hts (.fieldLink RX11 109 "OptimaWorks$Model" "ways" "[I") (by decide +kernel)) (fun _ h9 => h9) rfl dX11_putRow_26 ?_
    refine lv_iload_n hx hb dX11_putRow_29 rfl (lv_at hl 2 rfl) ?_
    refine va_iald (cA := kM 3) (n := 12) (f := fM_ways) hx hb hK hP 7 5 rfl rfl (vp_in_iff.mpr ⟨b_p1.1, (Int.lt_of_le_of_lt (b_p1.2) (by decide))⟩) dX11_putRow_30 ?_
    refine lv_topi (fun v16 hv16 => ?_)
    have b_v16 : 0 ≤ v16.toInt ∧ v16.toInt ≤ 3 := by rw [hv16]; exact b_fM_ways _
    clear hv16
    refine lv_icmp_ge (tgt := 57) hx hb dX11_putRow_31 (by decide) (fun c_31 => ?_) (fun c_31 => ?_)
    · have t_31 : l2_x21.toInt ≥ v16.toInt := toI_ge c_31 rfl rfl
      refine lv_aload_n hx hb dX11_putRow_57 rfl (lv_at hl 1 rfl) ?_
      obtain ⟨qS292, hR292, hSS292⟩ := hE.2.2.2 4 _ rfl
      refine lv_ldcwS hx hb hown hR292 dX11_putRow_58 ?_
      refine W.known (fun hz0 hn0 => ?_)
      have hS0 := hS.1
      have p9 := cj_2_0 (WX hX aX kX hT hM fX_ready fX_sheet_x21 dX_sheet_x21 nX_sheet_x21 iX_sheetLength_x21 xX_reader xX_solver xX_prover xX_values xX_clauses xX_nets) (WM hM aM kM iM_stands iM_variables iM_rows iM_goals iM_differents iM_cases fM_from fM_to fM_whole fM_ways iM_plainRows fM_plainRow fM_kept fM_goalOver fM_goalUnder fM_goalMax fM_different)
      have hPc := hP.mem (fun q h => p9.mem_iff.mpr (List.mem_append_left _ h))
      have hDc := (hD.perm p9).left
      have hKc : va_K (dC, dI) vwCl (tX kX) _ := hK.sub [0, 1] rfl
      have hFc := freeG p9 hD hS hA
      refine va_callv (va_runV (As := [.ref qS292]) (rest := []) ⟨hx, hb, hml, hown, hts⟩ (Met.sV (m_X11_putText l dC dI hX aX kX hT hM fX_ready fX_sheet_x21 dX_sheet_x21 nX_sheet_x21 iX_sheetLength_x21 xX_reader xX_solver xX_prover xX_values xX_clauses xX_nets qS292 3 (fun j => ([32, 59, 10] : List Int32).getD j 0) b_fX_sheet_x21 (by first | exact b_nX_sheet_x21 | with_reducible assumption | exact ⟨by omega, by omega⟩ | assumption) (b_iX_sheetLength_x21) (by first | with_reducible assumption | omega | (rw [iI_t (by omega) (by omega)]; omega) | (have h7 : (0 : Int32).toInt = 0 := (by decide); omega)) (by decide) H.size) H) (cwV 1 hts gwsMX11_putRow_0 rfl rfl rfl (by decide +kernel) ⟨by first | decide +kernel | (dsimp only [headSpec] <;> omega), by first | decide +kernel | (dsimp only [headSpec] <;> omega)⟩) ⟨fun a U g mk q => by obtain ⟨q0, qh, q1, qP, qK, qD, qE⟩ := q; exact ⟨q0, qh, q1, qP, va_K.moved (u := U) (U := U.calling g mk a) (Vm.Alike.refl U.vm) qK, qD, qE.same rfl⟩, va_recv hK hP (ci := 11) (q0 := 0) rfl rfl, fun U hU9 hW => ⟨rfl, hU9, by rw [hU9], by rw [hU9]; exact hPc, va_K.moved hW.alike hKc, hDc.weaken (fun _ _ _ _ => trivial), by rw [hU9]; exact (((hSS292 : (StrE qS292 3 (fun j => ([32, 59, 10] : List Int32).getD j 0)) A s s.heap).kept hS.2.1).narrow (fun q h => hFc q h)).warm hW⟩⟩ rfl rfl hl.1 rfl (lv_room (Nat.le_of_ble_eq_true rfl)) dX11_putRow_61 ⟨by first | decide +kernel | (dsimp only [headSpec] <;> omega), by first | decide +kernel | (dsimp only [headSpec] <;> omega)⟩) hS (fun q _ h => hFc q h) hFc (fun u t9_ H locs ht hvm hw9 hB9 hz1 hk1 hS => ?_)
      revert u hw9 hB9
      refine fz_p4 ?_
      intro fX_sheet_20 dX_sheet_20 nX_sheet_20 iX_sheetLength_20 hw9 hB9
      try dsimp only at hw9 hB9
      revert hw9
      refine fz_a6 ?_
      intro b_fX_sheet_20 b_nX_sheet_20 b_iX_sheetLength_20 b_shl_20 f20_0 f20_1
      have hg1 := hB9.1.2.2.1
      rw [ht] at hg1
      have hg2 := hB9.1.2.2.2
      rw [ht] at hg2
      have hSz := hB9.2
      rw [ht] at hSz
      have p8 := cj_2_0 (WX hX aX kX hT hM fX_ready fX_sheet_20 dX_sheet_20 nX_sheet_20 iX_sheetLength_20 xX_reader xX_solver xX_prover xX_values xX_clauses xX_nets) (WM hM aM kM iM_stands iM_variables iM_rows iM_goals iM_differents iM_cases fM_from fM_to fM_whole fM_ways iM_plainRows fM_plainRow fM_kept fM_goalOver fM_goalUnder fM_goalMax fM_different)
      obtain ⟨hP, hD⟩ := frameG p9 p8 hP hD hk1 hFc (fz_P ht hB9.1.1) hB9.1.2.1
      have hz9 : H.size ≤ s.heap.size + (nX_sheet_20 / 32 - (nX_sheet / 32)) := by (try dsimp only at hg1); omega
      have hn9 : nS s.heap.size H ≤ (2 * nX_sheet_20 - (2 * nX_sheet)) := by rw [hSz.n hS0]; (try dsimp only at hg2); omega
      refine W.tight (cells2 := (nX_sheet_20 / 32 - (nX_sheet / 32))) (slots2 := (2 * nX_sheet_20 - (2 * nX_sheet))) hz9 hn9 ?_
      clear hz9 hn9 hz0 hn0 hS0 hSz hg1 hg2
      refine W.known (fun hz9 hn9 => ?_)
      refine W.widen (k := 11251) (n := 780000) (by omega) (by omega) ?_
      exact W.vret hx hb hr (fun t9_ ht hW => ⟨⟨(fX_sheet_20, dX_sheet_20, nX_sheet_20, iX_sheetLength_20), rfl, ⟨b_fX_sheet_20, (by (try dsimp only); exact (by first | exact b_nX_sheet_20 | with_reducible assumption | exact ⟨by omega, by omega⟩ | assumption)), b_iX_sheetLength_20, (by (try dsimp only); exact (by first | with_reducible assumption | omega | (rw [iI_t (by omega) (by omega)]; omega) | (have h7 : (0 : Int32).toInt = 0 := (by decide); omega))), (by (try dsimp only); omega), (by (try dsimp only); first | omega | (rw [iI_t (by omega) (by omega)]; omega))⟩, by rw [ht]; exact hP, hD, by rw [ht]; (try dsimp only); omega, by rw [ht]; (try dsimp only); omega⟩, hS.F ht⟩) hS.2.2 dX11_putRow_64
    · have t_31 : ¬ l2_x21.toInt ≥ v16.toInt := toI_nge c_31 rfl rfl
      refine lv_iload_n hx hb dX11_putRow_34 rfl (lv_at hl 0 rfl) ?_
      refine W.known (fun hzk hnk => ?_)
      refine W.widen (k := 1875) (n := 120000) (by omega) (by omega) ?_
      refine W.cut (pc := 45) (fun H locs ls stk => ∃ (fX_sheet_j8 : Nat → Int32) (dX_sheet_j8 : Nat) (nX_sheet_j8 : Nat) (iX_sheetLength_j8 : Int32), (∀ q : Nat, (-128) ≤ (fX_sheet_j8 q).toInt ∧ (fX_sheet_j8 q).toInt ≤ 127) ∧ (64 ≤ nX_sheet_j8 ∧ nX_sheet_j8 ≤ 60000) ∧ (0 ≤ iX_sheetLength_j8.toInt ∧ iX_sheetLength_j8.toInt ≤ 30000) ∧ (iX_sheetLength_j8.toInt ≤ ((nX_sheet_j8 : Nat) : Int)) ∧ (iX_sheetLength.toInt ≤ iX_sheetLength_j8.toInt) ∧ (nX_sheet ≤ nX_sheet_j8) ∧ (H.size + (nX_sheet / 32) ≤ s.heap.size + (nX_sheet_j8 / 32) ∧ nS s.heap.size H + (2 * nX_sheet) ≤ (2 * nX_sheet_j8)) ∧  stk = [] ∧ va_P (dC, dI) vwCl (WX hX aX kX hT hM fX_ready fX_sheet_j8 dX_sheet_j8 nX_sheet_j8 iX_sheetLength_j8 xX_reader xX_solver xX_prover xX_values xX_clauses xX_nets ++ (WM hM aM kM iM_stands iM_variables iM_rows iM_goals iM_differents iM_cases fM_from fM_to fM_whole fM_ways iM_plainRows fM_plainRow fM_kept fM_goalOver fM_goalUnder fM_goalMax fM_different)) H ∧ va_D A (WX hX aX kX hT hM fX_ready fX_sheet_j8 dX_sheet_j8 nX_sheet_j8 iX_sheetLength_j8 xX_reader xX_solver xX_prover xX_values xX_clauses xX_nets ++ (WM hM aM kM iM_stands iM_variables iM_rows iM_goals iM_differents iM_cases fM_from fM_to fM_whole fM_ways iM_plainRows fM_plainRow fM_kept fM_goalOver fM_goalUnder fM_goalMax fM_different)) ∧ va_S A s.heap H locs ∧ lv_has ls 3 [(2, .int l2_x21), (0, .ref (hX 0)), (1, .int p1)]) (fun join8 => ?_) ?_
      · refine W.tight (cells2 := (nX_sheet_x21 / 32 - (nX_sheet / 32))) (slots2 := (2 * nX_sheet_x21 - (2 * nX_sheet))) hzk hnk ?_
        refine lv_if_le (tgt := 45) hx hb dX11_putRow_35 (by decide) (fun c_35 => ?_) (fun c_35 => ?_)
        · have t_35 : l2_x21.toInt ≤ 0 := toI_le c_35 rfl (by decide : (0 : Int32).toInt = 0)
          have hl : lv_has _ _ ([(2, .int l2_x21), (0, .ref (hX 0)), (1, .int p1)]) := lv_sub hl [0, 1, 2] rfl
          refine W.known (fun hza hna => ?_)
          refine W.widen (k := 1875) (n := 120000) (by omega) (by omega) ?_
          exact join8 _ _ _ _ ⟨fX_sheet_x21, dX_sheet_x21, nX_sheet_x21, iX_sheetLength_x21, b_fX_sheet_x21, (by first | exact b_nX_sheet_x21 | with_reducible assumption | exact ⟨by omega, by omega⟩ | assumption), (b_iX_sheetLength_x21), (by first | with_reducible assumption | omega | (rw [iI_t (by omega) (by omega)]; omega) | (have h7 : (0 : Int32).toInt = 0 := (by decide); omega)), (show iX_sheetLength.toInt ≤ iX_sheetLength_x21.toInt from by omega), (show nX_sheet ≤ nX_sheet_x21 from by omega), ⟨by omega, by omega⟩, rfl, hP, hD, hS, hl⟩
        · have t_35 : ¬ l2_x21.toInt ≤ 0 := toI_nle c_35 rfl (by decide : (0 : Int32).toInt = 0)
          refine lv_aload_n hx hb dX11_putRow_38 rfl (lv_at hl 1 rfl) ?_
          obtain ⟨qS298, hR298, hSS298⟩ := hE.2.2.2 7 _ rfl
          refine lv_ldcwS hx hb hown hR298 dX11_putRow_39 ?_
          refine W.known (fun hz0 hn0 => ?_)
          have hS0 := hS.1
          have p9 := cj_2_0 (WX hX aX kX hT hM fX_ready fX_sheet_x21 dX_sheet_x21 nX_sheet_x21 iX_sheetLength_x21 xX_reader xX_solver xX_prover xX_values xX_clauses xX_nets) (WM hM aM kM iM_stands iM_variables iM_rows iM_goals iM_differents iM_cases fM_from fM_to fM_whole fM_ways iM_plainRows fM_plainRow fM_kept fM_goalOver fM_goalUnder fM_goalMax fM_different)
          have hPc := hP.mem (fun q h => p9.mem_iff.mpr (List.mem_append_left _ h))
          have hDc := (hD.perm p9).left
          have hKc : va_K (dC, dI) vwCl (tX kX) _ := hK.sub [0, 1] rfl
          have hFc := freeG p9 hD hS hA
          refine va_callv (va_runV (As := [.ref qS298]) (rest := []) ⟨hx, hb, hml, hown, hts⟩ (Met.sV (m_X11_putText l dC dI hX aX kX hT hM fX_ready fX_sheet_x21 dX_sheet_x21 nX_sheet_x21 iX_sheetLength_x21 xX_reader xX_solver xX_prover xX_values xX_clauses xX_nets qS298 3 (fun j => ([32, 111, 114] : List Int32).getD j 0) b_fX_sheet_x21 (by first | exact b_nX_sheet_x21 | with_reducible assumption | exact ⟨by omega, by omega⟩ | assumption) (b_iX_sheetLength_x21) (by first | with_reducible assumption | omega | (rw [iI_t (by omega) (by omega)]; omega) | (have h7 : (0 : Int32).toInt = 0 := (by decide); omega)) (by decide) H.size) H) (cwV 1 hts gwsMX11_putRow_0 rfl rfl rfl (by decide +kernel) ⟨by first | decide +kernel | (dsimp only [headSpec] <;> omega), by first | decide +kernel | (dsimp only [headSpec] <;> omega)⟩) ⟨fun a U g mk q => by obtain ⟨q0, qh, q1, qP, qK, qD, qE⟩ := q; exact ⟨q0, qh, q1, qP, va_K.moved (u := U) (U := U.calling g mk a) (Vm.Alike.refl U.vm) qK, qD, qE.same rfl⟩, va_recv hK hP (ci := 11) (q0 := 0) rfl rfl, fun U hU9 hW => ⟨rfl, hU9, by rw [hU9], by rw [hU9]; exact hPc, va_K.moved hW.alike hKc, hDc.weaken (fun _ _ _ _ => trivial), by rw [hU9]; exact (((hSS298 : (StrE qS298 3 (fun j => ([32, 111, 114] : List Int32).getD j 0)) A s s.heap).kept hS.2.1).narrow (fun q h => hFc q h)).warm hW⟩⟩ rfl rfl hl.1 rfl (lv_room (Nat.le_of_ble_eq_true rfl)) dX11_putRow_42 ⟨by first | decide +kernel | (dsimp only [headSpec] <;> omega), by first | decide +kernel | (dsimp only [headSpec] <;> omega)⟩) hS (fun q _ h => hFc q h) hFc (fun u t9_ H locs ht hvm hw9 hB9 hz1 hk1 hS => ?_)
          revert u hw9 hB9
          refine fz_p4 ?_
          intro fX_sheet_22 dX_sheet_22 nX_sheet_22 iX_sheetLength_22 hw9 hB9
          try dsimp only at hw9 hB9
          revert hw9
          refine fz_a6 ?_
          intro b_fX_sheet_22 b_nX_sheet_22 b_iX_sheetLength_22 b_shl_22 f22_0 f22_1
          have hg1 := hB9.1.2.2.1
          rw [ht] at hg1
          have hg2 := hB9.1.2.2.2
          rw [ht] at hg2
          have hSz := hB9.2
          rw [ht] at hSz
          have p8 := cj_2_0 (WX hX aX kX hT hM fX_ready fX_sheet_22 dX_sheet_22 nX_sheet_22 iX_sheetLength_22 xX_reader xX_solver xX_prover xX_values xX_clauses xX_nets) (WM hM aM kM iM_stands iM_variables iM_rows iM_goals iM_differents iM_cases fM_from fM_to fM_whole fM_ways iM_plainRows fM_plainRow fM_kept fM_goalOver fM_goalUnder fM_goalMax fM_different)
          obtain ⟨hP, hD⟩ := frameG p9 p8 hP hD hk1 hFc (fz_P ht hB9.1.1) hB9.1.2.1
          have hz9 : H.size ≤ s.heap.size + (nX_sheet_22 / 32 - (nX_sheet / 32)) := by (try dsimp only at hg1); omega
          have hn9 : nS s.heap.size H ≤ (2 * nX_sheet_22 - (2 * nX_sheet)) := by rw [hSz.n hS0]; (try dsimp only at hg2); omega
          refine W.tight (cells2 := (nX_sheet_22 / 32 - (nX_sheet / 32))) (slots2 := (2 * nX_sheet_22 - (2 * nX_sheet))) hz9 hn9 ?_
          clear hz9 hn9 hz0 hn0 hS0 hSz hg1 hg2
          have hl : lv_has _ _ ([(2, .int l2_x21), (0, .ref (hX 0)), (1, .int p1)]) := lv_sub hl [0, 1, 2] rfl
          refine W.known (fun hza hna => ?_)
          refine W.widen (k := 1875) (n := 120000) (by omega) (by omega) ?_
          exact join8 _ _ _ _ ⟨fX_sheet_22, dX_sheet_22, nX_sheet_22, iX_sheetLength_22, b_fX_sheet_22, (by first | exact b_nX_sheet_22 | with_reducible assumption | exact ⟨by omega, by omega⟩ | assumption), (b_iX_sheetLength_22), (by first | with_reducible assumption | omega | (rw [iI_t (by omega) (by omega)]; omega) | (have h7 : (0 : Int32).toInt = 0 := (by decide); omega)), (show iX_sheetLength.toInt ≤ iX_sheetLength_22.toInt from by omega), (show nX_sheet ≤ nX_sheet_22 from by omega), ⟨by omega, by omega⟩, rfl, hP, hD, hS, hl⟩
      · rintro H locs ls stk ⟨fX_sheet_j8, dX_sheet_j8, nX_sheet_j8, iX_sheetLength_j8, b_fX_sheet_j8, b_nX_sheet_j8, b_iX_sheetLength_j8, b_shl_j8, hjx, hgm0_j8, ⟨hzj, hnj⟩, rfl, hP, hD, hS, hl⟩
        refine W.tight (cells2 := (nX_sheet_j8 / 32 - (nX_sheet / 32))) (slots2 := (2 * nX_sheet_j8 - (2 * nX_sheet))) (tg1 hzj hS.1) (tg2 hnj) ?_
        refine lv_aload_n hx hb dX11_putRow_45 rfl (lv_at hl 1 rfl) ?_
        refine lv_iload_n hx hb dX11_putRow_46 rfl (lv_at hl 2 rfl) ?_
        refine lv_iload_n hx hb dX11_putRow_47 rfl (lv_at hl 0 rfl) ?_
        refine W.known (fun hz0 hn0 => ?_)
        have hS0 := hS.1
        have hFc := allFree hD hS hA
        refine va_callv (va_runV (As := [.int p1, .int l2_x21]) (rest := []) ⟨hx, hb, hml, hown, hts⟩ (Met.sV (m_X11_putWay l hst dC dI hX aX kX hT hM fX_ready fX_sheet_j8 dX_sheet_j8 nX_sheet_j8 iX_sheetLength_j8 xX_reader xX_solver xX_prover xX_values xX_clauses xX_nets aM kM iM_stands iM_variables iM_rows iM_goals iM_differents iM_cases fM_from fM_to fM_whole fM_ways iM_plainRows fM_plainRow fM_kept fM_goalOver fM_goalUnder fM_goalMax fM_different p1 l2_x21 b_fX_sheet_j8 (by first | exact b_nX_sheet_j8 | with_reducible assumption | exact ⟨by omega, by omega⟩ | assumption) (b_iX_sheetLength_j8) (by first | with_reducible assumption | omega | (rw [iI_t (by omega) (by omega)]; omega) | (have h7 : (0 : Int32).toInt = 0 := (by decide); omega)) (b_iM_stands) (b_iM_variables) (b_iM_rows) (b_iM_goals) (b_iM_differents) (b_iM_cases) b_fM_ways (b_iM_plainRows) b_fM_plainRow (by first | with_reducible assumption | omega | assumption) (b_p1) (by first | exact b_l2_x21 | with_reducible assumption | exact ⟨by omega, by omega⟩ | assumption) H.size) H) (cwV 2 hts gwsMX11_putRow_2 rfl rfl rfl (by decide +kernel) ⟨by first | decide +kernel | (dsimp only [headSpec] <;> omega), by first | decide +kernel | (dsimp only [headSpec] <;> omega)⟩) ⟨fun a U g mk q => by obtain ⟨q0, qh, q1, qP, qK, qD, qE⟩ := q; exact ⟨q0, qh, q1, qP, va_K.moved (u := U) (U := U.calling g mk a) (Vm.Alike.refl U.vm) qK, qD, qE.call⟩, va_recv hK hP (ci := 11) (q0 := 0) rfl rfl, fun U hU9 hW => ⟨rfl, hU9, by rw [hU9], by rw [hU9]; exact hP, va_K.moved hW.alike hK, hD.weaken (fun _ _ _ _ => trivial), by rw [hU9]; exact (((hE : CE A s s.heap).kept hS.2.1).narrow (fun q h => hFc q h)).warm hW⟩⟩ rfl rfl hl.1 rfl (lv_room (Nat.le_of_ble_eq_true rfl)) dX11_putRow_48 ⟨by first | decide +kernel | (dsimp only [headSpec] <;> omega), by first | decide +kernel | (dsimp only [headSpec] <;> omega)⟩) hS (fun q _ h => hFc q h) hFc (fun u t9_ H locs ht hvm hw9 hB9 hz1 hk1 hS => ?_)
        revert u hw9 hB9
        refine fz_p4 ?_
        intro fX_sheet_23 dX_sheet_23 nX_sheet_23 iX_sheetLength_23 hw9 hB9
        try dsimp only at hw9 hB9
        revert hw9
        refine fz_a6 ?_
        intro b_fX_sheet_23 b_nX_sheet_23 b_iX_sheetLength_23 b_shl_23 f23_0 f23_1
        have hg1 := hB9.1.2.2.1
        rw [ht] at hg1
        have hg2 := hB9.1.2.2.2
        rw [ht] at hg2
        have hSz := hB9.2
        rw [ht] at hSz
        have hP : va_P (dC, dI) vwCl (WX hX aX kX hT hM fX_ready fX_sheet_23 dX_sheet_23 nX_sheet_23 iX_sheetLength_23 xX_reader xX_solver xX_prover xX_values xX_clauses xX_nets ++ (WM hM aM kM iM_stands iM_variables iM_rows iM_goals iM_differents iM_cases fM_from fM_to fM_whole fM_ways iM_plainRows fM_plainRow fM_kept fM_goalOver fM_goalUnder fM_goalMax fM_different)) H := fz_P ht hB9.1.1
        have hD := fz_sd hP (hB9.1.2.1.weaken (fun _ q _ h => hFc q.1 h)) rfl
        have hz9 : H.size ≤ s.heap.size + (nX_sheet_23 / 32 - (nX_sheet / 32)) := by (try dsimp only at hg1); omega
        have hn9 : nS s.heap.size H ≤ (2 * nX_sheet_23 - (2 * nX_sheet)) := by rw [hSz.n hS0]; (try dsimp only at hg2); omega
        refine W.tight (cells2 := (nX_sheet_23 / 32 - (nX_sheet / 32))) (slots2 := (2 * nX_sheet_23 - (2 * nX_sheet))) hz9 hn9 ?_
        clear hz9 hn9 hz0 hn0 hS0 hSz hg1 hg2
        refine lv_iinc (v := (iI (l2_x21.toInt + 1))) hx hb dX11_putRow_51 hl (k := 0) rfl (iI_add2 (iI_of _) (by decide : (1 : Int32) = iI 1)) (by decide) rfl (fun ls (hl : lv_has ls _ ([(2, .int (iI (l2_x21.toInt + 1))), (0, .ref (hX 0)), (1, .int p1)])) => ?_)
        refine lv_goto (tgt := 21) hx hb dX11_putRow_54 (by decide) ?_
        have hl : lv_has _ _ ([(2, .int (iI (l2_x21.toInt + 1))), (0, .ref (hX 0)), (1, .int p1)]) := lv_sub hl [0, 1, 2] rfl
        exact ihx21 fX_sheet_23 dX_sheet_23 nX_sheet_23 iX_sheetLength_23 (iI (l2_x21.toInt + 1)) _ _ _ b_fX_sheet_23 (by first | exact b_nX_sheet_23 | with_reducible assumption | exact ⟨by omega, by omega⟩ | assumption) (b_iX_sheetLength_23) (iI_rng (Int.le_trans (by decide) (Int.add_le_add (b_l2_x21.1) (Int.le_refl _))) (by omega) (by decide) (by decide)) (by first | with_reducible assumption | omega | (rw [iI_t (by omega) (by omega)]; omega) | (have h7 : (0 : Int32).toInt = 0 := (by decide); omega)) (show iX_sheetLength.toInt ≤ iX_sheetLength_23.toInt from by omega) (show nX_sheet ≤ nX_sheet_23 from by omega) (by have e9 : ((iI (l2_x21.toInt + 1))).toInt = (l2_x21.toInt + 1) := (iI_t (Int.le_trans (by decide) (Int.add_le_add (b_l2_x21.1) (Int.le_refl _))) (Int.le_trans (Int.add_le_add (b_l2_x21.2) (Int.le_refl _)) (by decide))); omega) hP hD hS hl
theorem dX11_putVariable_0 : decode cX11_putVariable 0 = .ok (.aload_n 0, 1) := dk_42 (by decide +kernel)
theorem dX11_putVariable_1 : decode cX11_putVariable 1 = .ok (.ldc_w 277, 3) := dk_19 (by decide +kernel)
theorem dX11_putVariable_4 : decode cX11_putVariable 4 = .ok (.invokevirtual 279, 3) := dk_182 (by decide +kernel)
theorem dX11_putVariable_7 : decode cX11_putVariable 7 = .ok (.aload_n 0, 1) := dk_42 (by decide +kernel)
theorem dX11_putVariable_8 : decode cX11_putVariable 8 = .ok (.iload_n 1, 1) := dk_27 (by decide +kernel)
theorem dX11_putVariable_9 : decode cX11_putVariable 9 = .ok (.invokevirtual 283, 3) := dk_182 (by decide +kernel)
theorem dX11_putVariable_12 : decode cX11_putVariable 12 = .ok (.aload_n 0, 1) := dk_42 (by decide +kernel)
theorem dX11_putVariable_13 : decode cX11_putVariable 13 = .ok (.getfield 23, 3) := dk_180 (by decide +kernel)
theorem dX11_putVariable_16 : decode cX11_putVariable 16 = .ok (.getfield 102, 3) := dk_180 (by decide +kernel)
theorem dX11_putVariable_19 : decode cX11_putVariable 19 = .ok (.iload_n 1, 1) := dk_27 (by decide +kernel)
theorem dX11_putVariable_20 : decode cX11_putVariable 20 = .ok (.baload, 1) := dk_51 (by decide +kernel)
theorem dX11_putVariable_21 : decode cX11_putVariable 21 = .ok (.ifCond .eq 10, 3) := dk_153 (by decide +kernel)
theorem dX11_putVariable_24 : decode cX11_putVariable 24 = .ok (.aload_n 0, 1) := dk_42 (by decide +kernel)
theorem dX11_putVariable_25 : decode cX11_putVariable 25 = .ok (.ldc_w 286, 3) := dk_19 (by decide +kernel)
theorem dX11_putVariable_28 : decode cX11_putVariable 28 = .ok (.invokevirtual 279, 3) := dk_182 (by decide +kernel)
theorem dX11_putVariable_31 : decode cX11_putVariable 31 = .ok (.aload_n 0, 1) := dk_42 (by decide +kernel)
theorem dX11_putVariable_32 : decode cX11_putVariable 32 = .ok (.ldc_w 288, 3) := dk_19 (by decide +kernel)
theorem dX11_putVariable_35 : decode cX11_putVariable 35 = .ok (.invokevirtual 279, 3) := dk_182 (by decide +kernel)
theorem dX11_putVariable_38 : decode cX11_putVariable 38 = .ok (.aload_n 0, 1) := dk_42 (by decide +kernel)
theorem dX11_putVariable_39 : decode cX11_putVariable 39 = .ok (.aload_n 0, 1) := dk_42 (by decide +kernel)
theorem dX11_putVariable_40 : decode cX11_putVariable 40 = .ok (.getfield 23, 3) := dk_180 (by decide +kernel)
theorem dX11_putVariable_43 : decode cX11_putVariable 43 = .ok (.getfield 96, 3) := dk_180 (by decide +kernel)
theorem dX11_putVariable_46 : decode cX11_putVariable 46 = .ok (.iload_n 1, 1) := dk_27 (by decide +kernel)
theorem dX11_putVariable_47 : decode cX11_putVariable 47 = .ok (.iaload, 1) := dk_46 (by decide +kernel)
theorem dX11_putVariable_48 : decode cX11_putVariable 48 = .ok (.invokevirtual 283, 3) := dk_182 (by decide +kernel)
theorem dX11_putVariable_51 : decode cX11_putVariable 51 = .ok (.aload_n 0, 1) := dk_42 (by decide +kernel)
theorem dX11_putVariable_52 : decode cX11_putVariable 52 = .ok (.ldc_w 290, 3) := dk_19 (by decide +kernel)
theorem dX11_putVariable_55 : decode cX11_putVariable 55 = .ok (.invokevirtual 279, 3) := dk_182 (by decide +kernel)
theorem dX11_putVariable_58 : decode cX11_putVariable 58 = .ok (.aload_n 0, 1) := dk_42 (by decide +kernel)
theorem dX11_putVariable_59 : decode cX11_putVariable 59 = .ok (.aload_n 0, 1) := dk_42 (by decide +kernel)
theorem dX11_putVariable_60 : decode cX11_putVariable 60 = .ok (.getfield 23, 3) := dk_180 (by decide +kernel)
theorem dX11_putVariable_63 : decode cX11_putVariable 63 = .ok (.getfield 99, 3) := dk_180 (by decide +kernel)
theorem dX11_putVariable_66 : decode cX11_putVariable 66 = .ok (.iload_n 1, 1) := dk_27 (by decide +kernel)
theorem dX11_putVariable_67 : decode cX11_putVariable 67 = .ok (.iaload, 1) := dk_46 (by decide +kernel)
theorem dX11_putVariable_68 : decode cX11_putVariable 68 = .ok (.invokevirtual 283, 3) := dk_182 (by decide +kernel)
theorem dX11_putVariable_71 : decode cX11_putVariable 71 = .ok (.aload_n 0, 1) := dk_42 (by decide +kernel)
theorem dX11_putVariable_72 : decode cX11_putVariable 72 = .ok (.ldc_w 292, 3) := dk_19 (by decide +kernel)
theorem dX11_putVariable_75 : decode cX11_putVariable 75 = .ok (.invokevirtual 279, 3) := dk_182 (by decide +kernel)
theorem dX11_putVariable_78 : decode cX11_putVariable 78 = .ok (.return_, 1) := dk_177 (by decide +kernel)
def wsMX11_putVariable : List Cond := .code yX11_putVariable cX11_putVariable 2 none :: ([.fieldLink RX11 23 "OptimaWorks" "model" "LOptimaWorks$Model;", .fieldLink RX11 102 "OptimaWorks$Model" "whole" "[Z", .fieldLink RX11 96 "OptimaWorks$Model" "from" "[I", .fieldLink RX11 99 "OptimaWorks$Model" "to" "[I"] ++ wsX10 ++ wsX110 ++ (wsV RX11 279 RX11 yX11_putText wsMX11_putText) ++ (wsV RX11 283 RX11 yX11_putNumber wsMX11_putNumber))
theorem iwsMX11_putVariable_in1 : ∀ w ∈ wsX10, w ∈ wsMX11_putVariable := fun _ h => List.mem_cons_of_mem _ (List.mem_append_left _ (List.mem_append_left _ (List.mem_append_left _ (List.mem_append_right _ h))))
theorem iwsMX11_putVariable_in11 : ∀ w ∈ wsX110, w ∈ wsMX11_putVariable := fun _ h => List.mem_cons_of_mem _ (List.mem_append_left _ (List.mem_append_left _ (List.mem_append_right _ h)))
theorem gwsMX11_putVariable_0 : GoodIn wsMX11_putVariable (wsV RX11 279 RX11 yX11_putText wsMX11_putText) := goodIn_sub (fun _ h => List.mem_cons_of_mem _ (List.mem_append_left _ (List.mem_append_right _ h))) (gdV (by decide +kernel) gdwsMX11_putText)
theorem gwsMX11_putVariable_1 : GoodIn wsMX11_putVariable (wsV RX11 283 RX11 yX11_putNumber wsMX11_putNumber) := goodIn_sub (fun _ h => List.mem_cons_of_mem _ (List.mem_append_right _ h)) (gdV (by decide +kernel) gdwsMX11_putNumber)
theorem gdwsMX11_putVariable : wsMX11_putVariable.all goodWord = true := gdC rfl (gdA (gdA (gdA (gdA (by decide +kernel : ([.fieldLink RX11 23 "OptimaWorks" "model" "LOptimaWorks$Model;", .fieldLink RX11 102 "OptimaWorks$Model" "whole" "[Z", .fieldLink RX11 96 "OptimaWorks$Model" "from" "[I", .fieldLink RX11 99 "OptimaWorks$Model" "to" "[I"] : List Cond).all goodWord = true) gdwsX10) gdwsX110) (gdV (by decide +kernel) gdwsMX11_putText)) (gdV (by decide +kernel) gdwsMX11_putNumber))
theorem hm_m_X11_putVariable_0 : (.fieldLink RX11 23 "OptimaWorks" "model" "LOptimaWorks$Model;" : Cond) ∈ wsMX11_putVariable := by decide +kernel
set_option maxHeartbeats 4000000 in
set_option maxRecDepth 100000 in
/-- a variable more -/
theorem m_X11_putVariable (l : Launch) (hst : l.stackTraces = false) (dC : Nat → ClassId) (dI : Nat → Nat → Nat) (hX : Nat → Nat) (aX : Nat → Nat) (kX : Nat → ClassId) (hT : Nat → Nat) (hM : Nat → Nat) (fX_ready : Nat → Int32) (fX_sheet : Nat → Int32) (dX_sheet : Nat) (nX_sheet : Nat) (iX_sheetLength : Int32) (xX_reader : Value) (xX_solver : Value) (xX_prover : Value) (xX_values : Value) (xX_clauses : Value) (xX_nets : Value) (aM : Nat → Nat) (kM : Nat → ClassId) (iM_stands : Int32) (iM_variables : Int32) (iM_rows : Int32) (iM_goals : Int32) (iM_differents : Int32) (iM_cases : Int32) (fM_from : Nat → Int32) (fM_to : Nat → Int32) (fM_whole : Nat → Int32) (fM_ways : Nat → Int32) (iM_plainRows : Int32) (fM_plainRow : Nat → Int32) (fM_kept : Nat → Int32) (fM_goalOver : Nat → Int32) (fM_goalUnder : Nat → Int32) (fM_goalMax : Nat → Int32) (fM_different : Nat → Int32) (p1 : Int32) (b_fX_sheet : ∀ q : Nat, (-128) ≤ (fX_sheet q).toInt ∧ (fX_sheet q).toInt ≤ 127) (b_nX_sheet : 64 ≤ nX_sheet ∧ nX_sheet ≤ 60000) (b_iX_sheetLength : 0 ≤ iX_sheetLength.toInt ∧ iX_sheetLength.toInt ≤ 30000) (b_shl : iX_sheetLength.toInt ≤ ((nX_sheet : Nat) : Int)) (b_iM_stands : 0 ≤ iM_stands.toInt ∧ iM_stands.toInt ≤ 1) (b_iM_variables : 0 ≤ iM_variables.toInt ∧ iM_variables.toInt ≤ 8) (b_iM_rows : 0 ≤ iM_rows.toInt ∧ iM_rows.toInt ≤ 12) (b_iM_goals : 0 ≤ iM_goals.toInt ∧ iM_goals.toInt ≤ 3) (b_iM_differents : 0 ≤ iM_differents.toInt ∧ iM_differents.toInt ≤ 8) (b_iM_cases : 0 ≤ iM_cases.toInt ∧ iM_cases.toInt ≤ 200000) (b_fM_ways : ∀ q : Nat, 0 ≤ (fM_ways q).toInt ∧ (fM_ways q).toInt ≤ 3) (b_iM_plainRows : 0 ≤ iM_plainRows.toInt ∧ iM_plainRows.toInt ≤ 12) (b_fM_plainRow : ∀ q : Nat, 0 ≤ (fM_plainRow q).toInt ∧ (fM_plainRow q).toInt ≤ 11) (b_pr : iM_plainRows.toInt ≤ iM_rows.toInt) (b_p1 : 0 ≤ p1.toInt ∧ p1.toInt ≤ 7) (sz : Nat) : Met l yX11_putVariable wsMX11_putVariable ({ frames := 5, cells := 5626, slots := 420000, locals := 107 }) (va_Pc [.ref (hX 0), .int p1] (fun U => U.heap.size = sz ∧ va_P (dC, dI) vwCl (WX hX aX kX hT hM fX_ready fX_sheet dX_sheet nX_sheet iX_sheetLength xX_reader xX_solver xX_prover xX_values xX_clauses xX_nets ++ (WM hM aM kM iM_stands iM_variables iM_rows iM_goals iM_differents iM_cases fM_from fM_to fM_whole fM_ways iM_plainRows fM_plainRow fM_kept fM_goalOver fM_goalUnder fM_goalMax fM_different)) U.heap ∧ va_K (dC, dI) vwCl (tX kX ++ (tM kM)) U ∧ va_D (fun _ => True) (WX hX aX kX hT hM fX_ready fX_sheet dX_sheet nX_sheet iX_sheetLength xX_reader xX_solver xX_prover xX_values xX_clauses xX_nets ++ (WM hM aM kM iM_stands iM_variables iM_rows iM_goals iM_differents iM_cases fM_from fM_to fM_whole fM_ways iM_plainRows fM_plainRow fM_kept fM_goalOver fM_goalUnder fM_goalMax fM_different)) ∧ CE (va_A (WX hX aX kX hT hM fX_ready fX_sheet dX_sheet nX_sheet iX_sheetLength xX_reader xX_solver xX_prover xX_values xX_clauses xX_nets ++ (WM hM aM kM iM_stands iM_variables iM_rows iM_goals iM_differents iM_cases fM_from fM_to fM_whole fM_ways iM_plainRows fM_plainRow fM_kept fM_goalOver fM_goalUnder fM_goalMax fM_different)) sz) U U.heap)) (va_Qv (fun (u : (Nat → Int32) × (Nat) × (Nat) × (Int32)) => (∀ q : Nat, (-128) ≤ ((u.1) q).toInt ∧ ((u.1) q).toInt ≤ 127) ∧ (64 ≤ (u.2.2.1) ∧ (u.2.2.1) ≤ 60000) ∧ (0 ≤ (u.2.2.2).toInt ∧ (u.2.2.2).toInt ≤ 30000) ∧ ((u.2.2.2).toInt ≤ (((u.2.2.1) : Nat) : Int)) ∧ (nX_sheet ≤ (u.2.2.1)) ∧ (iX_sheetLength.toInt ≤ (u.2.2.2).toInt)) (fun (u : (Nat → Int32) × (Nat) × (Nat) × (Int32)) t => va_P (dC, dI) vwCl (WX hX aX kX hT hM fX_ready (u.1) (u.2.1) (u.2.2.1) (u.2.2.2) xX_reader xX_solver xX_prover xX_values xX_clauses xX_nets ++ (WM hM aM kM iM_stands iM_variables iM_rows iM_goals iM_differents iM_cases fM_from fM_to fM_whole fM_ways iM_plainRows fM_plainRow fM_kept fM_goalOver fM_goalUnder fM_goalMax fM_different)) t.heap ∧ va_D (va_A (WX hX aX kX hT hM fX_ready fX_sheet dX_sheet nX_sheet iX_sheetLength xX_reader xX_solver xX_prover xX_values xX_clauses xX_nets ++ (WM hM aM kM iM_stands iM_variables iM_rows iM_goals iM_differents iM_cases fM_from fM_to fM_whole fM_ways iM_plainRows fM_plainRow fM_kept fM_goalOver fM_goalUnder fM_goalMax fM_different)) sz) (WX hX aX kX hT hM fX_ready (u.1) (u.2.1) (u.2.2.1) (u.2.2.2) xX_reader xX_solver xX_prover xX_values xX_clauses xX_nets ++ (WM hM aM kM iM_stands iM_variables iM_rows iM_goals iM_differents iM_cases fM_from fM_to fM_whole fM_ways iM_plainRows fM_plainRow fM_kept fM_goalOver fM_goalUnder fM_goalMax fM_different)) ∧ t.heap.size + (nX_sheet / 32) ≤ sz + ((u.2.2.1) / 32) ∧ nS sz t.heap + (2 * nX_sheet) ≤ (2 * (u.2.2.1))) (va_A (WX hX aX kX hT hM fX_ready fX_sheet dX_sheet nX_sheet iX_sheetLength xX_reader xX_solver xX_prover xX_values xX_clauses xX_nets ++ (WM hM aM kM iM_stands iM_variables iM_rows iM_goals iM_differents iM_cases fM_from fM_to fM_whole fM_ways iM_plainRows fM_plainRow fM_kept fM_goalOver fM_goalUnder fM_goalMax fM_different)) sz)) 5626 420000 (va_A (WX hX aX kX hT hM fX_ready fX_sheet dX_sheet nX_sheet iX_sheetLength xX_reader xX_solver xX_prover xX_values xX_clauses xX_nets ++ (WM hM aM kM iM_stands iM_variables iM_rows iM_goals iM_differents iM_cases fM_from fM_to fM_whole fM_ways iM_plainRows fM_plainRow fM_kept fM_goalOver fM_goalUnder fM_goalMax fM_different)) sz) := by
  refine Met.ofW (cc := cX11_putVariable) (maxL := 2) (ret := none) (by decide) rfl ?_
  intro p e s m args below meth c s₁ B hml hv
  obtain ⟨rfl, hsz, hP, hK, hD0, hE⟩ := hv
  have hx := B.exec
  have hb := B.bytes
  have hr := B.returns
  have hts := atoms_spec (ws := wsMX11_putVariable) B.pre
  have hown : s.vm.findClass RX11 = some m.cls := findClass_of_methodNamed B.named
  have hlocks := B.notSynchronized
  subst hsz
  have hD := hD0.self (sz := s.heap.size)
  generalize hAe : va_A (WX hX aX kX hT hM fX_ready fX_sheet dX_sheet nX_sheet iX_sheetLength xX_reader xX_solver xX_prover xX_values xX_clauses xX_nets ++ (WM hM aM kM iM_stands iM_variables iM_rows iM_goals iM_differents iM_cases fM_from fM_to fM_whole fM_ways iM_plainRows fM_plainRow fM_kept fM_goalOver fM_goalUnder fM_goalMax fM_different)) s.heap.size = A at hD hE ⊢
  have hA : ∀ q : Nat, s.heap.size ≤ q → A q := fun q h => by rw [← hAe]; exact Or.inr h
  have hS : va_S A s.heap s.heap [] := va_S.rf
  have hl := lv_entry ([.ref (hX 0), .int p1]) (n := 2) (Nat.le_of_ble_eq_true rfl)
  rw [lg_entry_eq]
  generalize (lg_sl ([.ref (hX 0), .int p1]) ++ List.replicate (2 - (lg_sl ([.ref (hX 0), .int p1])).length) Slot.unset).toArray = ls at hl ⊢
  have hl : lv_has ls 2 [(0, .ref (hX 0)), (1, .int p1)] := hl
  refine W.widen (k := (nX_sheet / 32 - (nX_sheet / 32))) (n := (2 * nX_sheet - (2 * nX_sheet))) (Nat.zero_le _) (Nat.zero_le _) ?_
  refine lv_aload_n hx hb dX11_putVariable_0 rfl (lv_at hl 0 rfl) ?_
  obtain ⟨qS277, hR277, hSS277⟩ := hE.2.2.2 0 _ rfl
  refine lv_ldcwS hx hb hown hR277 dX11_putVariable_1 ?_
  refine W.known (fun hz0 hn0 => ?_)
  have hS0 := hS.1
  have p9 := cj_2_0 (WX hX aX kX hT hM fX_ready fX_sheet dX_sheet nX_sheet iX_sheetLength xX_reader xX_solver xX_prover xX_values xX_clauses xX_nets) (WM hM aM kM iM_stands iM_variables iM_rows iM_goals iM_differents iM_cases fM_from fM_to fM_whole fM_ways iM_plainRows fM_plainRow fM_kept fM_goalOver fM_goalUnder fM_goalMax fM_different)
  have hPc := hP.mem (fun q h => p9.mem_iff.mpr (List.mem_append_left _ h))
  have hDc := (hD.perm p9).left
  have hKc : va_K (dC, dI) vwCl (tX kX) _ := hK.sub [0, 1] rfl
  have hFc := freeG p9 hD hS hA
  refine va_callv (va_runV (As := [.ref qS277]) (rest := []) ⟨hx, hb, hml, hown, hts⟩ (Met.sV (m_X11_putText l dC dI hX aX kX hT hM fX_ready fX_sheet dX_sheet nX_sheet iX_sheetLength xX_reader xX_solver xX_prover xX_values xX_clauses xX_nets qS277 5 (fun j => ([118, 97, 114, 32, 120] : List Int32).getD j 0) b_fX_sheet (by first | exact b_nX_sheet | with_reducible assumption | exact ⟨by omega, by omega⟩ | assumption) (b_iX_sheetLength) (by first | with_reducible assumption | omega | (rw [iI_t (by omega) (by omega)]; omega) | (have h7 : (0 : Int32).toInt = 0 := (by decide); omega)) (by decide) s.heap.size) s.heap) (cwV 1 hts gwsMX11_putVariable_0 rfl rfl rfl (by decide +kernel) ⟨by first | decide +kernel | (dsimp only [headSpec] <;> omega), by first | decide +kernel | (dsimp only [headSpec] <;> omega)⟩) ⟨fun a U g mk q => by obtain ⟨q0, qh, q1, qP, qK, qD, qE⟩ := q; exact ⟨q0, qh, q1, qP, va_K.moved (u := U) (U := U.calling g mk a) (Vm.Alike.refl U.vm) qK, qD, qE.same rfl⟩, va_recv hK hP (ci := 11) (q0 := 0) rfl rfl, fun U hU9 hW => ⟨rfl, hU9, by rw [hU9], by rw [hU9]; exact hPc, va_K.moved hW.alike hKc, hDc.weaken (fun _ _ _ _ => trivial), by rw [hU9]; exact (((hSS277 : (StrE qS277 5 (fun j => ([118, 97, 114, 32, 120] : List Int32).getD j 0)) A s s.heap).kept hS.2.1).narrow (fun q h => hFc q h)).warm hW⟩⟩ rfl rfl hl.1 rfl (lv_room (Nat.le_of_ble_eq_true rfl)) dX11_putVariable_4 ⟨by first | decide +kernel | (dsimp only [headSpec] <;> omega), by first | decide +kernel | (dsimp only [headSpec] <;> omega)⟩) hS (fun q _ h => hFc q h) hFc (fun u t9_ H locs ht hvm hw9 hB9 hz1 hk1 hS => ?_)
  revert u hw9 hB9
  refine fz_p4 ?_
  intro fX_sheet_1 dX_sheet_1 nX_sheet_1 iX_sheetLength_1 hw9 hB9
  try dsimp only at hw9 hB9
  revert hw9
  refine fz_a6 ?_
  intro b_fX_sheet_1 b_nX_sheet_1 b_iX_sheetLength_1 b_shl_1 f1_0 f1_1
  have hg1 := hB9.1.2.2.1
  rw [ht] at hg1
  have hg2 := hB9.1.2.2.2
  rw [ht] at hg2
  have hSz := hB9.2
  rw [ht] at hSz
  have p8 := cj_2_0 (WX hX aX kX hT hM fX_ready fX_sheet_1 dX_sheet_1 nX_sheet_1 iX_sheetLength_1 xX_reader xX_solver xX_prover xX_values xX_clauses xX_nets) (WM hM aM kM iM_stands iM_variables iM_rows iM_goals iM_differents iM_cases fM_from fM_to fM_whole fM_ways iM_plainRows fM_plainRow fM_kept fM_goalOver fM_goalUnder fM_goalMax fM_different)
  obtain ⟨hP, hD⟩ := frameG p9 p8 hP hD hk1 hFc (fz_P ht hB9.1.1) hB9.1.2.1
  have hz9 : H.size ≤ s.heap.size + (nX_sheet_1 / 32 - (nX_sheet / 32)) := by (try dsimp only at hg1); omega
  have hn9 : nS s.heap.size H ≤ (2 * nX_sheet_1 - (2 * nX_sheet)) := by rw [hSz.n hS0]; (try dsimp only at hg2); omega
  refine W.tight (cells2 := (nX_sheet_1 / 32 - (nX_sheet / 32))) (slots2 := (2 * nX_sheet_1 - (2 * nX_sheet))) hz9 hn9 ?_
  clear hz9 hn9 hz0 hn0 hS0 hSz hg1 hg2
  refine lv_aload_n hx hb dX11_putVariable_7 rfl (lv_at hl 0 rfl) ?_
  refine lv_iload_n hx hb dX11_putVariable_8 rfl (lv_at hl 1 rfl) ?_
  refine W.known (fun hz0 hn0 => ?_)
  have hS0 := hS.1
  have p9 := cj_2_0 (WX hX aX kX hT hM fX_ready fX_sheet_1 dX_sheet_1 nX_sheet_1 iX_sheetLength_1 xX_reader xX_solver xX_prover xX_values xX_clauses xX_nets) (WM hM aM kM iM_stands iM_variables iM_rows iM_goals iM_differents iM_cases fM_from fM_to fM_whole fM_ways iM_plainRows fM_plainRow fM_kept fM_goalOver fM_goalUnder fM_goalMax fM_different)
  have hPc := hP.mem (fun q h => p9.mem_iff.mpr (List.mem_append_left _ h))
  have hDc := (hD.perm p9).left
  have hKc : va_K (dC, dI) vwCl (tX kX) _ := hK.sub [0, 1] rfl
  have hFc := freeG p9 hD hS hA
  refine va_callv (va_runV (As := [.int p1]) (rest := []) ⟨hx, hb, hml, hown, hts⟩ (Met.sV (m_X11_putNumber l dC dI hX aX kX hT hM fX_ready fX_sheet_1 dX_sheet_1 nX_sheet_1 iX_sheetLength_1 xX_reader xX_solver xX_prover xX_values xX_clauses xX_nets p1 b_fX_sheet_1 (by first | exact b_nX_sheet_1 | with_reducible assumption | exact ⟨by omega, by omega⟩ | assumption) (b_iX_sheetLength_1) (by first | with_reducible assumption | omega | (rw [iI_t (by omega) (by omega)]; omega) | (have h7 : (0 : Int32).toInt = 0 := (by decide); omega)) H.size) H) (cwV 1 hts gwsMX11_putVariable_1 rfl rfl rfl (by decide +kernel) ⟨by first | decide +kernel | (dsimp only [headSpec] <;> omega), by first | decide +kernel | (dsimp only [headSpec] <;> omega)⟩) ⟨fun a U g mk q => by obtain ⟨q0, qh, q1, qP, qK, qD⟩ := q; exact ⟨q0, qh, q1, qP, va_K.moved (u := U) (U := U.calling g mk a) (Vm.Alike.refl U.vm) qK, qD⟩, va_recv hK hP (ci := 11) (q0 := 0) rfl rfl, fun U hU9 hW => ⟨rfl, hU9, by rw [hU9], by rw [hU9]; exact hPc, va_K.moved hW.alike hKc, hDc.weaken (fun _ _ _ _ => trivial)⟩⟩ rfl rfl hl.1 rfl (lv_room (Nat.le_of_ble_eq_true rfl)) dX11_putVariable_9 ⟨by first | decide +kernel | (dsimp only [headSpec] <;> omega), by first | decide +kernel | (dsimp only [headSpec] <;> omega)⟩) hS (fun q _ h => hFc q h) hFc (fun u t9_ H locs ht hvm hw9 hB9 hz1 hk1 hS => ?_)
  revert u hw9 hB9
  refine fz_p4 ?_
  intro fX_sheet_2 dX_sheet_2 nX_sheet_2 iX_sheetLength_2 hw9 hB9
  try dsimp only at hw9 hB9
  revert hw9
  refine fz_a6 ?_
  intro b_fX_sheet_2 b_nX_sheet_2 b_iX_sheetLength_2 b_shl_2 f2_0 f2_1
  have hg1 := hB9.1.2.2.1
  rw [ht] at hg1
  have hg2 := hB9.1.2.2.2
  rw [ht] at hg2
  have hSz := hB9.2
  rw [ht] at hSz
  have p8 := cj_2_0 (WX hX aX kX hT hM fX_ready fX_sheet_2 dX_sheet_2 nX_sheet_2 iX_sheetLength_2 xX_reader xX_solver xX_prover xX_values xX_clauses xX_nets) (WM hM aM kM iM_stands iM_variables iM_rows iM_goals iM_differents iM_cases fM_from fM_to fM_whole fM_ways iM_plainRows fM_plainRow fM_kept fM_goalOver fM_goalUnder fM_goalMax fM_different)
  obtain ⟨hP, hD⟩ := frameG p9 p8 hP hD hk1 hFc (fz_P ht hB9.1.1) hB9.1.2.1
  have hz9 : H.size ≤ s.heap.size + (nX_sheet_2 / 32 - (nX_sheet / 32)) := by (try dsimp only at hg1); omega
  have hn9 : nS s.heap.size H ≤ (2 * nX_sheet_2 - (2 * nX_sheet)) := by rw [hSz.n hS0]; (try dsimp only at hg2); omega
  refine W.tight (cells2 := (nX_sheet_2 / 32 - (nX_sheet / 32))) (slots2 := (2 * nX_sheet_2 - (2 * nX_sheet))) hz9 hn9 ?_
  clear hz9 hn9 hz0 hn0 hS0 hSz hg1 hg2
  refine lv_aload_n hx hb dX11_putVariable_12 rfl (lv_at hl 0 rfl) ?_
  refine va_get (D := (dC, dI)) (ci := 11) (v := .ref (hM 0)) (C := RX11) (T := TX11) (N := 11) hx hb hts iwsMX11_putVariable_in11 hown hK hP 0 rfl rfl 2 (by decide) (hts _ hm_m_X11_putVariable_0) (fun _ h9 => h9) rfl dX11_putVariable_13 ?_
  refine va_get (D := (dC, dI)) (ci := 1) (v := .ref (aM 2)) (C := RX1) (T := TX1) (N := 17) hx hb hts iwsMX11_putVariable_in1 hown hK hP 3 rfl rfl 8 (by decide) (hts (.fieldLink RX11 102 "OptimaWorks$Model" "whole" "[Z") (by decide +kernel)) (fun _ h9 => h9) rfl dX11_putVariable_16 ?_
  refine lv_iload_n hx hb dX11_putVariable_19 rfl (lv_at hl 1 rfl) ?_
  refine va_zald (cA := kM 2) (n := 8) (f := fM_whole) hx hb hK hP 6 4 rfl rfl (vp_in_iff.mpr ⟨b_p1.1, (Int.lt_of_le_of_lt (b_p1.2) (by decide))⟩) dX11_putVariable_20 ?_
  refine lv_topi (fun v3 hv3 => ?_)
  clear hv3
  refine W.known (fun hzk hnk => ?_)
  refine W.widen (k := 1875) (n := 120000) (by omega) (by omega) ?_
  refine W.cut (pc := 31) (fun H locs ls stk => ∃ (fX_sheet_j2 : Nat → Int32) (dX_sheet_j2 : Nat) (nX_sheet_j2 : Nat) (iX_sheetLength_j2 : Int32), (∀ q : Nat, (-128) ≤ (fX_sheet_j2 q).toInt ∧ (fX_sheet_j2 q).toInt ≤ 127) ∧ (64 ≤ nX_sheet_j2 ∧ nX_sheet_j2 ≤ 60000) ∧ (0 ≤ iX_sheetLength_j2.toInt ∧ iX_sheetLength_j2.toInt ≤ 30000) ∧ (iX_sheetLength_j2.toInt ≤ ((nX_sheet_j2 : Nat) : Int)) ∧ (iX_sheetLength.toInt ≤ iX_sheetLength_j2.toInt) ∧ (nX_sheet ≤ nX_sheet_j2) ∧ (H.size + (nX_sheet / 32) ≤ s.heap.size + (nX_sheet_j2 / 32) ∧ nS s.heap.size H + (2 * nX_sheet) ≤ (2 * nX_sheet_j2)) ∧  stk = [] ∧ va_P (dC, dI) vwCl (WX hX aX kX hT hM fX_ready fX_sheet_j2 dX_sheet_j2 nX_sheet_j2 iX_sheetLength_j2 xX_reader xX_solver xX_prover xX_values xX_clauses xX_nets ++ (WM hM aM kM iM_stands iM_variables iM_rows iM_goals iM_differents iM_cases fM_from fM_to fM_whole fM_ways iM_plainRows fM_plainRow fM_kept fM_goalOver fM_goalUnder fM_goalMax fM_different)) H ∧ va_D A (WX hX aX kX hT hM fX_ready fX_sheet_j2 dX_sheet_j2 nX_sheet_j2 iX_sheetLength_j2 xX_reader xX_solver xX_prover xX_values xX_clauses xX_nets ++ (WM hM aM kM iM_stands iM_variables iM_rows iM_goals iM_differents iM_cases fM_from fM_to fM_whole fM_ways iM_plainRows fM_plainRow fM_kept fM_goalOver fM_goalUnder fM_goalMax fM_different)) ∧ va_S A s.heap H locs ∧ lv_has ls 2 [(0, .ref (hX 0)), (1, .int p1)]) (fun join2 => ?_) ?_
  · refine W.tight (cells2 := (nX_sheet_2 / 32 - (nX_sheet / 32))) (slots2 := (2 * nX_sheet_2 - (2 * nX_sheet))) hzk hnk ?_
    refine lv_if_eq (tgt := 31) hx hb dX11_putVariable_21 (by decide) (fun c_21 => ?_) (fun c_21 => ?_)
    · have t_21 : v3.toInt = 0 := toI_eq c_21 rfl (by decide : (0 : Int32).toInt = 0)
      have hl : lv_has _ _ ([(0, .ref (hX 0)), (1, .int p1)]) := lv_sub hl [0, 1] rfl
      refine W.known (fun hza hna => ?_)
      refine W.widen (k := 1875) (n := 120000) (by omega) (by omega) ?_
      exact join2 _ _ _ _ ⟨fX_sheet_2, dX_sheet_2, nX_sheet_2, iX_sheetLength_2, b_fX_sheet_2, (by first | exact b_nX_sheet_2 | with_reducible assumption | exact ⟨by omega, by omega⟩ | assumption), (b_iX_sheetLength_2), (by first | with_reducible assumption | omega | (rw [iI_t (by omega) (by omega)]; omega) | (have h7 : (0 : Int32).toInt = 0 := (by decide); omega)), (show iX_sheetLength.toInt ≤ iX_sheetLength_2.toInt from by omega), (show nX_sheet ≤ nX_sheet_2 from by omega), ⟨by omega, by omega⟩, rfl, hP, hD, hS, hl⟩
    · have t_21 : ¬ v3.toInt = 0 := toI_neq c_21 rfl (by decide : (0 : Int32).toInt = 0)
      refine lv_aload_n hx hb dX11_putVariable_24 rfl (lv_at hl 0 rfl) ?_
      obtain ⟨qS286, hR286, hSS286⟩ := hE.2.2.2 1 _ rfl
      refine lv_ldcwS hx hb hown hR286 dX11_putVariable_25 ?_
      refine W.known (fun hz0 hn0 => ?_)
      have hS0 := hS.1
      have p9 := cj_2_0 (WX hX aX kX hT hM fX_ready fX_sheet_2 dX_sheet_2 nX_sheet_2 iX_sheetLength_2 xX_reader xX_solver xX_prover xX_values xX_clauses xX_nets) (WM hM aM kM iM_stands iM_variables iM_rows iM_goals iM_differents iM_cases fM_from fM_to fM_whole fM_ways iM_plainRows fM_plainRow fM_kept fM_goalOver fM_goalUnder fM_goalMax fM_different)
      have hPc := hP.mem (fun q h => p9.mem_iff.mpr (List.mem_append_left _ h))
      have hDc := (hD.perm p9).left
      have hKc : va_K (dC, dI) vwCl (tX kX) _ := hK.sub [0, 1] rfl
      have hFc := freeG p9 hD hS hA
      refine va_callv (va_runV (As := [.ref qS286]) (rest := []) ⟨hx, hb, hml, hown, hts⟩ (Met.sV (m_X11_putText l dC dI hX aX kX hT hM fX_ready fX_sheet_2 dX_sheet_2 nX_sheet_2 iX_sheetLength_2 xX_reader xX_solver xX_prover xX_values xX_clauses xX_nets qS286 6 (fun j => ([32, 119, 104, 111, 108, 101] : List Int32).getD j 0) b_fX_sheet_2 (by first | exact b_nX_sheet_2 | with_reducible assumption | exact ⟨by omega, by omega⟩ | assumption) (b_iX_sheetLength_2) (by first | with_reducible assumption | omega | (rw [iI_t (by omega) (by omega)]; omega) | (have h7 : (0 : Int32).toInt = 0 := (by decide); omega)) (by decide) H.size) H) (cwV 1 hts gwsMX11_putVariable_0 rfl rfl rfl (by decide +kernel) ⟨by first | decide +kernel | (dsimp only [headSpec] <;> omega), by first | decide +kernel | (dsimp only [headSpec] <;> omega)⟩) ⟨fun a U g mk q => by obtain ⟨q0, qh, q1, qP, qK, qD, qE⟩ := q; exact ⟨q0, qh, q1, qP, va_K.moved (u := U) (U := U.calling g mk a) (Vm.Alike.refl U.vm) qK, qD, qE.same rfl⟩, va_recv hK hP (ci := 11) (q0 := 0) rfl rfl, fun U hU9 hW => ⟨rfl, hU9, by rw [hU9], by rw [hU9]; exact hPc, va_K.moved hW.alike hKc, hDc.weaken (fun _ _ _ _ => trivial), by rw [hU9]; exact (((hSS286 : (StrE qS286 6 (fun j => ([32, 119, 104, 111, 108, 101] : List Int32).getD j 0)) A s s.heap).kept hS.2.1).narrow (fun q h => hFc q h)).warm hW⟩⟩ rfl rfl hl.1 rfl (lv_room (Nat.le_of_ble_eq_true rfl)) dX11_putVariable_28 ⟨by first | decide +kernel | (dsimp only [headSpec] <;> omega), by first | decide +kernel | (dsimp only [headSpec] <;> omega)⟩) hS (fun q _ h => hFc q h) hFc (fun u t9_ H locs ht hvm hw9 hB9 hz1 hk1 hS => ?_)
      revert u hw9 hB9
      refine fz_p4 ?_
      intro fX_sheet_5 dX_sheet_5 nX_sheet_5 iX_sheetLength_5 hw9 hB9
      try dsimp only at hw9 hB9
      revert hw9
      refine fz_a6 ?_
      intro b_fX_sheet_5 b_nX_sheet_5 b_iX_sheetLength_5 b_shl_5 f5_0 f5_1
      have hg1 := hB9.1.2.2.1
      rw [ht] at hg1
      have hg2 := hB9.1.2.2.2
      rw [ht] at hg2
      have hSz := hB9.2
      rw [ht] at hSz
      have p8 := cj_2_0 (WX hX aX kX hT hM fX_ready fX_sheet_5 dX_sheet_5 nX_sheet_5 iX_sheetLength_5 xX_reader xX_solver xX_prover xX_values xX_clauses xX_nets) (WM hM aM kM iM_stands iM_variables iM_rows iM_goals iM_differents iM_cases fM_from fM_to fM_whole fM_ways iM_plainRows fM_plainRow fM_kept fM_goalOver fM_goalUnder fM_goalMax fM_different)
      obtain ⟨hP, hD⟩ := frameG p9 p8 hP hD hk1 hFc (fz_P ht hB9.1.1) hB9.1.2.1
      have hz9 : H.size ≤ s.heap.size + (nX_sheet_5 / 32 - (nX_sheet / 32)) := by (try dsimp only at hg1); omega
      have hn9 : nS s.heap.size H ≤ (2 * nX_sheet_5 - (2 * nX_sheet)) := by rw [hSz.n hS0]; (try dsimp only at hg2); omega
      refine W.tight (cells2 := (nX_sheet_5 / 32 - (nX_sheet / 32))) (slots2 := (2 * nX_sheet_5 - (2 * nX_sheet))) hz9 hn9 ?_
      clear hz9 hn9 hz0 hn0 hS0 hSz hg1 hg2
      have hl : lv_has _ _ ([(0, .ref (hX 0)), (1, .int p1)]) := lv_sub hl [0, 1] rfl
      refine W.known (fun hza hna => ?_)
      refine W.widen (k := 1875) (n := 120000) (by omega) (by omega) ?_
      exact join2 _ _ _ _ ⟨fX_sheet_5, dX_sheet_5, nX_sheet_5, iX_sheetLength_5, b_fX_sheet_5, (by first | exact b_nX_sheet_5 | with_reducible assumption | exact ⟨by omega, by omega⟩ | assumption), (b_iX_sheetLength_5), (by first | with_reducible assumption | omega | (rw [iI_t (by omega) (by omega)]; omega) | (have h7 : (0 : Int32).toInt = 0 := (by decide); omega)), (show iX_sheetLength.toInt ≤ iX_sheetLength_5.toInt from by omega), (show nX_sheet ≤ nX_sheet_5 from by omega), ⟨by omega, by omega⟩, rfl, hP, hD, hS, hl⟩
  · rintro H locs ls stk ⟨fX_sheet_j2, dX_sheet_j2, nX_sheet_j2, iX_sheetLength_j2, b_fX_sheet_j2, b_nX_sheet_j2, b_iX_sheetLength_j2, b_shl_j2, hjx, hgm0_j2, ⟨hzj, hnj⟩, rfl, hP, hD, hS, hl⟩
    refine W.tight (cells2 := (nX_sheet_j2 / 32 - (nX_sheet / 32))) (slots2 := (2 * nX_sheet_j2 - (2 * nX_sheet))) (tg1 hzj hS.1) (tg2 hnj) ?_
    refine lv_aload_n hx hb dX11_putVariable_31 rfl (lv_at hl 0 rfl) ?_
    obtain ⟨qS288, hR288, hSS288⟩ := hE.2.2.2 2 _ rfl
    refine lv_ldcwS hx hb hown hR288 dX11_putVariable_32 ?_
    refine W.known (fun hz0 hn0 => ?_)
    have hS0 := hS.1
    have p9 := cj_2_0 (WX hX aX kX hT hM fX_ready fX_sheet_j2 dX_sheet_j2 nX_sheet_j2 iX_sheetLength_j2 xX_reader xX_solver xX_prover xX_values xX_clauses xX_nets) (WM hM aM kM iM_stands iM_variables iM_rows iM_goals iM_differents iM_cases fM_from fM_to fM_whole fM_ways iM_plainRows fM_plainRow fM_kept fM_goalOver fM_goalUnder fM_goalMax fM_different)
    have hPc := hP.mem (fun q h => p9.mem_iff.mpr (List.mem_append_left _ h))
    have hDc := (hD.perm p9).left
    have hKc : va_K (dC, dI) vwCl (tX kX) _ := hK.sub [0, 1] rfl
    have hFc := freeG p9 hD hS hA
    refine va_callv (va_runV (As := [.ref qS288]) (rest := []) ⟨hx, hb, hml, hown, hts⟩ (Met.sV (m_X11_putText l dC dI hX aX kX hT hM fX_ready fX_sheet_j2 dX_sheet_j2 nX_sheet_j2 iX_sheetLength_j2 xX_reader xX_solver xX_prover xX_values xX_clauses xX_nets qS288 6 (fun j => ([32, 102, 114, 111, 109, 32] : List Int32).getD j 0) b_fX_sheet_j2 (by first | exact b_nX_sheet_j2 | with_reducible assumption | exact ⟨by omega, by omega⟩ | assumption) (b_iX_sheetLength_j2) (by first | with_reducible assumption | omega | (rw [iI_t (by omega) (by omega)]; omega) | (have h7 : (0 : Int32).toInt = 0 := (by decide); omega)) (by decide) H.size) H) (cwV 1 hts gwsMX11_putVariable_0 rfl rfl rfl (by decide +kernel) ⟨by first | decide +kernel | (dsimp only [headSpec] <;> omega), by first | decide +kernel | (dsimp only [headSpec] <;> omega)⟩) ⟨fun a U g mk q => by obtain ⟨q0, qh, q1, qP, qK, qD, qE⟩ := q; exact ⟨q0, qh, q1, qP, va_K.moved (u := U) (U := U.calling g mk a) (Vm.Alike.refl U.vm) qK, qD, qE.same rfl⟩, va_recv hK hP (ci := 11) (q0 := 0) rfl rfl, fun U hU9 hW => ⟨rfl, hU9, by rw [hU9], by rw [hU9]; exact hPc, va_K.moved hW.alike hKc, hDc.weaken (fun _ _ _ _ => trivial), by rw [hU9]; exact (((hSS288 : (StrE qS288 6 (fun j => ([32, 102, 114, 111, 109, 32] : List Int32).getD j 0)) A s s.heap).kept hS.2.1).narrow (fun q h => hFc q h)).warm hW⟩⟩ rfl rfl hl.1 rfl (lv_room (Nat.le_of_ble_eq_true rfl)) dX11_putVariable_35 ⟨by first | decide +kernel | (dsimp only [headSpec] <;> omega), by first | decide +kernel | (dsimp only [headSpec] <;> omega)⟩) hS (fun q _ h => hFc q h) hFc (fun u t9_ H locs ht hvm hw9 hB9 hz1 hk1 hS => ?_)
    revert u hw9 hB9
    refine fz_p4 ?_
    intro fX_sheet_6 dX_sheet_6 nX_sheet_6 iX_sheetLength_6 hw9 hB9
    try dsimp only at hw9 hB9
    revert hw9
    refine fz_a6 ?_
    intro b_fX_sheet_6 b_nX_sheet_6 b_iX_sheetLength_6 b_shl_6 f6_0 f6_1
    have hg1 := hB9.1.2.2.1
    rw [ht] at hg1
    have hg2 := hB9.1.2.2.2
    rw [ht] at hg2
    have hSz := hB9.2
    rw [ht] at hSz
    have p8 := cj_2_0 (WX hX aX kX hT hM fX_ready fX_sheet_6 dX_sheet_6 nX_sheet_6 iX_sheetLength_6 xX_reader xX_solver xX_prover xX_values xX_clauses xX_nets) (WM hM aM kM iM_stands iM_variables iM_rows iM_goals iM_differents iM_cases fM_from fM_to fM_whole fM_ways iM_plainRows fM_plainRow fM_kept fM_goalOver fM_goalUnder fM_goalMax fM_different)
    obtain ⟨hP, hD⟩ := frameG p9 p8 hP hD hk1 hFc (fz_P ht hB9.1.1) hB9.1.2.1
    have hz9 : H.size ≤ s.heap.size + (nX_sheet_6 / 32 - (nX_sheet / 32)) := by (try dsimp only at hg1); omega
    have hn9 : nS s.heap.size H ≤ (2 * nX_sheet_6 - (2 * nX_sheet)) := by rw [hSz.n hS0]; (try dsimp only at hg2); omega
    refine W.tight (cells2 := (nX_sheet_6 / 32 - (nX_sheet / 32))) (slots2 := (2 * nX_sheet_6 - (2 * nX_sheet))) hz9 hn9 ?_
    clear hz9 hn9 hz0 hn0 hS0 hSz hg1 hg2
    refine lv_aload_n hx hb dX11_putVariable_38 rfl (lv_at hl 0 rfl) ?_
    refine lv_aload_n hx hb dX11_putVariable_39 rfl (lv_at hl 0 rfl) ?_
    refine va_get (D := (dC, dI)) (ci := 11) (v := .ref (hM 0)) (C := RX11) (T := TX11) (N := 11) hx hb hts iwsMX11_putVariable_in11 hown hK hP 0 rfl rfl 2 (by decide) (hts _ hm_m_X11_putVariable_0) (fun _ h9 => h9) rfl dX11_putVariable_40 ?_
    refine va_get (D := (dC, dI)) (ci := 1) (v := .ref (aM 0)) (C := RX1) (T := TX1) (N := 17) hx hb hts iwsMX11_putVariable_in1 hown hK hP 3 rfl rfl 6 (by decide) (hts (.fieldLink RX11 96 "OptimaWorks$Model" "from" "[I") (by decide +kernel)) (fun _ h9 => h9) rfl dX11_putVariable_43 ?_
    refine lv_iload_n hx hb dX11_putVariable_46 rfl (lv_at hl 1 rfl) ?_
    refine va_iald (cA := kM 0) (n := 8) (f := fM_from) hx hb hK hP 4 2 rfl rfl (vp_in_iff.mpr ⟨b_p1.1, (Int.lt_of_le_of_lt (b_p1.2) (by decide))⟩) dX11_putVariable_47 ?_
    refine lv_topi (fun v7 hv7 => ?_)
    clear hv7
    refine W.known (fun hz0 hn0 => ?_)
    have hS0 := hS.1
    have p9 := cj_2_0 (WX hX aX kX hT hM fX_ready fX_sheet_6 dX_sheet_6 nX_sheet_6 iX_sheetLength_6 xX_reader xX_solver xX_prover xX_values xX_clauses xX_nets) (WM hM aM kM iM_stands iM_variables iM_rows iM_goals iM_differents iM_cases fM_from fM_to fM_whole fM_ways iM_plainRows fM_plainRow fM_kept fM_goalOver fM_goalUnder fM_goalMax fM_different)
    have hPc := hP.mem (fun q h => p9.mem_iff.mpr (List.mem_append_left _ h))
    have hDc := (hD.perm p9).left
    have hKc : va_K (dC, dI) vwCl (tX kX) _ := hK.sub [0, 1] rfl
    have hFc := freeG p9 hD hS hA
    refine va_callv (va_runV (As := [.int v7]) (rest := []) ⟨hx, hb, hml, hown, hts⟩ (Met.sV (m_X11_putNumber l dC dI hX aX kX hT hM fX_ready fX_sheet_6 dX_sheet_6 nX_sheet_6 iX_sheetLength_6 xX_reader xX_solver xX_prover xX_values xX_clauses xX_nets v7 b_fX_sheet_6 (by first | exact b_nX_sheet_6 | with_reducible assumption | exact ⟨by omega, by omega⟩ | assumption) (b_iX_sheetLength_6) (by first | with_reducible assumption | omega | (rw [iI_t (by omega) (by omega)]; omega) | (have h7 : (0 : Int32).toInt = 0 := (by decide); omega)) H.size) H) (cwV 1 hts gwsMX11_putVariable_1 rfl rfl rfl (by decide +kernel) ⟨by first | decide +kernel | (dsimp only [headSpec] <;> omega), by first | decide +kernel | (dsimp only [headSpec] <;> omega)⟩) ⟨fun a U g mk q => by obtain ⟨q0, qh, q1, qP, qK, qD⟩ := q; exact ⟨q0, qh, q1, qP, va_K.moved (u := U) (U := U.calling g mk a) (Vm.Alike.refl U.vm) qK, qD⟩, va_recv hK hP (ci := 11) (q0 := 0) rfl rfl, fun U hU9 hW => ⟨rfl, hU9, by rw [hU9], by rw [hU9]; exact hPc, va_K.moved hW.alike hKc, hDc.weaken (fun _ _ _ _ => trivial)⟩⟩ rfl rfl hl.1 rfl (lv_room (Nat.le_of_ble_eq_true rfl)) dX11_putVariable_48 ⟨by first | decide +kernel | (dsimp only [headSpec] <;> omega), by first | decide +kernel | (dsimp only [headSpec] <;> omega)⟩) hS (fun q _ h => hFc q h) hFc (fun u t9_ H locs ht hvm hw9 hB9 hz1 hk1 hS => ?_)
    revert u hw9 hB9
    refine fz_p4 ?_
    intro fX_sheet_8 dX_sheet_8 nX_sheet_8 iX_sheetLength_8 hw9 hB9
    try dsimp only at hw9 hB9
    revert hw9
    refine fz_a6 ?_
    intro b_fX_sheet_8 b_nX_sheet_8 b_iX_sheetLength_8 b_shl_8 f8_0 f8_1
    have hg1 := hB9.1.2.2.1
    rw [ht] at hg1
    have hg2 := hB9.1.2.2.2
    rw [ht] at hg2
    have hSz := hB9.2
    rw [ht] at hSz
    have p8 := cj_2_0 (WX hX aX kX hT hM fX_ready fX_sheet_8 dX_sheet_8 nX_sheet_8 iX_sheetLength_8 xX_reader xX_solver xX_prover xX_values xX_clauses xX_nets) (WM hM aM kM iM_stands iM_variables iM_rows iM_goals iM_differents iM_cases fM_from fM_to fM_whole fM_ways iM_plainRows fM_plainRow fM_kept fM_goalOver fM_goalUnder fM_goalMax fM_different)
    obtain ⟨hP, hD⟩ := frameG p9 p8 hP hD hk1 hFc (fz_P ht hB9.1.1) hB9.1.2.1
    have hz9 : H.size ≤ s.heap.size + (nX_sheet_8 / 32 - (nX_sheet / 32)) := by (try dsimp only at hg1); omega
    have hn9 : nS s.heap.size H ≤ (2 * nX_sheet_8 - (2 * nX_sheet)) := by rw [hSz.n hS0]; (try dsimp only at hg2); omega
    refine W.tight (cells2 := (nX_sheet_8 / 32 - (nX_sheet / 32))) (slots2 := (2 * nX_sheet_8 - (2 * nX_sheet))) hz9 hn9 ?_
    clear hz9 hn9 hz0 hn0 hS0 hSz hg1 hg2
    refine lv_aload_n hx hb dX11_putVariable_51 rfl (lv_at hl 0 rfl) ?_
    obtain ⟨qS290, hR290, hSS290⟩ := hE.2.2.2 3 _ rfl
    refine lv_ldcwS hx hb hown hR290 dX11_putVariable_52 ?_
    refine W.known (fun hz0 hn0 => ?_)
    have hS0 := hS.1
    have p9 := cj_2_0 (WX hX aX kX hT hM fX_ready fX_sheet_8 dX_sheet_8 nX_sheet_8 iX_sheetLength_8 xX_reader xX_solver xX_prover xX_values xX_clauses xX_nets) (WM hM aM kM iM_stands iM_variables iM_rows iM_goals iM_differents iM_cases fM_from fM_to fM_whole fM_ways iM_plainRows fM_plainRow fM_kept fM_goalOver fM_goalUnder fM_goalMax fM_different)
    have hPc := hP.mem (fun q h => p9.mem_iff.mpr (List.mem_append_left _ h))
    have hDc := (hD.perm p9).left
    have hKc : va_K (dC, dI) vwCl (tX kX) _ := hK.sub [0, 1] rfl
    have hFc := freeG p9 hD hS hA
    refine va_callv (va_runV (As := [.ref qS290]) (rest := []) ⟨hx, hb, hml, hown, hts⟩ (Met.sV (m_X11_putText l dC dI hX aX kX hT hM fX_ready fX_sheet_8 dX_sheet_8 nX_sheet_8 iX_sheetLength_8 xX_reader xX_solver xX_prover xX_values xX_clauses xX_nets qS290 4 (fun j => ([32, 116, 111, 32] : List Int32).getD j 0) b_fX_sheet_8 (by first | exact b_nX_sheet_8 | with_reducible assumption | exact ⟨by omega, by omega⟩ | assumption) (b_iX_sheetLength_8) (by first | with_reducible assumption | omega | (rw [iI_t (by omega) (by omega)]; omega) | (have h7 : (0 : Int32).toInt = 0 := (by decide); omega)) (by decide) H.size) H) (cwV 1 hts gwsMX11_putVariable_0 rfl rfl rfl (by decide +kernel) ⟨by first | decide +kernel | (dsimp only [headSpec] <;> omega), by first | decide +kernel | (dsimp only [headSpec] <;> omega)⟩) ⟨fun a U g mk q => by obtain ⟨q0, qh, q1, qP, qK, qD, qE⟩ := q; exact ⟨q0, qh, q1, qP, va_K.moved (u := U) (U := U.calling g mk a) (Vm.Alike.refl U.vm) qK, qD, qE.same rfl⟩, va_recv hK hP (ci := 11) (q0 := 0) rfl rfl, fun U hU9 hW => ⟨rfl, hU9, by rw [hU9], by rw [hU9]; exact hPc, va_K.moved hW.alike hKc, hDc.weaken (fun _ _ _ _ => trivial), by rw [hU9]; exact (((hSS290 : (StrE qS290 4 (fun j => ([32, 116, 111, 32] : List Int32).getD j 0)) A s s.heap).kept hS.2.1).narrow (fun q h => hFc q h)).warm hW⟩⟩ rfl rfl hl.1 rfl (lv_room (Nat.le_of_ble_eq_true rfl)) dX11_putVariable_55 ⟨by first | decide +kernel | (dsimp only [headSpec] <;> omega), by first | decide +kernel | (dsimp only [headSpec] <;> omega)⟩) hS (fun q _ h => hFc q h) hFc (fun u t9_ H locs ht hvm hw9 hB9 hz1 hk1 hS => ?_)
    revert u hw9 hB9
    refine fz_p4 ?_
    intro fX_sheet_9 dX_sheet_9 nX_sheet_9 iX_sheetLength_9 hw9 hB9
    try dsimp only at hw9 hB9
    revert hw9
    refine fz_a6 ?_
    intro b_fX_sheet_9 b_nX_sheet_9 b_iX_sheetLength_9 b_shl_9 f9_0 f9_1
    have hg1 := hB9.1.2.2.1
    rw [ht] at hg1
    have hg2 := hB9.1.2.2.2
    rw [ht] at hg2
    have hSz := hB9.2
    rw [ht] at hSz
    have p8 := cj_2_0 (WX hX aX kX hT hM fX_ready fX_sheet_9 dX_sheet_9 nX_sheet_9 iX_sheetLength_9 xX_reader xX_solver xX_prover xX_values xX_clauses xX_nets) (WM hM aM kM iM_stands iM_variables iM_rows iM_goals iM_differents iM_cases fM_from fM_to fM_whole fM_ways iM_plainRows fM_plainRow fM_kept fM_goalOver fM_goalUnder fM_goalMax fM_different)
    obtain ⟨hP, hD⟩ := frameG p9 p8 hP hD hk1 hFc (fz_P ht hB9.1.1) hB9.1.2.1
    have hz9 : H.size ≤ s.heap.size + (nX_sheet_9 / 32 - (nX_sheet / 32)) := by (try dsimp only at hg1); omega
    have hn9 : nS s.heap.size H ≤ (2 * nX_sheet_9 - (2 * nX_sheet)) := by rw [hSz.n hS0]; (try dsimp only at hg2); omega
    refine W.tight (cells2 := (nX_sheet_9 / 32 - (nX_sheet / 32))) (slots2 := (2 * nX_sheet_9 - (2 * nX_sheet))) hz9 hn9 ?_
    clear hz9 hn9 hz0 hn0 hS0 hSz hg1 hg2
    refine lv_aload_n hx hb dX11_putVariable_58 rfl (lv_at hl 0 rfl) ?_
    refine lv_aload_n hx hb dX11_putVariable_59 rfl (lv_at hl 0 rfl) ?_
    refine va_get (D := (dC, dI)) (ci := 11) (v := .ref (hM 0)) (C := RX11) (T := TX11) (N := 11) hx hb hts iwsMX11_putVariable_in11 hown hK hP 0 rfl rfl 2 (by decide) (hts _ hm_m_X11_putVariable_0) (fun _ h9 => h9) rfl dX11_putVariable_60 ?_
    refine va_get (D := (dC, dI)) (ci := 1) (v := .ref (aM 1)) (C := RX1) (T := TX1) (N := 17) hx hb hts iwsMX11_putVariable_in1 hown hK hP 3 rfl rfl 7 (by decide) (hts (.fieldLink RX11 99 "OptimaWorks$Model" "to" "[I") (by decide +kernel)) (fun _ h9 => h9) rfl dX11_putVariable_63 ?_
    refine lv_iload_n hx hb dX11_putVariable_66 rfl (lv_at hl 1 rfl) ?_
    refine va_iald (cA := kM 1) (n := 8) (f := fM_to) hx hb hK hP 5 3 rfl rfl (vp_in_iff.mpr ⟨b_p1.1, (Int.lt_of_le_of_lt (b_p1.2) (by decide))⟩) dX11_putVariable_67 ?_
    refine lv_topi (fun v10 hv10 => ?_)
    clear hv10
    refine W.known (fun hz0 hn0 => ?_)
    have hS0 := hS.1
    have p9 := cj_2_0 (WX hX aX kX hT hM fX_ready fX_sheet_9 dX_sheet_9 nX_sheet_9 iX_sheetLength_9 xX_reader xX_solver xX_prover xX_values xX_clauses xX_nets) (WM hM aM kM iM_stands iM_variables iM_rows iM_goals iM_differents iM_cases fM_from fM_to fM_whole fM_ways iM_plainRows fM_plainRow fM_kept fM_goalOver fM_goalUnder fM_goalMax fM_different)
    have hPc := hP.mem (fun q h => p9.mem_iff.mpr (List.mem_append_left _ h))
    have hDc := (hD.perm p9).left
    have hKc : va_K (dC, dI) vwCl (tX kX) _ := hK.sub [0, 1] rfl
    have hFc := freeG p9 hD hS hA
    refine va_callv (va_runV (As := [.int v10]) (rest := []) ⟨hx, hb, hml, hown, hts⟩ (Met.sV (m_X11_putNumber l dC dI hX aX kX hT hM fX_ready fX_sheet_9 dX_sheet_9 nX_sheet_9 iX_sheetLength_9 xX_reader xX_solver xX_prover xX_values xX_clauses xX_nets v10 b_fX_sheet_9 (by first | exact b_nX_sheet_9 | with_reducible assumption | exact ⟨by omega, by omega⟩ | assumption) (b_iX_sheetLength_9) (by first | with_reducible assumption | omega | (rw [iI_t (by omega) (by omega)]; omega) | (have h7 : (0 : Int32).toInt = 0 := (by decide); omega)) H.size) H) (cwV 1 hts gwsMX11_putVariable_1 rfl rfl rfl (by decide +kernel) ⟨by first | decide +kernel | (dsimp only [headSpec] <;> omega), by first | decide +kernel | (dsimp only [headSpec] <;> omega)⟩) ⟨fun a U g mk q => by obtain ⟨q0, qh, q1, qP, qK, qD⟩ := q; exact ⟨q0, qh, q1, qP, va_K.moved (u := U) (U := U.calling g mk a) (Vm.Alike.refl U.vm) qK, qD⟩, va_recv hK hP (ci := 11) (q0 := 0) rfl rfl, fun U hU9 hW => ⟨rfl, hU9, by rw [hU9], by rw [hU9]; exact hPc, va_K.moved hW.alike hKc, hDc.weaken (fun _ _ _ _ => trivial)⟩⟩ rfl rfl hl.1 rfl (lv_room (Nat.le_of_ble_eq_true rfl)) dX11_putVariable_68 ⟨by first | decide +kernel | (dsimp only [headSpec] <;> omega), by first | decide +kernel | (dsimp only [headSpec] <;> omega)⟩) hS (fun q _ h => hFc q h) hFc (fun u t9_ H locs ht hvm hw9 hB9 hz1 hk1 hS => ?_)
    revert u hw9 hB9
    refine fz_p4 ?_
    intro fX_sheet_11 dX_sheet_11 nX_sheet_11 iX_sheetLength_11 hw9 hB9
    try dsimp only at hw9 hB9
    revert hw9
    refine fz_a6 ?_
    intro b_fX_sheet_11 b_nX_sheet_11 b_iX_sheetLength_11 b_shl_11 f11_0 f11_1
    have hg1 := hB9.1.2.2.1
    rw [ht] at hg1
    have hg2 := hB9.1.2.2.2
    rw [ht] at hg2
    have hSz := hB9.2
    rw [ht] at hSz
    have p8 := cj_2_0 (WX hX aX kX hT hM fX_ready fX_sheet_11 dX_sheet_11 nX_sheet_11 iX_sheetLength_11 xX_reader xX_solver xX_prover xX_values xX_clauses xX_nets) (WM hM aM kM iM_stands iM_variables iM_rows iM_goals iM_differents iM_cases fM_from fM_to fM_whole fM_ways iM_plainRows fM_plainRow fM_kept fM_goalOver fM_goalUnder fM_goalMax fM_different)
    obtain ⟨hP, hD⟩ := frameG p9 p8 hP hD hk1 hFc (fz_P ht hB9.1.1) hB9.1.2.1
    have hz9 : H.size ≤ s.heap.size + (nX_sheet_11 / 32 - (nX_sheet / 32)) := by (try dsimp only at hg1); omega
    have hn9 : nS s.heap.size H ≤ (2 * nX_sheet_11 - (2 * nX_sheet)) := by rw [hSz.n hS0]; (try dsimp only at hg2); omega
    refine W.tight (cells2 := (nX_sheet_11 / 32 - (nX_sheet / 32))) (slots2 := (2 * nX_sheet_11 - (2 * nX_sheet))) hz9 hn9 ?_
    clear hz9 hn9 hz0 hn0 hS0 hSz hg1 hg2
    refine lv_aload_n hx hb dX11_putVariable_71 rfl (lv_at hl 0 rfl) ?_
    obtain ⟨qS292, hR292, hSS292⟩ := hE.2.2.2 4 _ rfl
    refine lv_ldcwS hx hb hown hR292 dX11_putVariable_72 ?_
    refine W.known (fun hz0 hn0 => ?_)
    have hS0 := hS.1
    have p9 := cj_2_0 (WX hX aX kX hT hM fX_ready fX_sheet_11 dX_sheet_11 nX_sheet_11 iX_sheetLength_11 xX_reader xX_solver xX_prover xX_values xX_clauses xX_nets) (WM hM aM kM iM_stands iM_variables iM_rows iM_goals iM_differents iM_cases fM_from fM_to fM_whole fM_ways iM_plainRows fM_plainRow fM_kept fM_goalOver fM_goalUnder fM_goalMax fM_different)
    have hPc := hP.mem (fun q h => p9.mem_iff.mpr (List.mem_append_left _ h))
    have hDc := (hD.perm p9).left
    have hKc : va_K (dC, dI) vwCl (tX kX) _ := hK.sub [0, 1] rfl
    have hFc := freeG p9 hD hS hA
    refine va_callv (va_runV (As := [.ref qS292]) (rest := []) ⟨hx, hb, hml, hown, hts⟩ (Met.sV (m_X11_putText l dC dI hX aX kX hT hM fX_ready fX_sheet_11 dX_sheet_11 nX_sheet_11 iX_sheetLength_11 xX_reader xX_solver xX_prover xX_values xX_clauses xX_nets qS292 3 (fun j => ([32, 59, 10] : List Int32).getD j 0) b_fX_sheet_11 (by first | exact b_nX_sheet_11 | with_reducible assumption | exact ⟨by omega, by omega⟩ | assumption) (b_iX_sheetLength_11) (by first | with_reducible assumption | omega | (rw [iI_t (by omega) (by omega)]; omega) | (have h7 : (0 : Int32).toInt = 0 := (by decide); omega)) (by decide) H.size) H) (cwV 1 hts gwsMX11_putVariable_0 rfl rfl rfl (by decide +kernel) ⟨by first | decide +kernel | (dsimp only [headSpec] <;> omega), by first | decide +kernel | (dsimp only [headSpec] <;> omega)⟩) ⟨fun a U g mk q => by obtain ⟨q0, qh, q1, qP, qK, qD, qE⟩ := q; exact ⟨q0, qh, q1, qP, va_K.moved (u := U) (U := U.calling g mk a) (Vm.Alike.refl U.vm) qK, qD, qE.same rfl⟩, va_recv hK hP (ci := 11) (q0 := 0) rfl rfl, fun U hU9 hW => ⟨rfl, hU9, by rw [hU9], by rw [hU9]; exact hPc, va_K.moved hW.alike hKc, hDc.weaken (fun _ _ _ _ => trivial), by rw [hU9]; exact (((hSS292 : (StrE qS292 3 (fun j => ([32, 59, 10] : List Int32).getD j 0)) A s s.heap).kept hS.2.1).narrow (fun q h => hFc q h)).warm hW⟩⟩ rfl rfl hl.1 rfl (lv_room (Nat.le_of_ble_eq_true rfl)) dX11_putVariable_75 ⟨by first | decide +kernel | (dsimp only [headSpec] <;> omega), by first | decide +kernel | (dsimp only [headSpec] <;> omega)⟩) hS (fun q _ h => hFc q h) hFc (fun u t9_ H locs ht hvm hw9 hB9 hz1 hk1 hS => ?_)
    revert u hw9 hB9
    refine fz_p4 ?_
    intro fX_sheet_12 dX_sheet_12 nX_sheet_12 iX_sheetLength_12 hw9 hB9
    try dsimp only at hw9 hB9
    revert hw9
    refine fz_a6 ?_
    intro b_fX_sheet_12 b_nX_sheet_12 b_iX_sheetLength_12 b_shl_12 f12_0 f12_1
    have hg1 := hB9.1.2.2.1
    rw [ht] at hg1
    have hg2 := hB9.1.2.2.2
    rw [ht] at hg2
    have hSz := hB9.2
    rw [ht] at hSz
    have p8 := cj_2_0 (WX hX aX kX hT hM fX_ready fX_sheet_12 dX_sheet_12 nX_sheet_12 iX_sheetLength_12 xX_reader xX_solver xX_prover xX_values xX_clauses xX_nets) (WM hM aM kM iM_stands iM_variables iM_rows iM_goals iM_differents iM_cases fM_from fM_to fM_whole fM_ways iM_plainRows fM_plainRow fM_kept fM_goalOver fM_goalUnder fM_goalMax fM_different)
    obtain ⟨hP, hD⟩ := frameG p9 p8 hP hD hk1 hFc (fz_P ht hB9.1.1) hB9.1.2.1
    have hz9 : H.size ≤ s.heap.size + (nX_sheet_12 / 32 - (nX_sheet / 32)) := by (try dsimp only at hg1); omega
    have hn9 : nS s.heap.size H ≤ (2 * nX_sheet_12 - (2 * nX_sheet)) := by rw [hSz.n hS0]; (try dsimp only at hg2); omega
    refine W.tight (cells2 := (nX_sheet_12 / 32 - (nX_sheet / 32))) (slots2 := (2 * nX_sheet_12 - (2 * nX_sheet))) hz9 hn9 ?_
    clear hz9 hn9 hz0 hn0 hS0 hSz hg1 hg2
    refine W.known (fun hz9 hn9 => ?_)
    refine W.widen (k := 5626) (n := 420000) (by omega) (by omega) ?_
    exact W.vret hx hb hr (fun t9_ ht hW => ⟨⟨(fX_sheet_12, dX_sheet_12, nX_sheet_12, iX_sheetLength_12), rfl, ⟨b_fX_sheet_12, (by (try dsimp only); exact (by first | exact b_nX_sheet_12 | with_reducible assumption | exact ⟨by omega, by omega⟩ | assumption)), b_iX_sheetLength_12, (by (try dsimp only); exact (by first | with_reducible assumption | omega | (rw [iI_t (by omega) (by omega)]; omega) | (have h7 : (0 : Int32).toInt = 0 := (by decide); omega))), (by (try dsimp only); omega), (by (try dsimp only); first | omega | (rw [iI_t (by omega) (by omega)]; omega))⟩, by rw [ht]; exact hP, hD, by rw [ht]; (try dsimp only); omega, by rw [ht]; (try dsimp only); omega⟩, hS.F ht⟩) hS.2.2 dX11_putVariable_78
theorem dX11_putDifferent_0 : decode cX11_putDifferent 0 = .ok (.aload_n 0, 1) := dk_42 (by decide +kernel)
theorem dX11_putDifferent_1 : decode cX11_putDifferent 1 = .ok (.ldc_w 326, 3) := dk_19 (by decide +kernel)
theorem dX11_putDifferent_4 : decode cX11_putDifferent 4 = .ok (.invokevirtual 279, 3) := dk_182 (by decide +kernel)
theorem dX11_putDifferent_7 : decode cX11_putDifferent 7 = .ok (.iconst 1, 1) := dk_4 (by decide +kernel)
theorem dX11_putDifferent_8 : decode cX11_putDifferent 8 = .ok (.istore_n 2, 1) := dk_61 (by decide +kernel)
theorem dX11_putDifferent_9 : decode cX11_putDifferent 9 = .ok (.iconst 0, 1) := dk_3 (by decide +kernel)
theorem dX11_putDifferent_10 : decode cX11_putDifferent 10 = .ok (.istore_n 3, 1) := dk_62 (by decide +kernel)
theorem dX11_putDifferent_11 : decode cX11_putDifferent 11 = .ok (.iload_n 3, 1) := dk_29 (by decide +kernel)
theorem dX11_putDifferent_12 : decode cX11_putDifferent 12 = .ok (.bipush 8, 2) := dk_16 (by decide +kernel)
theorem dX11_putDifferent_14 : decode cX11_putDifferent 14 = .ok (.if_icmp .ge 41, 3) := dk_162 (by decide +kernel)
theorem dX11_putDifferent_17 : decode cX11_putDifferent 17 = .ok (.iload_n 1, 1) := dk_27 (by decide +kernel)
theorem dX11_putDifferent_18 : decode cX11_putDifferent 18 = .ok (.iload_n 3, 1) := dk_29 (by decide +kernel)
theorem dX11_putDifferent_19 : decode cX11_putDifferent 19 = .ok (.ishr, 1) := dk_122 (by decide +kernel)
theorem dX11_putDifferent_20 : decode cX11_putDifferent 20 = .ok (.iconst 1, 1) := dk_4 (by decide +kernel)
theorem dX11_putDifferent_21 : decode cX11_putDifferent 21 = .ok (.iand, 1) := dk_126 (by decide +kernel)
theorem dX11_putDifferent_22 : decode cX11_putDifferent 22 = .ok (.ifCond .eq 27, 3) := dk_153 (by decide +kernel)
theorem dX11_putDifferent_25 : decode cX11_putDifferent 25 = .ok (.aload_n 0, 1) := dk_42 (by decide +kernel)
theorem dX11_putDifferent_26 : decode cX11_putDifferent 26 = .ok (.iload_n 2, 1) := dk_28 (by decide +kernel)
theorem dX11_putDifferent_27 : decode cX11_putDifferent 27 = .ok (.ifCond .eq 9, 3) := dk_153 (by decide +kernel)
theorem dX11_putDifferent_30 : decode cX11_putDifferent 30 = .ok (.ldc_w 324, 3) := dk_19 (by decide +kernel)
theorem dX11_putDifferent_33 : decode cX11_putDifferent 33 = .ok (.goto 6, 3) := dk_167 (by decide +kernel)
theorem dX11_putDifferent_36 : decode cX11_putDifferent 36 = .ok (.ldc_w 327, 3) := dk_19 (by decide +kernel)
theorem dX11_putDifferent_39 : decode cX11_putDifferent 39 = .ok (.invokevirtual 279, 3) := dk_182 (by decide +kernel)
theorem dX11_putDifferent_42 : decode cX11_putDifferent 42 = .ok (.aload_n 0, 1) := dk_42 (by decide +kernel)
theorem dX11_putDifferent_43 : decode cX11_putDifferent 43 = .ok (.iload_n 3, 1) := dk_29 (by decide +kernel)
theorem dX11_putDifferent_44 : decode cX11_putDifferent 44 = .ok (.invokevirtual 283, 3) := dk_182 (by decide +kernel)
theorem dX11_putDifferent_47 : decode cX11_putDifferent 47 = .ok (.iconst 0, 1) := dk_3 (by decide +kernel)
theorem dX11_putDifferent_48 : decode cX11_putDifferent 48 = .ok (.istore_n 2, 1) := dk_61 (by decide +kernel)
theorem dX11_putDifferent_49 : decode cX11_putDifferent 49 = .ok (.iinc 3 1, 3) := dk_132 (by decide +kernel)
theorem dX11_putDifferent_52 : decode cX11_putDifferent 52 = .ok (.goto (-41), 3) := dk_167 (by decide +kernel)
theorem dX11_putDifferent_55 : decode cX11_putDifferent 55 = .ok (.aload_n 0, 1) := dk_42 (by decide +kernel)
theorem dX11_putDifferent_56 : decode cX11_putDifferent 56 = .ok (.ldc_w 292, 3) := dk_19 (by decide +kernel)
theorem dX11_putDifferent_59 : decode cX11_putDifferent 59 = .ok (.invokevirtual 279, 3) := dk_182 (by decide +kernel)
theorem dX11_putDifferent_62 : decode cX11_putDifferent 62 = .ok (.return_, 1) := dk_177 (by decide +kernel)
def wsMX11_putDifferent : List Cond := .code yX11_putDifferent cX11_putDifferent 4 none :: ([] ++ (wsV RX11 279 RX11 yX11_putText wsMX11_putText) ++ (wsV RX11 283 RX11 yX11_putNumber wsMX11_putNumber))
theorem gwsMX11_putDifferent_0 : GoodIn wsMX11_putDifferent (wsV RX11 279 RX11 yX11_putText wsMX11_putText) := goodIn_sub (fun _ h => List.mem_cons_of_mem _ (List.mem_append_left _ (List.mem_append_right _ h))) (gdV (by decide +kernel) gdwsMX11_putText)
theorem gwsMX11_putDifferent_1 : GoodIn wsMX11_putDifferent (wsV RX11 283 RX11 yX11_putNumber wsMX11_putNumber) := goodIn_sub (fun _ h => List.mem_cons_of_mem _ (List.mem_append_right _ h)) (gdV (by decide +kernel) gdwsMX11_putNumber)
theorem gdwsMX11_putDifferent : wsMX11_putDifferent.all goodWord = true := gdC rfl (gdA (gdA (by decide +kernel : ([] : List Cond).all goodWord = true) (gdV (by decide +kernel) gdwsMX11_putText)) (gdV (by decide +kernel) gdwsMX11_putNumber))
set_option maxHeartbeats 4000000 in
set_option maxRecDepth 100000 in
/-- a different more -/
theorem m_X11_putDifferent (l : Launch) (hst : l.stackTraces = false) (dC : Nat → ClassId) (dI : Nat → Nat → Nat) (hX : Nat → Nat) (aX : Nat → Nat) (kX : Nat → ClassId) (hT : Nat → Nat) (hM : Nat → Nat) (fX_ready : Nat → Int32) (fX_sheet : Nat → Int32) (dX_sheet : Nat) (nX_sheet : Nat) (iX_sheetLength : Int32) (xX_reader : Value) (xX_solver : Value) (xX_prover : Value) (xX_values : Value) (xX_clauses : Value) (xX_nets : Value) (p1 : Int32) (b_fX_sheet : ∀ q : Nat, (-128) ≤ (fX_sheet q).toInt ∧ (fX_sheet q).toInt ≤ 127) (b_nX_sheet : 64 ≤ nX_sheet ∧ nX_sheet ≤ 60000) (b_iX_sheetLength : 0 ≤ iX_sheetLength.toInt ∧ iX_sheetLength.toInt ≤ 30000) (b_shl : iX_sheetLength.toInt ≤ ((nX_sheet : Nat) : Int)) (sz : Nat) : Met l yX11_putDifferent wsMX11_putDifferent ({ frames := 5, cells := 5626, slots := 420000, locals := 107 }) (va_Pc [.ref (hX 0), .int p1] (fun U => U.heap.size = sz ∧ va_P (dC, dI) vwCl (WX hX aX kX hT hM fX_ready fX_sheet dX_sheet nX_sheet iX_sheetLength xX_reader xX_solver xX_prover xX_values xX_clauses xX_nets) U.heap ∧ va_K (dC, dI) vwCl (tX kX) U ∧ va_D (fun _ => True) (WX hX aX kX hT hM fX_ready fX_sheet dX_sheet nX_sheet iX_sheetLength xX_reader xX_solver xX_prover xX_values xX_clauses xX_nets) ∧ CE (va_A (WX hX aX kX hT hM fX_ready fX_sheet dX_sheet nX_sheet iX_sheetLength xX_reader xX_solver xX_prover xX_values xX_clauses xX_nets) sz) U U.heap)) (va_Qv (fun (u : (Nat → Int32) × (Nat) × (Nat) × (Int32)) => (∀ q : Nat, (-128) ≤ ((u.1) q).toInt ∧ ((u.1) q).toInt ≤ 127) ∧ (64 ≤ (u.2.2.1) ∧ (u.2.2.1) ≤ 60000) ∧ (0 ≤ (u.2.2.2).toInt ∧ (u.2.2.2).toInt ≤ 30000) ∧ ((u.2.2.2).toInt ≤ (((u.2.2.1) : Nat) : Int)) ∧ (nX_sheet ≤ (u.2.2.1)) ∧ (iX_sheetLength.toInt ≤ (u.2.2.2).toInt)) (fun (u : (Nat → Int32) × (Nat) × (Nat) × (Int32)) t => va_P (dC, dI) vwCl (WX hX aX kX hT hM fX_ready (u.1) (u.2.1) (u.2.2.1) (u.2.2.2) xX_reader xX_solver xX_prover xX_values xX_clauses xX_nets) t.heap ∧ va_D (va_A (WX hX aX kX hT hM fX_ready fX_sheet dX_sheet nX_sheet iX_sheetLength xX_reader xX_solver xX_prover xX_values xX_clauses xX_nets) sz) (WX hX aX kX hT hM fX_ready (u.1) (u.2.1) (u.2.2.1) (u.2.2.2) xX_reader xX_solver xX_prover xX_values xX_clauses xX_nets) ∧ t.heap.size + (nX_sheet / 32) ≤ sz + ((u.2.2.1) / 32) ∧ nS sz t.heap + (2 * nX_sheet) ≤ (2 * (u.2.2.1))) (va_A (WX hX aX kX hT hM fX_ready fX_sheet dX_sheet nX_sheet iX_sheetLength xX_reader xX_solver xX_prover xX_values xX_clauses xX_nets) sz)) 5626 420000 (va_A (WX hX aX kX hT hM fX_ready fX_sheet dX_sheet nX_sheet iX_sheetLength xX_reader xX_solver xX_prover xX_values xX_clauses xX_nets) sz) := by
  refine Met.ofW (cc := cX11_putDifferent) (maxL := 4) (ret := none) (by decide) rfl ?_
  intro p e s m args below meth c s₁ B hml hv
  obtain ⟨rfl, hsz, hP, hK, hD0, hE⟩ := hv
  have hx := B.exec
  have hb := B.bytes
  have hr := B.returns
  have hts := atoms_spec (ws := wsMX11_putDifferent) B.pre
  have hown : s.vm.findClass RX11 = some m.cls := findClass_of_methodNamed B.named
  have hlocks := B.notSynchronized
  subst hsz
  have hD := hD0.self (sz := s.heap.size)
  generalize hAe : va_A (WX hX aX kX hT hM fX_ready fX_sheet dX_sheet nX_sheet iX_sheetLength xX_reader xX_solver xX_prover xX_values xX_clauses xX_nets) s.heap.size = A at hD hE ⊢
  have hA : ∀ q : Nat, s.heap.size ≤ q → A q := fun q h => by rw [← hAe]; exact Or.inr h
  have hS : va_S A s.heap s.heap [] := va_S.rf
  have hl := lv_entry ([.ref (hX 0), .int p1]) (n := 4) (Nat.le_of_ble_eq_true rfl)
  rw [lg_entry_eq]
  generalize (lg_sl ([.ref (hX 0), .int p1]) ++ List.replicate (4 - (lg_sl ([.ref (hX 0), .int p1])).length) Slot.unset).toArray = ls at hl ⊢
  have hl : lv_has ls 4 [(0, .ref (hX 0)), (1, .int p1)] := hl
  refine W.widen (k := (nX_sheet / 32 - (nX_sheet / 32))) (n := (2 * nX_sheet - (2 * nX_sheet))) (Nat.zero_le _) (Nat.zero_le _) ?_
  refine lv_aload_n hx hb dX11_putDifferent_0 rfl (lv_at hl 0 rfl) ?_
  obtain ⟨qS326, hR326, hSS326⟩ := hE.2.2.2 16 _ rfl
  refine lv_ldcwS hx hb hown hR326 dX11_putDifferent_1 ?_
  refine W.known (fun hz0 hn0 => ?_)
  have hS0 := hS.1
  have hFc := allFree hD hS hA
  refine va_callv (va_runV (As := [.ref qS326]) (rest := []) ⟨hx, hb, hml, hown, hts⟩ (Met.sV (m_X11_putText l dC dI hX aX kX hT hM fX_ready fX_sheet dX_sheet nX_sheet iX_sheetLength xX_reader xX_solver xX_prover xX_values xX_clauses xX_nets qS326 9 (fun j => ([100, 105, 102, 102, 101, 114, 101, 110, 116] : List Int32).getD j 0) b_fX_sheet (by first | exact b_nX_sheet | with_reducible assumption | exact ⟨by omega, by omega⟩ | assumption) (b_iX_sheetLength) (by first | with_reducible assumption | omega | (rw [iI_t (by omega) (by omega)]; omega) | (have h7 : (0 : Int32).toInt = 0 := (by decide); omega)) (by decide) s.heap.size) s.heap) (cwV 1 hts gwsMX11_putDifferent_0 rfl rfl rfl (by decide +kernel) ⟨by first | decide +kernel | (dsimp only [headSpec] <;> omega), by first | decide +kernel | (dsimp only [headSpec] <;> omega)⟩) ⟨fun a U g mk q => by obtain ⟨q0, qh, q1, qP, qK, qD, qE⟩ := q; exact ⟨q0, qh, q1, qP, va_K.moved (u := U) (U := U.calling g mk a) (Vm.Alike.refl U.vm) qK, qD, qE.same rfl⟩, va_recv hK hP (ci := 11) (q0 := 0) rfl rfl, fun U hU9 hW => ⟨rfl, hU9, by rw [hU9], by rw [hU9]; exact hP, va_K.moved hW.alike hK, hD.weaken (fun _ _ _ _ => trivial), by rw [hU9]; exact (((hSS326 : (StrE qS326 9 (fun j => ([100, 105, 102, 102, 101, 114, 101, 110, 116] : List Int32).getD j 0)) A s s.heap).kept hS.2.1).narrow (fun q h => hFc q h)).warm hW⟩⟩ rfl rfl hl.1 rfl (lv_room (Nat.le_of_ble_eq_true rfl)) dX11_putDifferent_4 ⟨by first | decide +kernel | (dsimp only [headSpec] <;> omega), by first | decide +kernel | (dsimp only [headSpec] <;> omega)⟩) hS (fun q _ h => hFc q h) hFc (fun u t9_ H locs ht hvm hw9 hB9 hz1 hk1 hS => ?_)
  revert u hw9 hB9
  refine fz_p4 ?_
  intro fX_sheet_1 dX_sheet_1 nX_sheet_1 iX_sheetLength_1 hw9 hB9
  try dsimp only at hw9 hB9
  revert hw9
  refine fz_a6 ?_
  intro b_fX_sheet_1 b_nX_sheet_1 b_iX_sheetLength_1 b_shl_1 f1_0 f1_1
  have hg1 := hB9.1.2.2.1
  rw [ht] at hg1
  have hg2 := hB9.1.2.2.2
  rw [ht] at hg2
  have hSz := hB9.2
  rw [ht] at hSz
  have hP : va_P (dC, dI) vwCl (WX hX aX kX hT hM fX_ready fX_sheet_1 dX_sheet_1 nX_sheet_1 iX_sheetLength_1 xX_reader xX_solver xX_prover xX_values xX_clauses xX_nets) H := fz_P ht hB9.1.1
  have hD := fz_sd hP (hB9.1.2.1.weaken (fun _ q _ h => hFc q.1 h)) rfl
  have hz9 : H.size ≤ s.heap.size + (nX_sheet_1 / 32 - (nX_sheet / 32)) := by (try dsimp only at hg1); omega
  have hn9 : nS s.heap.size H ≤ (2 * nX_sheet_1 - (2 * nX_sheet)) := by rw [hSz.n hS0]; (try dsimp only at hg2); omega
  refine W.tight (cells2 := (nX_sheet_1 / 32 - (nX_sheet / 32))) (slots2 := (2 * nX_sheet_1 - (2 * nX_sheet))) hz9 hn9 ?_
  clear hz9 hn9 hz0 hn0 hS0 hSz hg1 hg2
  refine lv_iconst (v := 1) hx hb dX11_putDifferent_7 (by decide) ?_
  refine lv_istore_n hx hb dX11_putDifferent_8 rfl hl (by decide) rfl (fun ls (hl : lv_has ls _ ([(2, .int 1), (0, .ref (hX 0)), (1, .int p1)])) => ?_)
  refine lv_iconst (v := 0) hx hb dX11_putDifferent_9 (by decide) ?_
  refine lv_istore_n hx hb dX11_putDifferent_10 rfl hl (by decide) rfl (fun ls (hl : lv_has ls _ ([(3, .int 0), (2, .int 1), (0, .ref (hX 0)), (1, .int p1)])) => ?_)
  have hl : lv_has _ _ ([(3, .int 0), (2, .int 1), (0, .ref (hX 0)), (1, .int p1)]) := lv_sub hl [0, 1, 2, 3] rfl
  refine (fun (loop : ∀ (n9 : Nat) (fX_sheet_x11 : Nat → Int32) (dX_sheet_x11 : Nat) (nX_sheet_x11 : Nat) (iX_sheetLength_x11 : Int32) (l3_x11 : Int32) (l2_x11 : Int32) (H : Heap) (locs : List Loc) (ls : Array Slot), (∀ q : Nat, (-128) ≤ (fX_sheet_x11 q).toInt ∧ (fX_sheet_x11 q).toInt ≤ 127) → (64 ≤ nX_sheet_x11 ∧ nX_sheet_x11 ≤ 60000) → (0 ≤ iX_sheetLength_x11.toInt ∧ iX_sheetLength_x11.toInt ≤ 30000) → (0 ≤ l3_x11.toInt ∧ l3_x11.toInt ≤ 8) → (0 ≤ l2_x11.toInt ∧ l2_x11.toInt ≤ 1) → (iX_sheetLength_x11.toInt ≤ ((nX_sheet_x11 : Nat) : Int)) → (iX_sheetLength.toInt ≤ iX_sheetLength_x11.toInt) → (nX_sheet ≤ nX_sheet_x11) → (8 - l3_x11.toInt < ((n9 : Nat) : Int)) → va_P (dC, dI) vwCl (WX hX aX kX hT hM fX_ready fX_sheet_x11 dX_sheet_x11 nX_sheet_x11 iX_sheetLength_x11 xX_reader xX_solver xX_prover xX_values xX_clauses xX_nets) H → va_D A (WX hX aX kX hT hM fX_ready fX_sheet_x11 dX_sheet_x11 nX_sheet_x11 iX_sheetLength_x11 xX_reader xX_solver xX_prover xX_values xX_clauses xX_nets) → va_S A s.heap H locs → lv_has ls 4 [(3, .int l3_x11), (2, .int l2_x11), (0, .ref (hX 0)), (1, .int p1)] → W p l e _ s m _ below meth c H locs (nX_sheet_x11 / 32 - (nX_sheet / 32)) (2 * nX_sheet_x11 - (2 * nX_sheet)) _ (F0 m 11 ls [])) => loop (9) fX_sheet_1 dX_sheet_1 nX_sheet_1 iX_sheetLength_1 0 1 _ _ _ b_fX_sheet_1 (by first | exact b_nX_sheet_1 | with_reducible assumption | exact ⟨by omega, by omega⟩ | assumption) (b_iX_sheetLength_1) (show 0 ≤ (0 : Int32).toInt ∧ (0 : Int32).toInt ≤ 8 from by decide) (show 0 ≤ (1 : Int32).toInt ∧ (1 : Int32).toInt ≤ 1 from by decide) (by first | with_reducible assumption | omega | (rw [iI_t (by omega) (by omega)]; omega) | (have h7 : (0 : Int32).toInt = 0 := (by decide); omega)) (show iX_sheetLength.toInt ≤ iX_sheetLength_1.toInt from by omega) (show nX_sheet ≤ nX_sheet_1 from by omega) ((by have e9 : (0 : Int32).toInt = 0 := (by decide : (0 : Int32).toInt = 0); omega)) hP hD hS hl) ?_
  intro n9
  induction n9 with
  | zero => intro fX_sheet_x11 dX_sheet_x11 nX_sheet_x11 iX_sheetLength_x11 l3_x11 l2_x11 H locs ls b_fX_sheet_x11 b_nX_sheet_x11 b_iX_sheetLength_x11 b_l3_x11 b_l2_x11 b_shl_x11 hlx hgm0_x11 hf9; exact False.elim (by omega)
  | succ n9 ihx11 =>
    intro fX_sheet_x11 dX_sheet_x11 nX_sheet_x11 iX_sheetLength_x11 l3_x11 l2_x11 H locs ls b_fX_sheet_x11 b_nX_sheet_x11 b_iX_sheetLength_x11 b_l3_x11 b_l2_x11 b_shl_x11 hlx hgm0_x11 hfx11 hP hD hS hl
    refine lv_iload_n hx hb dX11_putDifferent_11 rfl (lv_at hl 0 rfl) ?_
    refine lv_bipush (v := 8) hx hb dX11_putDifferent_12 (by decide) ?_
    refine lv_icmp_ge (tgt := 55) hx hb dX11_putDifferent_14 (by decide) (fun c_14 => ?_) (fun c_14 => ?_)
    · have t_14 : l3_x11.toInt ≥ 8 := toI_ge c_14 rfl (by decide : (8 : Int32).toInt = 8)
      refine lv_aload_n hx hb dX11_putDifferent_55 rfl (lv_at hl 2 rfl) ?_
      obtain ⟨qS292, hR292, hSS292⟩ := hE.2.2.2 4 _ rfl
      refine lv_ldcwS hx hb hown hR292 dX11_putDifferent_56 ?_
      refine W.known (fun hz0 hn0 => ?_)
      have hS0 := hS.1
      have hFc := allFree hD hS hA
      refine va_callv (va_runV (As := [.ref qS292]) (rest := []) ⟨hx, hb, hml, hown, hts⟩ (Met.sV (m_X11_putText l dC dI hX aX kX hT hM fX_ready fX_sheet_x11 dX_sheet_x11 nX_sheet_x11 iX_sheetLength_x11 xX_reader xX_solver xX_prover xX_values xX_clauses xX_nets qS292 3 (fun j => ([32, 59, 10] : List Int32).getD j 0) b_fX_sheet_x11 (by first | exact b_nX_sheet_x11 | with_reducible assumption | exact ⟨by omega, by omega⟩ | assumption) (b_iX_sheetLength_x11) (by first | with_reducible assumption | omega | (rw [iI_t (by omega) (by omega)]; omega) | (have h7 : (0 : Int32).toInt = 0 := (by decide); omega)) (by decide) H.size) H) (cwV 1 hts gwsMX11_putDifferent_0 rfl rfl rfl (by decide +kernel) ⟨by first | decide +kernel | (dsimp only [headSpec] <;> omega), by first | decide +kernel | (dsimp only [headSpec] <;> omega)⟩) ⟨fun a U g mk q => by obtain ⟨q0, qh, q1, qP, qK, qD, qE⟩ := q; exact ⟨q0, qh, q1, qP, va_K.moved (u := U) (U := U.calling g mk a) (Vm.Alike.refl U.vm) qK, qD, qE.same rfl⟩, va_recv hK hP (ci := 11) (q0 := 0) rfl rfl, fun U hU9 hW => ⟨rfl, hU9, by rw [hU9], by rw [hU9]; exact hP, va_K.moved hW.alike hK, hD.weaken (fun _ _ _ _ => trivial), by rw [hU9]; exact (((hSS292 : (StrE qS292 3 (fun j => ([32, 59, 10] : List Int32).getD j 0)) A s s.heap).kept hS.2.1).narrow (fun q h => hFc q h)).warm hW⟩⟩ rfl rfl hl.1 rfl (lv_room (Nat.le_of_ble_eq_true rfl)) dX11_putDifferent_59 ⟨by first | decide +kernel | (dsimp only [headSpec] <;> omega), by first | decide +kernel | (dsimp only [headSpec] <;> omega)⟩) hS (fun q _ h => hFc q h) hFc (fun u t9_ H locs ht hvm hw9 hB9 hz1 hk1 hS => ?_)
      revert u hw9 hB9
      refine fz_p4 ?_
      intro fX_sheet_39 dX_sheet_39 nX_sheet_39 iX_sheetLength_39 hw9 hB9
      try dsimp only at hw9 hB9
      revert hw9
      refine fz_a6 ?_
      intro b_fX_sheet_39 b_nX_sheet_39 b_iX_sheetLength_39 b_shl_39 f39_0 f39_1
      have hg1 := hB9.1.2.2.1
      rw [ht] at hg1
      have hg2 := hB9.1.2.2.2
      rw [ht] at hg2
      have hSz := hB9.2
      rw [ht] at hSz
      have hP : va_P (dC, dI) vwCl (WX hX aX kX hT hM fX_ready fX_sheet_39 dX_sheet_39 nX_sheet_39 iX_sheetLength_39 xX_reader xX_solver xX_prover xX_values xX_clauses xX_nets) H := fz_P ht hB9.1.1
      have hD := fz_sd hP (hB9.1.2.1.weaken (fun _ q _ h => hFc q.1 h)) rfl
      have hz9 : H.size ≤ s.heap.size + (nX_sheet_39 / 32 - (nX_sheet / 32)) := by (try dsimp only at hg1); omega
      have hn9 : nS s.heap.size H ≤ (2 * nX_sheet_39 - (2 * nX_sheet)) := by rw [hSz.n hS0]; (try dsimp only at hg2); omega
      refine W.tight (cells2 := (nX_sheet_39 / 32 - (nX_sheet / 32))) (slots2 := (2 * nX_sheet_39 - (2 * nX_sheet))) hz9 hn9 ?_
      clear hz9 hn9 hz0 hn0 hS0 hSz hg1 hg2
      refine W.known (fun hz9 hn9 => ?_)
      refine W.widen (k := 5626) (n := 420000) (by omega) (by omega) ?_
      exact W.vret hx hb hr (fun t9_ ht hW => ⟨⟨(fX_sheet_39, dX_sheet_39, nX_sheet_39, iX_sheetLength_39), rfl, ⟨b_fX_sheet_39, (by (try dsimp only); exact (by first | exact b_nX_sheet_39 | with_reducible assumption | exact ⟨by omega, by omega⟩ | assumption)), b_iX_sheetLength_39, (by (try dsimp only); exact (by first | with_reducible assumption | omega | (rw [iI_t (by omega) (by omega)]; omega) | (have h7 : (0 : Int32).toInt = 0 := (by decide); omega))), (by (try dsimp only); omega), (by (try dsimp only); first | omega | (rw [iI_t (by omega) (by omega)]; omega))⟩, by rw [ht]; exact hP, hD, by rw [ht]; (try dsimp only); omega, by rw [ht]; (try dsimp only); omega⟩, hS.F ht⟩) hS.2.2 dX11_putDifferent_62
    · have t_14 : ¬ l3_x11.toInt ≥ 8 := toI_nge c_14 rfl (by decide : (8 : Int32).toInt = 8)
      refine lv_iload_n hx hb dX11_putDifferent_17 rfl (lv_at hl 3 rfl) ?_
      refine lv_iload_n hx hb dX11_putDifferent_18 rfl (lv_at hl 0 rfl) ?_
      refine lv_ishr hx hb dX11_putDifferent_19 ?_
      refine lv_topi (fun v40 hv40 => ?_)
      clear hv40
      refine lv_iconst (v := 1) hx hb dX11_putDifferent_20 (by decide) ?_
      refine lv_iand hx hb dX11_putDifferent_21 ?_
      refine lv_topi (fun v41 hv41 => ?_)
      have b_v41 : 0 ≤ v41.toInt ∧ v41.toInt ≤ 1 := by rw [hv41]; exact and_rng _ (by decide) (by decide)
      clear hv41
      refine W.known (fun hzk hnk => ?_)
      refine W.widen (k := 1875) (n := 120000) (by omega) (by omega) ?_
      refine W.cut (pc := 49) (fun H locs ls stk => ∃ (fX_sheet_j10 : Nat → Int32) (dX_sheet_j10 : Nat) (nX_sheet_j10 : Nat) (iX_sheetLength_j10 : Int32) (l2_j10 : Int32), (∀ q : Nat, (-128) ≤ (fX_sheet_j10 q).toInt ∧ (fX_sheet_j10 q).toInt ≤ 127) ∧ (64 ≤ nX_sheet_j10 ∧ nX_sheet_j10 ≤ 60000) ∧ (0 ≤ iX_sheetLength_j10.toInt ∧ iX_sheetLength_j10.toInt ≤ 30000) ∧ (0 ≤ l2_j10.toInt ∧ l2_j10.toInt ≤ 1) ∧ (iX_sheetLength_j10.toInt ≤ ((nX_sheet_j10 : Nat) : Int)) ∧ (iX_sheetLength.toInt ≤ iX_sheetLength_j10.toInt) ∧ (nX_sheet ≤ nX_sheet_j10) ∧ (H.size + (nX_sheet / 32) ≤ s.heap.size + (nX_sheet_j10 / 32) ∧ nS s.heap.size H + (2 * nX_sheet) ≤ (2 * nX_sheet_j10)) ∧  stk = [] ∧ va_P (dC, dI) vwCl (WX hX aX kX hT hM fX_ready fX_sheet_j10 dX_sheet_j10 nX_sheet_j10 iX_sheetLength_j10 xX_reader xX_solver xX_prover xX_values xX_clauses xX_nets) H ∧ va_D A (WX hX aX kX hT hM fX_ready fX_sheet_j10 dX_sheet_j10 nX_sheet_j10 iX_sheetLength_j10 xX_reader xX_solver xX_prover xX_values xX_clauses xX_nets) ∧ va_S A s.heap H locs ∧ lv_has ls 4 [(3, .int l3_x11), (2, .int l2_j10), (0, .ref (hX 0)), (1, .int p1)]) (fun join10 => ?_) ?_
      · refine W.tight (cells2 := (nX_sheet_x11 / 32 - (nX_sheet / 32))) (slots2 := (2 * nX_sheet_x11 - (2 * nX_sheet))) hzk hnk ?_
        refine lv_if_eq (tgt := 49) hx hb dX11_putDifferent_22 (by decide) (fun c_22 => ?_) (fun c_22 => ?_)
        · have t_22 : v41.toInt = 0 := toI_eq c_22 rfl (by decide : (0 : Int32).toInt = 0)
          have hl : lv_has _ _ ([(3, .int l3_x11), (2, .int l2_x11), (0, .ref (hX 0)), (1, .int p1)]) := lv_sub hl [0, 1, 2, 3] rfl
          refine W.known (fun hza hna => ?_)
          refine W.widen (k := 1875) (n := 120000) (by omega) (by omega) ?_
          exact join10 _ _ _ _ ⟨fX_sheet_x11, dX_sheet_x11, nX_sheet_x11, iX_sheetLength_x11, l2_x11, b_fX_sheet_x11, (by first | exact b_nX_sheet_x11 | with_reducible assumption | exact ⟨by omega, by omega⟩ | assumption), (b_iX_sheetLength_x11), (b_l2_x11), (by first | with_reducible assumption | omega | (rw [iI_t (by omega) (by omega)]; omega) | (have h7 : (0 : Int32).toInt = 0 := (by decide); omega)), (show iX_sheetLength.toInt ≤ iX_sheetLength_x11.toInt from by omega), (show nX_sheet ≤ nX_sheet_x11 from by omega), ⟨by omega, by omega⟩, rfl, hP, hD, hS, hl⟩
        · have t_22 : ¬ v41.toInt = 0 := toI_neq c_22 rfl (by decide : (0 : Int32).toInt = 0)
          refine lv_aload_n hx hb dX11_putDifferent_25 rfl (lv_at hl 2 rfl) ?_
          refine lv_iload_n hx hb dX11_putDifferent_26 rfl (lv_at hl 1 rfl) ?_
          refine lv_if_eq (tgt := 36) hx hb dX11_putDifferent_27 (by decide) (fun c_27 => ?_) (fun c_27 => ?_)
          · have t_27 : l2_x11.toInt = 0 := toI_eq c_27 rfl (by decide : (0 : Int32).toInt = 0)
            obtain ⟨qS327, hR327, hSS327⟩ := hE.2.2.2 17 _ rfl
            refine lv_ldcwS hx hb hown hR327 dX11_putDifferent_36 ?_
            refine W.known (fun hz0 hn0 => ?_)
            have hS0 := hS.1
            have hFc := allFree hD hS hA
            refine va_callv (va_runV (As := [.ref qS327]) (rest := []) ⟨hx, hb, hml, hown, hts⟩ (Met.sV (m_X11_putText l dC dI hX aX kX hT hM fX_ready fX_sheet_x11 dX_sheet_x11 nX_sheet_x11 iX_sheetLength_x11 xX_reader xX_solver xX_prover xX_values xX_clauses xX_nets qS327 4 (fun j => ([32, 44, 32, 120] : List Int32).getD j 0) b_fX_sheet_x11 (by first | exact b_nX_sheet_x11 | with_reducible assumption | exact ⟨by omega, by omega⟩ | assumption) (b_iX_sheetLength_x11) (by first | with_reducible assumption | omega | (rw [iI_t (by omega) (by omega)]; omega) | (have h7 : (0 : Int32).toInt = 0 := (by decide); omega)) (by decide) H.size) H) (cwV 1 hts gwsMX11_putDifferent_0 rfl rfl rfl (by decide +kernel) ⟨by first | decide +kernel | (dsimp only [headSpec] <;> omega), by first | decide +kernel | (dsimp only [headSpec] <;> omega)⟩) ⟨fun a U g mk q => by obtain ⟨q0, qh, q1, qP, qK, qD, qE⟩ := q; exact ⟨q0, qh, q1, qP, va_K.moved (u := U) (U := U.calling g mk a) (Vm.Alike.refl U.vm) qK, qD, qE.same rfl⟩, va_recv hK hP (ci := 11) (q0 := 0) rfl rfl, fun U hU9 hW => ⟨rfl, hU9, by rw [hU9], by rw [hU9]; exact hP, va_K.moved hW.alike hK, hD.weaken (fun _ _ _ _ => trivial), by rw [hU9]; exact (((hSS327 : (StrE qS327 4 (fun j => ([32, 44, 32, 120] : List Int32).getD j 0)) A s s.heap).kept hS.2.1).narrow (fun q h => hFc q h)).warm hW⟩⟩ rfl rfl hl.1 rfl (lv_room (Nat.le_of_ble_eq_true rfl)) dX11_putDifferent_39 ⟨by first | decide +kernel | (dsimp only [headSpec] <;> omega), by first | decide +kernel | (dsimp only [headSpec] <;> omega)⟩) hS (fun q _ h => hFc q h) hFc (fun u t9_ H locs ht hvm hw9 hB9 hz1 hk1 hS => ?_)
            revert u hw9 hB9
            refine fz_p4 ?_
            intro fX_sheet_46 dX_sheet_46 nX_sheet_46 iX_sheetLength_46 hw9 hB9
            try dsimp only at hw9 hB9
            revert hw9
            refine fz_a6 ?_
            intro b_fX_sheet_46 b_nX_sheet_46 b_iX_sheetLength_46 b_shl_46 f46_0 f46_1
            have hg1 := hB9.1.2.2.1
            rw [ht] at hg1
            have hg2 := hB9.1.2.2.2
            rw [ht] at hg2
            have hSz := hB9.2
            rw [ht] at hSz
            have hP : va_P (dC, dI) vwCl (WX hX aX kX hT hM fX_ready fX_sheet_46 dX_sheet_46 nX_sheet_46 iX_sheetLength_46 xX_reader xX_solver xX_prover xX_values xX_clauses xX_nets) H := fz_P ht hB9.1.1
            have hD := fz_sd hP (hB9.1.2.1.weaken (fun _ q _ h => hFc q.1 h)) rfl
            have hz9 : H.size ≤ s.heap.size + (nX_sheet_46 / 32 - (nX_sheet / 32)) := by (try dsimp only at hg1); omega
            have hn9 : nS s.heap.size H ≤ (2 * nX_sheet_46 - (2 * nX_sheet)) := by rw [hSz.n hS0]; (try dsimp only at hg2); omega
            refine W.tight (cells2 := (nX_sheet_46 / 32 - (nX_sheet / 32))) (slots2 := (2 * nX_sheet_46 - (2 * nX_sheet))) hz9 hn9 ?_
            clear hz9 hn9 hz0 hn0 hS0 hSz hg1 hg2
            refine lv_aload_n hx hb dX11_putDifferent_42 rfl (lv_at hl 2 rfl) ?_
            refine lv_iload_n hx hb dX11_putDifferent_43 rfl (lv_at hl 0 rfl) ?_
            refine W.known (fun hz0 hn0 => ?_)
            have hS0 := hS.1
            have hFc := allFree hD hS hA
            refine va_callv (va_runV (As := [.int l3_x11]) (rest := []) ⟨hx, hb, hml, hown, hts⟩ (Met.sV (m_X11_putNumber l dC dI hX aX kX hT hM fX_ready fX_sheet_46 dX_sheet_46 nX_sheet_46 iX_sheetLength_46 xX_reader xX_solver xX_prover xX_values xX_clauses xX_nets l3_x11 b_fX_sheet_46 (by first | exact b_nX_sheet_46 | with_reducible assumption | exact ⟨by omega, by omega⟩ | assumption) (b_iX_sheetLength_46) (by first | with_reducible assumption | omega | (rw [iI_t (by omega) (by omega)]; omega) | (have h7 : (0 : Int32).toInt = 0 := (by decide); omega)) H.size) H) (cwV 1 hts gwsMX11_putDifferent_1 rfl rfl rfl (by decide +kernel) ⟨by first | decide +kernel | (dsimp only [headSpec] <;> omega), by first | decide +kernel | (dsimp only [headSpec] <;> omega)⟩) ⟨fun a U g mk q => by obtain ⟨q0, qh, q1, qP, qK, qD⟩ := q; exact ⟨q0, qh, q1, qP, va_K.moved (u := U) (U := U.calling g mk a) (Vm.Alike.refl U.vm) qK, qD⟩, va_recv hK hP (ci := 11) (q0 := 0) rfl rfl, fun U hU9 hW => ⟨rfl, hU9, by rw [hU9], by rw [hU9]; exact hP, va_K.moved hW.alike hK, hD.weaken (fun _ _ _ _ => trivial)⟩⟩ rfl rfl hl.1 rfl (lv_room (Nat.le_of_ble_eq_true rfl)) dX11_putDifferent_44 ⟨by first | decide +kernel | (dsimp only [headSpec] <;> omega), by first | decide +kernel | (dsimp only [headSpec] <;> omega)⟩) hS (fun q _ h => hFc q h) hFc (fun u t9_ H locs ht hvm hw9 hB9 hz1 hk1 hS => ?_)
            revert u hw9 hB9
            refine fz_p4 ?_
            intro fX_sheet_47 dX_sheet_47 nX_sheet_47 iX_sheetLength_47 hw9 hB9
            try dsimp only at hw9 hB9
            revert hw9
            refine fz_a6 ?_
            intro b_fX_sheet_47 b_nX_sheet_47 b_iX_sheetLength_47 b_shl_47 f47_0 f47_1
            have hg1 := hB9.1.2.2.1
            rw [ht] at hg1
            have hg2 := hB9.1.2.2.2
            rw [ht] at hg2
            have hSz := hB9.2
            rw [ht] at hSz
            have hP : va_P (dC, dI) vwCl (WX hX aX kX hT hM fX_ready fX_sheet_47 dX_sheet_47 nX_sheet_47 iX_sheetLength_47 xX_reader xX_solver xX_prover xX_values xX_clauses xX_nets) H := fz_P ht hB9.1.1
            have hD := fz_sd hP (hB9.1.2.1.weaken (fun _ q _ h => hFc q.1 h)) rfl
            have hz9 : H.size ≤ s.heap.size + (nX_sheet_47 / 32 - (nX_sheet / 32)) := by (try dsimp only at hg1); omega
            have hn9 : nS s.heap.size H ≤ (2 * nX_sheet_47 - (2 * nX_sheet)) := by rw [hSz.n hS0]; (try dsimp only at hg2); omega
            refine W.tight (cells2 := (nX_sheet_47 / 32 - (nX_sheet / 32))) (slots2 := (2 * nX_sheet_47 - (2 * nX_sheet))) hz9 hn9 ?_
            clear hz9 hn9 hz0 hn0 hS0 hSz hg1 hg2
            refine lv_iconst (v := 0) hx hb dX11_putDifferent_47 (by decide) ?_
            refine lv_istore_n hx hb dX11_putDifferent_48 rfl hl (by decide) rfl (fun ls (hl : lv_has ls _ ([(2, .int 0), (3, .int l3_x11), (0, .ref (hX 0)), (1, .int p1)])) => ?_)
            have hl : lv_has _ _ ([(3, .int l3_x11), (2, .int 0), (0, .ref (hX 0)), (1, .int p1)]) := lv_sub hl [1, 0, 2, 3] rfl
            refine W.known (fun hza hna => ?_)
            refine W.widen (k := 1875) (n := 120000) (by omega) (by omega) ?_
            exact join10 _ _ _ _ ⟨fX_sheet_47, dX_sheet_47, nX_sheet_47, iX_sheetLength_47, 0, b_fX_sheet_47, (by first | exact b_nX_sheet_47 | with_reducible assumption | exact ⟨by omega, by omega⟩ | assumption), (b_iX_sheetLength_47), (show 0 ≤ (0 : Int32).toInt ∧ (0 : Int32).toInt ≤ 1 from by decide), (by first | with_reducible assumption | omega | (rw [iI_t (by omega) (by omega)]; omega) | (have h7 : (0 : Int32).toInt = 0 := (by decide); omega)), (show iX_sheetLength.toInt ≤ iX_sheetLength_47.toInt from by omega), (show nX_sheet ≤ nX_sheet_47 from by omega), ⟨by omega, by omega⟩, rfl, hP, hD, hS, hl⟩
          · have t_27 : ¬ l2_x11.toInt = 0 := toI_neq c_27 rfl (by decide : (0 : Int32).toInt = 0)
            obtain ⟨qS324, hR324, hSS324⟩ := hE.2.2.2 15 _ rfl
            refine lv_ldcwS hx hb hown hR324 dX11_putDifferent_30 ?_
            refine lv_goto (tgt := 39) hx hb dX11_putDifferent_33 (by decide) ?_
            refine W.known (fun hz0 hn0 => ?_)
            have hS0 := hS.1
            have hFc := allFree hD hS hA
            refine va_callv (va_runV (As := [.ref qS324]) (rest := []) ⟨hx, hb, hml, hown, hts⟩ (Met.sV (m_X11_putText l dC dI hX aX kX hT hM fX_ready fX_sheet_x11 dX_sheet_x11 nX_sheet_x11 iX_sheetLength_x11 xX_reader xX_solver xX_prover xX_values xX_clauses xX_nets qS324 2 (fun j => ([32, 120] : List Int32).getD j 0) b_fX_sheet_x11 (by first | exact b_nX_sheet_x11 | with_reducible assumption | exact ⟨by omega, by omega⟩ | assumption) (b_iX_sheetLength_x11) (by first | with_reducible assumption | omega | (rw [iI_t (by omega) (by omega)]; omega) | (have h7 : (0 : Int32).toInt = 0 := (by decide); omega)) (by decide) H.size) H) (cwV 1 hts gwsMX11_putDifferent_0 rfl rfl rfl (by decide +kernel) ⟨by first | decide +kernel | (dsimp only [headSpec] <;> omega), by first | decide +kernel | (dsimp only [headSpec] <;> omega)⟩) ⟨fun a U g mk q => by obtain ⟨q0, qh, q1, qP, qK, qD, qE⟩ := q; exact ⟨q0, qh, q1, qP, va_K.moved (u := U) (U := U.calling g mk a) (Vm.Alike.refl U.vm) qK, qD, qE.same rfl⟩, va_recv hK hP (ci := 11) (q0 := 0) rfl rfl, fun U hU9 hW => ⟨rfl, hU9, by rw [hU9], by rw [hU9]; exact hP, va_K.moved hW.alike hK, hD.weaken (fun _ _ _ _ => trivial), by rw [hU9]; exact (((hSS324 : (StrE qS324 2 (fun j => ([32, 120] : List Int32).getD j 0)) A s s.heap).kept hS.2.1).narrow (fun q h => hFc q h)).warm hW⟩⟩ rfl rfl hl.1 rfl (lv_room (Nat.le_of_ble_eq_true rfl)) dX11_putDifferent_39 ⟨by first | decide +kernel | (dsimp only [headSpec] <;> omega), by first | decide +kernel | (dsimp only [headSpec] <;> omega)⟩) hS (fun q _ h => hFc q h) hFc (fun u t9_ H locs ht hvm hw9 hB9 hz1 hk1 hS => ?_)
            revert u hw9 hB9
            refine fz_p4 ?_
            intro fX_sheet_48 dX_sheet_48 nX_sheet_48 iX_sheetLength_48 hw9 hB9
            try dsimp only at hw9 hB9
            revert hw9
            refine fz_a6 ?_
            intro b_fX_sheet_48 b_nX_sheet_48 b_iX_sheetLength_48 b_shl_48 f48_0 f48_1
            have hg1 := hB9.1.2.2.1
            rw [ht] at hg1
            have hg2 := hB9.1.2.2.2
            rw [ht] at hg2
            have hSz := hB9.2
            rw [ht] at hSz
            have hP : va_P (dC, dI) vwCl (WX hX aX kX hT hM fX_ready fX_sheet_48 dX_sheet_48 nX_sheet_48 iX_sheetLength_48 xX_reader xX_solver xX_prover xX_values xX_clauses xX_nets) H := fz_P ht hB9.1.1
            have hD := fz_sd hP (hB9.1.2.1.weaken (fun _ q _ h => hFc q.1 h)) rfl
            have hz9 : H.size ≤ s.heap.size + (nX_sheet_48 / 32 - (nX_sheet / 32)) := by (try dsimp only at hg1); omega
            have hn9 : nS s.heap.size H ≤ (2 * nX_sheet_48 - (2 * nX_sheet)) := by rw [hSz.n hS0]; (try dsimp only at hg2); omega
            refine W.tight (cells2 := (nX_sheet_48 / 32 - (nX_sheet / 32))) (slots2 := (2 * nX_sheet_48 - (2 * nX_sheet))) hz9 hn9 ?_
            clear hz9 hn9 hz0 hn0 hS0 hSz hg1 hg2
            refine lv_aload_n hx hb dX11_putDifferent_42 rfl (lv_at hl 2 rfl) ?_
            refine lv_iload_n hx hb dX11_putDifferent_43 rfl (lv_at hl 0 rfl) ?_
            refine W.known (fun hz0 hn0 => ?_)
            have hS0 := hS.1
            have hFc := allFree hD hS hA
            refine va_callv (va_runV (As := [.int l3_x11]) (rest := []) ⟨hx, hb, hml, hown, hts⟩ (Met.sV (m_X11_putNumber l dC dI hX aX kX hT hM fX_ready fX_sheet_48 dX_sheet_48 nX_sheet_48 iX_sheetLength_48 xX_reader xX_solver xX_prover xX_values xX_clauses xX_nets l3_x11 b_fX_sheet_48 (by first | exact b_nX_sheet_48 | with_reducible assumption | exact ⟨by omega, by omega⟩ | assumption) (b_iX_sheetLength_48) (by first | with_reducible assumption | omega | (rw [iI_t (by omega) (by omega)]; omega) | (have h7 : (0 : Int32).toInt = 0 := (by decide); omega)) H.size) H) (cwV 1 hts gwsMX11_putDifferent_1 rfl rfl rfl (by decide +kernel) ⟨by first | decide +kernel | (dsimp only [headSpec] <;> omega), by first | decide +kernel | (dsimp only [headSpec] <;> omega)⟩) ⟨fun a U g mk q => by obtain ⟨q0, qh, q1, qP, qK, qD⟩ := q; exact ⟨q0, qh, q1, qP, va_K.moved (u := U) (U := U.calling g mk a) (Vm.Alike.refl U.vm) qK, qD⟩, va_recv hK hP (ci := 11) (q0 := 0) rfl rfl, fun U hU9 hW => ⟨rfl, hU9, by rw [hU9], by rw [hU9]; exact hP, va_K.moved hW.alike hK, hD.weaken (fun _ _ _ _ => trivial)⟩⟩ rfl rfl hl.1 rfl (lv_room (Nat.le_of_ble_eq_true rfl)) dX11_putDifferent_44 ⟨by first | decide +kernel | (dsimp only [headSpec] <;> omega), by first | decide +kernel | (dsimp only [headSpec] <;> omega)⟩) hS (fun q _ h => hFc q h) hFc (fun u t9_ H locs ht hvm hw9 hB9 hz1 hk1 hS => ?_)
            revert u hw9 hB9
            refine fz_p4 ?_
            intro fX_sheet_49 dX_sheet_49 nX_sheet_49 iX_sheetLength_49 hw9 hB9
            try dsimp only at hw9 hB9
            revert hw9
            refine fz_a6 ?_
            intro b_fX_sheet_49 b_nX_sheet_49 b_iX_sheetLength_49 b_shl_49 f49_0 f49_1
            have hg1 := hB9.1.2.2.1
            rw [ht] at hg1
            have hg2 := hB9.1.2.2.2
            rw [ht] at hg2
            have hSz := hB9.2
            rw [ht] at hSz
            have hP : va_P (dC, dI) vwCl (WX hX aX kX hT hM fX_ready fX_sheet_49 dX_sheet_49 nX_sheet_49 iX_sheetLength_49 xX_reader xX_solver xX_prover xX_values xX_clauses xX_nets) H := fz_P ht hB9.1.1
            have hD := fz_sd hP (hB9.1.2.1.weaken (fun _ q _ h => hFc q.1 h)) rfl
            have hz9 : H.size ≤ s.heap.size + (nX_sheet_49 / 32 - (nX_sheet / 32)) := by (try dsimp only at hg1); omega
            have hn9 : nS s.heap.size H ≤ (2 * nX_sheet_49 - (2 * nX_sheet)) := by rw [hSz.n hS0]; (try dsimp only at hg2); omega
            refine W.tight (cells2 := (nX_sheet_49 / 32 - (nX_sheet / 32))) (slots2 := (2 * nX_sheet_49 - (2 * nX_sheet))) hz9 hn9 ?_
            clear hz9 hn9 hz0 hn0 hS0 hSz hg1 hg2
            refine lv_iconst (v := 0) hx hb dX11_putDifferent_47 (by decide) ?_
            refine lv_istore_n hx hb dX11_putDifferent_48 rfl hl (by decide) rfl (fun ls (hl : lv_has ls _ ([(2, .int 0), (3, .int l3_x11), (0, .ref (hX 0)), (1, .int p1)])) => ?_)
            have hl : lv_has _ _ ([(3, .int l3_x11), (2, .int 0), (0, .ref (hX 0)), (1, .int p1)]) := lv_sub hl [1, 0, 2, 3] rfl
            refine W.known (fun hza hna => ?_)
            refine W.widen (k := 1875) (n := 120000) (by omega) (by omega) ?_
            exact join10 _ _ _ _ ⟨fX_sheet_49, dX_sheet_49, nX_sheet_49, iX_sheetLength_49, 0, b_fX_sheet_49, (by first | exact b_nX_sheet_49 | with_reducible assumption | exact ⟨by omega, by omega⟩ | assumption), (b_iX_sheetLength_49), (show 0 ≤ (0 : Int32).toInt ∧ (0 : Int32).toInt ≤ 1 from by decide), (by first | with_reducible assumption | omega | (rw [iI_t (by omega) (by omega)]; omega) | (have h7 : (0 : Int32).toInt = 0 := (by decide); omega)), (show iX_sheetLength.toInt ≤ iX_sheetLength_49.toInt from by omega), (show nX_sheet ≤ nX_sheet_49 from by omega), ⟨by omega, by omega⟩, rfl, hP, hD, hS, hl⟩
      · rintro H locs ls stk ⟨fX_sheet_j10, dX_sheet_j10, nX_sheet_j10, iX_sheetLength_j10, l2_j10, b_fX_sheet_j10, b_nX_sheet_j10, b_iX_sheetLength_j10, b_l2_j10, b_shl_j10, hjx, hgm0_j10, ⟨hzj, hnj⟩, rfl, hP, hD, hS, hl⟩
        refine W.tight (cells2 := (nX_sheet_j10 / 32 - (nX_sheet / 32))) (slots2 := (2 * nX_sheet_j10 - (2 * nX_sheet))) (tg1 hzj hS.1) (tg2 hnj) ?_
        refine lv_iinc (v := (iI (l3_x11.toInt + 1))) hx hb dX11_putDifferent_49 hl (k := 0) rfl (iI_add2 (iI_of _) (by decide : (1 : Int32) = iI 1)) (by decide) rfl (fun ls (hl : lv_has ls _ ([(3, .int (iI (l3_x11.toInt + 1))), (2, .int l2_j10), (0, .ref (hX 0)), (1, .int p1)])) => ?_)
        refine lv_goto (tgt := 11) hx hb dX11_putDifferent_52 (by decide) ?_
        have hl : lv_has _ _ ([(3, .int (iI (l3_x11.toInt + 1))), (2, .int l2_j10), (0, .ref (hX 0)), (1, .int p1)]) := lv_sub hl [0, 1, 2, 3] rfl
        exact ihx11 fX_sheet_j10 dX_sheet_j10 nX_sheet_j10 iX_sheetLength_j10 (iI (l3_x11.toInt + 1)) l2_j10 _ _ _ b_fX_sheet_j10 (by first | exact b_nX_sheet_j10 | with_reducible assumption | exact ⟨by omega, by omega⟩ | assumption) (b_iX_sheetLength_j10) (iI_rng (Int.le_trans (by decide) (Int.add_le_add (b_l3_x11.1) (Int.le_refl _))) (by omega) (by decide) (by decide)) (b_l2_j10) (by first | with_reducible assumption | omega | (rw [iI_t (by omega) (by omega)]; omega) | (have h7 : (0 : Int32).toInt = 0 := (by decide); omega)) (show iX_sheetLength.toInt ≤ iX_sheetLength_j10.toInt from by omega) (show nX_sheet ≤ nX_sheet_j10 from by omega) (by have e9 : ((iI (l3_x11.toInt + 1))).toInt = (l3_x11.toInt + 1) := (iI_t (Int.le_trans (by decide) (Int.add_le_add (b_l3_x11.1) (Int.le_refl _))) (Int.le_trans (Int.add_le_add (b_l3_x11.2) (Int.le_refl _)) (by decide))); omega) hP hD hS hl
theorem dX11_putGoal_0 : decode cX11_putGoal 0 = .ok (.aload_n 0, 1) := dk_42 (by decide +kernel)
theorem dX11_putGoal_1 : decode cX11_putGoal 1 = .ok (.aload_n 0, 1) := dk_42 (by decide +kernel)
theorem dX11_putGoal_2 : decode cX11_putGoal 2 = .ok (.getfield 23, 3) := dk_180 (by decide +kernel)
theorem dX11_putGoal_5 : decode cX11_putGoal 5 = .ok (.getfield 126, 3) := dk_180 (by decide +kernel)
theorem dX11_putGoal_8 : decode cX11_putGoal 8 = .ok (.iload_n 1, 1) := dk_27 (by decide +kernel)
theorem dX11_putGoal_9 : decode cX11_putGoal 9 = .ok (.baload, 1) := dk_51 (by decide +kernel)
theorem dX11_putGoal_10 : decode cX11_putGoal 10 = .ok (.ifCond .eq 9, 3) := dk_153 (by decide +kernel)
theorem dX11_putGoal_13 : decode cX11_putGoal 13 = .ok (.ldc_w 329, 3) := dk_19 (by decide +kernel)
theorem dX11_putGoal_16 : decode cX11_putGoal 16 = .ok (.goto 6, 3) := dk_167 (by decide +kernel)
theorem dX11_putGoal_19 : decode cX11_putGoal 19 = .ok (.ldc_w 331, 3) := dk_19 (by decide +kernel)
theorem dX11_putGoal_22 : decode cX11_putGoal 22 = .ok (.invokevirtual 279, 3) := dk_182 (by decide +kernel)
theorem dX11_putGoal_25 : decode cX11_putGoal 25 = .ok (.iload_n 1, 1) := dk_27 (by decide +kernel)
theorem dX11_putGoal_26 : decode cX11_putGoal 26 = .ok (.bipush 9, 2) := dk_16 (by decide +kernel)
theorem dX11_putGoal_28 : decode cX11_putGoal 28 = .ok (.imul, 1) := dk_104 (by decide +kernel)
theorem dX11_putGoal_29 : decode cX11_putGoal 29 = .ok (.istore_n 2, 1) := dk_61 (by decide +kernel)
theorem dX11_putGoal_30 : decode cX11_putGoal 30 = .ok (.iconst 1, 1) := dk_4 (by decide +kernel)
theorem dX11_putGoal_31 : decode cX11_putGoal 31 = .ok (.istore_n 3, 1) := dk_62 (by decide +kernel)
theorem dX11_putGoal_32 : decode cX11_putGoal 32 = .ok (.iconst 0, 1) := dk_3 (by decide +kernel)
theorem dX11_putGoal_33 : decode cX11_putGoal 33 = .ok (.istore 4, 2) := dk_54 (by decide +kernel)
theorem dX11_putGoal_35 : decode cX11_putGoal 35 = .ok (.iload 4, 2) := dk_21 (by decide +kernel)
theorem dX11_putGoal_37 : decode cX11_putGoal 37 = .ok (.aload_n 0, 1) := dk_42 (by decide +kernel)
theorem dX11_putGoal_38 : decode cX11_putGoal 38 = .ok (.getfield 23, 3) := dk_180 (by decide +kernel)
theorem dX11_putGoal_41 : decode cX11_putGoal 41 = .ok (.getfield 84, 3) := dk_180 (by decide +kernel)
theorem dX11_putGoal_44 : decode cX11_putGoal 44 = .ok (.if_icmp .ge 55, 3) := dk_162 (by decide +kernel)
theorem dX11_putGoal_47 : decode cX11_putGoal 47 = .ok (.aload_n 0, 1) := dk_42 (by decide +kernel)
theorem dX11_putGoal_48 : decode cX11_putGoal 48 = .ok (.getfield 23, 3) := dk_180 (by decide +kernel)
theorem dX11_putGoal_51 : decode cX11_putGoal 51 = .ok (.getfield 132, 3) := dk_180 (by decide +kernel)
theorem dX11_putGoal_54 : decode cX11_putGoal 54 = .ok (.iload_n 2, 1) := dk_28 (by decide +kernel)
theorem dX11_putGoal_55 : decode cX11_putGoal 55 = .ok (.iload 4, 2) := dk_21 (by decide +kernel)
theorem dX11_putGoal_57 : decode cX11_putGoal 57 = .ok (.iadd, 1) := dk_96 (by decide +kernel)
theorem dX11_putGoal_58 : decode cX11_putGoal 58 = .ok (.iconst 1, 1) := dk_4 (by decide +kernel)
theorem dX11_putGoal_59 : decode cX11_putGoal 59 = .ok (.iadd, 1) := dk_96 (by decide +kernel)
theorem dX11_putGoal_60 : decode cX11_putGoal 60 = .ok (.iaload, 1) := dk_46 (by decide +kernel)
theorem dX11_putGoal_61 : decode cX11_putGoal 61 = .ok (.istore 5, 2) := dk_54 (by decide +kernel)
theorem dX11_putGoal_63 : decode cX11_putGoal 63 = .ok (.iload 5, 2) := dk_21 (by decide +kernel)
theorem dX11_putGoal_65 : decode cX11_putGoal 65 = .ok (.ifCond .eq 28, 3) := dk_153 (by decide +kernel)
theorem dX11_putGoal_68 : decode cX11_putGoal 68 = .ok (.aload_n 0, 1) := dk_42 (by decide +kernel)
theorem dX11_putGoal_69 : decode cX11_putGoal 69 = .ok (.iload 5, 2) := dk_21 (by decide +kernel)
theorem dX11_putGoal_71 : decode cX11_putGoal 71 = .ok (.aload_n 0, 1) := dk_42 (by decide +kernel)
theorem dX11_putGoal_72 : decode cX11_putGoal 72 = .ok (.getfield 23, 3) := dk_180 (by decide +kernel)
theorem dX11_putGoal_75 : decode cX11_putGoal 75 = .ok (.getfield 129, 3) := dk_180 (by decide +kernel)
theorem dX11_putGoal_78 : decode cX11_putGoal 78 = .ok (.iload_n 2, 1) := dk_28 (by decide +kernel)
theorem dX11_putGoal_79 : decode cX11_putGoal 79 = .ok (.iload 4, 2) := dk_21 (by decide +kernel)
theorem dX11_putGoal_81 : decode cX11_putGoal 81 = .ok (.iadd, 1) := dk_96 (by decide +kernel)
theorem dX11_putGoal_82 : decode cX11_putGoal 82 = .ok (.iconst 1, 1) := dk_4 (by decide +kernel)
theorem dX11_putGoal_83 : decode cX11_putGoal 83 = .ok (.iadd, 1) := dk_96 (by decide +kernel)
theorem dX11_putGoal_84 : decode cX11_putGoal 84 = .ok (.iaload, 1) := dk_46 (by decide +kernel)
theorem dX11_putGoal_85 : decode cX11_putGoal 85 = .ok (.iload 4, 2) := dk_21 (by decide +kernel)
theorem dX11_putGoal_87 : decode cX11_putGoal 87 = .ok (.iload_n 3, 1) := dk_29 (by decide +kernel)
theorem dX11_putGoal_88 : decode cX11_putGoal 88 = .ok (.invokevirtual 303, 3) := dk_182 (by decide +kernel)
theorem dX11_putGoal_91 : decode cX11_putGoal 91 = .ok (.iconst 0, 1) := dk_3 (by decide +kernel)
theorem dX11_putGoal_92 : decode cX11_putGoal 92 = .ok (.istore_n 3, 1) := dk_62 (by decide +kernel)
theorem dX11_putGoal_93 : decode cX11_putGoal 93 = .ok (.iinc 4 1, 3) := dk_132 (by decide +kernel)
theorem dX11_putGoal_96 : decode cX11_putGoal 96 = .ok (.goto (-61), 3) := dk_167 (by decide +kernel)
theorem dX11_putGoal_99 : decode cX11_putGoal 99 = .ok (.aload_n 0, 1) := dk_42 (by decide +kernel)
theorem dX11_putGoal_100 : decode cX11_putGoal 100 = .ok (.getfield 23, 3) := dk_180 (by decide +kernel)
theorem dX11_putGoal_103 : decode cX11_putGoal 103 = .ok (.getfield 132, 3) := dk_180 (by decide +kernel)
theorem dX11_putGoal_106 : decode cX11_putGoal 106 = .ok (.iload_n 2, 1) := dk_28 (by decide +kernel)
theorem dX11_putGoal_107 : decode cX11_putGoal 107 = .ok (.iaload, 1) := dk_46 (by decide +kernel)
theorem dX11_putGoal_108 : decode cX11_putGoal 108 = .ok (.istore 4, 2) := dk_54 (by decide +kernel)
theorem dX11_putGoal_110 : decode cX11_putGoal 110 = .ok (.iload_n 3, 1) := dk_29 (by decide +kernel)
theorem dX11_putGoal_111 : decode cX11_putGoal 111 = .ok (.ifCond .eq 27, 3) := dk_153 (by decide +kernel)
theorem dX11_putGoal_114 : decode cX11_putGoal 114 = .ok (.aload_n 0, 1) := dk_42 (by decide +kernel)
theorem dX11_putGoal_115 : decode cX11_putGoal 115 = .ok (.bipush 32, 2) := dk_16 (by decide +kernel)
theorem dX11_putGoal_117 : decode cX11_putGoal 117 = .ok (.invokevirtual 242, 3) := dk_182 (by decide +kernel)
theorem dX11_putGoal_120 : decode cX11_putGoal 120 = .ok (.aload_n 0, 1) := dk_42 (by decide +kernel)
theorem dX11_putGoal_121 : decode cX11_putGoal 121 = .ok (.iload 4, 2) := dk_21 (by decide +kernel)
theorem dX11_putGoal_123 : decode cX11_putGoal 123 = .ok (.aload_n 0, 1) := dk_42 (by decide +kernel)
theorem dX11_putGoal_124 : decode cX11_putGoal 124 = .ok (.getfield 23, 3) := dk_180 (by decide +kernel)
theorem dX11_putGoal_127 : decode cX11_putGoal 127 = .ok (.getfield 129, 3) := dk_180 (by decide +kernel)
theorem dX11_putGoal_130 : decode cX11_putGoal 130 = .ok (.iload_n 2, 1) := dk_28 (by decide +kernel)
theorem dX11_putGoal_131 : decode cX11_putGoal 131 = .ok (.iaload, 1) := dk_46 (by decide +kernel)
theorem dX11_putGoal_132 : decode cX11_putGoal 132 = .ok (.invokevirtual 319, 3) := dk_182 (by decide +kernel)
theorem dX11_putGoal_135 : decode cX11_putGoal 135 = .ok (.goto 52, 3) := dk_167 (by decide +kernel)
theorem dX11_putGoal_138 : decode cX11_putGoal 138 = .ok (.iload 4, 2) := dk_21 (by decide +kernel)
theorem dX11_putGoal_140 : decode cX11_putGoal 140 = .ok (.ifCond .eq 47, 3) := dk_153 (by decide +kernel)
theorem dX11_putGoal_143 : decode cX11_putGoal 143 = .ok (.aload_n 0, 1) := dk_42 (by decide +kernel)
theorem dX11_putGoal_144 : decode cX11_putGoal 144 = .ok (.iload 4, 2) := dk_21 (by decide +kernel)
theorem dX11_putGoal_146 : decode cX11_putGoal 146 = .ok (.ifCond .ge 9, 3) := dk_156 (by decide +kernel)
theorem dX11_putGoal_149 : decode cX11_putGoal 149 = .ok (.ldc_w 333, 3) := dk_19 (by decide +kernel)
theorem dX11_putGoal_152 : decode cX11_putGoal 152 = .ok (.goto 6, 3) := dk_167 (by decide +kernel)
theorem dX11_putGoal_155 : decode cX11_putGoal 155 = .ok (.ldc_w 335, 3) := dk_19 (by decide +kernel)
theorem dX11_putGoal_158 : decode cX11_putGoal 158 = .ok (.invokevirtual 279, 3) := dk_182 (by decide +kernel)
theorem dX11_putGoal_161 : decode cX11_putGoal 161 = .ok (.aload_n 0, 1) := dk_42 (by decide +kernel)
theorem dX11_putGoal_162 : decode cX11_putGoal 162 = .ok (.iload 4, 2) := dk_21 (by decide +kernel)
theorem dX11_putGoal_164 : decode cX11_putGoal 164 = .ok (.ifCond .ge 9, 3) := dk_156 (by decide +kernel)
theorem dX11_putGoal_167 : decode cX11_putGoal 167 = .ok (.iload 4, 2) := dk_21 (by decide +kernel)
theorem dX11_putGoal_169 : decode cX11_putGoal 169 = .ok (.ineg, 1) := dk_116 (by decide +kernel)
theorem dX11_putGoal_170 : decode cX11_putGoal 170 = .ok (.goto 5, 3) := dk_167 (by decide +kernel)
theorem dX11_putGoal_173 : decode cX11_putGoal 173 = .ok (.iload 4, 2) := dk_21 (by decide +kernel)
theorem dX11_putGoal_175 : decode cX11_putGoal 175 = .ok (.aload_n 0, 1) := dk_42 (by decide +kernel)
theorem dX11_putGoal_176 : decode cX11_putGoal 176 = .ok (.getfield 23, 3) := dk_180 (by decide +kernel)
theorem dX11_putGoal_179 : decode cX11_putGoal 179 = .ok (.getfield 129, 3) := dk_180 (by decide +kernel)
theorem dX11_putGoal_182 : decode cX11_putGoal 182 = .ok (.iload_n 2, 1) := dk_28 (by decide +kernel)
theorem dX11_putGoal_183 : decode cX11_putGoal 183 = .ok (.iaload, 1) := dk_46 (by decide +kernel)
theorem dX11_putGoal_184 : decode cX11_putGoal 184 = .ok (.invokevirtual 319, 3) := dk_182 (by decide +kernel)
theorem dX11_putGoal_187 : decode cX11_putGoal 187 = .ok (.aload_n 0, 1) := dk_42 (by decide +kernel)
theorem dX11_putGoal_188 : decode cX11_putGoal 188 = .ok (.ldc_w 292, 3) := dk_19 (by decide +kernel)
theorem dX11_putGoal_191 : decode cX11_putGoal 191 = .ok (.invokevirtual 279, 3) := dk_182 (by decide +kernel)
theorem dX11_putGoal_194 : decode cX11_putGoal 194 = .ok (.return_, 1) := dk_177 (by decide +kernel)
def wsMX11_putGoal : List Cond := .code yX11_putGoal cX11_putGoal 6 none :: ([.fieldLink RX11 23 "OptimaWorks" "model" "LOptimaWorks$Model;", .fieldLink RX11 126 "OptimaWorks$Model" "goalMax" "[Z", .fieldLink RX11 84 "OptimaWorks$Model" "variables" "I", .fieldLink RX11 132 "OptimaWorks$Model" "goalOver" "[I", .fieldLink RX11 129 "OptimaWorks$Model" "goalUnder" "[I"] ++ wsX10 ++ wsX110 ++ (wsV RX11 279 RX11 yX11_putText wsMX11_putText) ++ (wsV RX11 303 RX11 yX11_putTimes wsMX11_putTimes) ++ (wsV RX11 242 RX11 yX11_put wsMX11_put) ++ (wsV RX11 319 RX11 yX11_putRatio wsMX11_putRatio))
theorem iwsMX11_putGoal_in1 : ∀ w ∈ wsX10, w ∈ wsMX11_putGoal := fun _ h => List.mem_cons_of_mem _ (List.mem_append_left _ (List.mem_append_left _ (List.mem_append_left _ (List.mem_append_left _ (List.mem_append_left _ (List.mem_append_right _ h))))))
theorem iwsMX11_putGoal_in11 : ∀ w ∈ wsX110, w ∈ wsMX11_putGoal := fun _ h => List.mem_cons_of_mem _ (List.mem_append_left _ (List.mem_append_left _ (List.mem_append_left _ (List.mem_append_left _ (List.mem_append_right _ h)))))
theorem gwsMX11_putGoal_0 : GoodIn wsMX11_putGoal (wsV RX11 279 RX11 yX11_putText wsMX11_putText) := goodIn_sub (fun _ h => List.mem_cons_of_mem _ (List.mem_append_left _ (List.mem_append_left _ (List.mem_append_left _ (List.mem_append_right _ h))))) (gdV (by decide +kernel) gdwsMX11_putText)
theorem gwsMX11_putGoal_1 : GoodIn wsMX11_putGoal (wsV RX11 303 RX11 yX11_putTimes wsMX11_putTimes) := goodIn_sub (fun _ h => List.mem_cons_of_mem _ (List.mem_append_left _ (List.mem_append_left _ (List.mem_append_right _ h)))) (gdV (by decide +kernel) gdwsMX11_putTimes)
theorem gwsMX11_putGoal_2 : GoodIn wsMX11_putGoal (wsV RX11 242 RX11 yX11_put wsMX11_put) := goodIn_sub (fun _ h => List.mem_cons_of_mem _ (List.mem_append_left _ (List.mem_append_right _ h))) (gdV (by decide +kernel) gdwsMX11_put)
theorem gwsMX11_putGoal_3 : GoodIn wsMX11_putGoal (wsV RX11 319 RX11 yX11_putRatio wsMX11_putRatio) := goodIn_sub (fun _ h => List.mem_cons_of_mem _ (List.mem_append_right _ h)) (gdV (by decide +kernel) gdwsMX11_putRatio)
theorem gdwsMX11_putGoal : wsMX11_putGoal.all goodWord = true := gdC rfl (gdA (gdA (gdA (gdA (gdA (gdA (by decide +kernel : ([.fieldLink RX11 23 "OptimaWorks" "model" "LOptimaWorks$Model;", .fieldLink RX11 126 "OptimaWorks$Model" "goalMax" "[Z", .fieldLink RX11 84 "OptimaWorks$Model" "variables" "I", .fieldLink RX11 132 "OptimaWorks$Model" "goalOver" "[I", .fieldLink RX11 129 "OptimaWorks$Model" "goalUnder" "[I"] : List Cond).all goodWord = true) gdwsX10) gdwsX110) (gdV (by decide +kernel) gdwsMX11_putText)) (gdV (by decide +kernel) gdwsMX11_putTimes)) (gdV (by decide +kernel) gdwsMX11_put)) (gdV (by decide +kernel) gdwsMX11_putRatio))
theorem hm_m_X11_putGoal_0 : (.fieldLink RX11 23 "OptimaWorks" "model" "LOptimaWorks$Model;" : Cond) ∈ wsMX11_putGoal := by decide +kernel
theorem hm_m_X11_putGoal_1 : (.fieldLink RX11 84 "OptimaWorks$Model" "variables" "I" : Cond) ∈ wsMX11_putGoal := by decide +kernel
theorem hm_m_X11_putGoal_2 : (.fieldLink RX11 132 "OptimaWorks$Model" "goalOver" "[I" : Cond) ∈ wsMX11_putGoal := by decide +kernel
theorem hm_m_X11_putGoal_3 : (.fieldLink RX11 129 "OptimaWorks$Model" "goalUnder" "[I" : Cond) ∈ wsMX11_putGoal := by decide +kernel
set_option maxHeartbeats 4000000 in
set_option maxRecDepth 100000 in
/-- a goal more -/
theorem m_X11_putGoal (l : Launch) (hst : l.stackTraces = false) (dC : Nat → ClassId) (dI : Nat → Nat → Nat) (hX : Nat → Nat) (aX : Nat → Nat) (kX : Nat → ClassId) (hT : Nat → Nat) (hM : Nat → Nat) (fX_ready : Nat → Int32) (fX_sheet : Nat → Int32) (dX_sheet : Nat) (nX_sheet : Nat) (iX_sheetLength : Int32) (xX_reader : Value) (xX_solver : Value) (xX_prover : Value) (xX_values : Value) (xX_clauses : Value) (xX_nets : Value) (aM : Nat → Nat) (kM : Nat → ClassId) (iM_stands : Int32) (iM_variables : Int32) (iM_rows : Int32) (iM_goals : Int32) (iM_differents : Int32) (iM_cases : Int32) (fM_from : Nat → Int32) (fM_to : Nat → Int32) (fM_whole : Nat → Int32) (fM_ways : Nat → Int32) (iM_plainRows : Int32) (fM_plainRow : Nat → Int32) (fM_kept : Nat → Int32) (fM_goalOver : Nat → Int32) (fM_goalUnder : Nat → Int32) (fM_goalMax : Nat → Int32) (fM_different : Nat → Int32) (p1 : Int32) (b_fX_sheet : ∀ q : Nat, (-128) ≤ (fX_sheet q).toInt ∧ (fX_sheet q).toInt ≤ 127) (b_nX_sheet : 64 ≤ nX_sheet ∧ nX_sheet ≤ 60000) (b_iX_sheetLength : 0 ≤ iX_sheetLength.toInt ∧ iX_sheetLength.toInt ≤ 30000) (b_shl : iX_sheetLength.toInt ≤ ((nX_sheet : Nat) : Int)) (b_iM_stands : 0 ≤ iM_stands.toInt ∧ iM_stands.toInt ≤ 1) (b_iM_variables : 0 ≤ iM_variables.toInt ∧ iM_variables.toInt ≤ 8) (b_iM_rows : 0 ≤ iM_rows.toInt ∧ iM_rows.toInt ≤ 12) (b_iM_goals : 0 ≤ iM_goals.toInt ∧ iM_goals.toInt ≤ 3) (b_iM_differents : 0 ≤ iM_differents.toInt ∧ iM_differents.toInt ≤ 8) (b_iM_cases : 0 ≤ iM_cases.toInt ∧ iM_cases.toInt ≤ 200000) (b_fM_ways : ∀ q : Nat, 0 ≤ (fM_ways q).toInt ∧ (fM_ways q).toInt ≤ 3) (b_iM_plainRows : 0 ≤ iM_plainRows.toInt ∧ iM_plainRows.toInt ≤ 12) (b_fM_plainRow : ∀ q : Nat, 0 ≤ (fM_plainRow q).toInt ∧ (fM_plainRow q).toInt ≤ 11) (b_pr : iM_plainRows.toInt ≤ iM_rows.toInt) (b_p1 : 0 ≤ p1.toInt ∧ p1.toInt ≤ 2) (sz : Nat) : Met l yX11_putGoal wsMX11_putGoal ({ frames := 6, cells := 9376, slots := 660000, locals := 132 }) (va_Pc [.ref (hX 0), .int p1] (fun U => U.heap.size = sz ∧ va_P (dC, dI) vwCl (WX hX aX kX hT hM fX_ready fX_sheet dX_sheet nX_sheet iX_sheetLength xX_reader xX_solver xX_prover xX_values xX_clauses xX_nets ++ (WM hM aM kM iM_stands iM_variables iM_rows iM_goals iM_differents iM_cases fM_from fM_to fM_whole fM_ways iM_plainRows fM_plainRow fM_kept fM_goalOver fM_goalUnder fM_goalMax fM_different)) U.heap ∧ va_K (dC, dI) vwCl (tX kX ++ (tM kM)) U ∧ va_D (fun _ => True) (WX hX aX kX hT hM fX_ready fX_sheet dX_sheet nX_sheet iX_sheetLength xX_reader xX_solver xX_prover xX_values xX_clauses xX_nets ++ (WM hM aM kM iM_stands iM_variables iM_rows iM_goals iM_differents iM_cases fM_from fM_to fM_whole fM_ways iM_plainRows fM_plainRow fM_kept fM_goalOver fM_goalUnder fM_goalMax fM_different)) ∧ CE (va_A (WX hX aX kX hT hM fX_ready fX_sheet dX_sheet nX_sheet iX_sheetLength xX_reader xX_solver xX_prover xX_values xX_clauses xX_nets ++ (WM hM aM kM iM_stands iM_variables iM_rows iM_goals iM_differents iM_cases fM_from fM_to fM_whole fM_ways iM_plainRows fM_plainRow fM_kept fM_goalOver fM_goalUnder fM_goalMax fM_different)) sz) U U.heap)) (va_Qv (fun (u : (Nat → Int32) × (Nat) × (Nat) × (Int32)) => (∀ q : Nat, (-128) ≤ ((u.1) q).toInt ∧ ((u.1) q).toInt ≤ 127) ∧ (64 ≤ (u.2.2.1) ∧ (u.2.2.1) ≤ 60000) ∧ (0 ≤ (u.2.2.2).toInt ∧ (u.2.2.2).toInt ≤ 30000) ∧ ((u.2.2.2).toInt ≤ (((u.2.2.1) : Nat) : Int)) ∧ (nX_sheet ≤ (u.2.2.1)) ∧ (iX_sheetLength.toInt ≤ (u.2.2.2).toInt)) (fun (u : (Nat → Int32) × (Nat) × (Nat) × (Int32)) t => va_P (dC, dI) vwCl (WX hX aX kX hT hM fX_ready (u.1) (u.2.1) (u.2.2.1) (u.2.2.2) xX_reader xX_solver xX_prover xX_values xX_clauses xX_nets ++ (WM hM aM kM iM_stands iM_variables iM_rows iM_goals iM_differents iM_cases fM_from fM_to fM_whole fM_ways iM_plainRows fM_plainRow fM_kept fM_goalOver fM_goalUnder fM_goalMax fM_different)) t.heap ∧ va_D (va_A (WX hX aX kX hT hM fX_ready fX_sheet dX_sheet nX_sheet iX_sheetLength xX_reader xX_solver xX_prover xX_values xX_clauses xX_nets ++ (WM hM aM kM iM_stands iM_variables iM_rows iM_goals iM_differents iM_cases fM_from fM_to fM_whole fM_ways iM_plainRows fM_plainRow fM_kept fM_goalOver fM_goalUnder fM_goalMax fM_different)) sz) (WX hX aX kX hT hM fX_ready (u.1) (u.2.1) (u.2.2.1) (u.2.2.2) xX_reader xX_solver xX_prover xX_values xX_clauses xX_nets ++ (WM hM aM kM iM_stands iM_variables iM_rows iM_goals iM_differents iM_cases fM_from fM_to fM_whole fM_ways iM_plainRows fM_plainRow fM_kept fM_goalOver fM_goalUnder fM_goalMax fM_different)) ∧ t.heap.size + (nX_sheet / 32) ≤ sz + ((u.2.2.1) / 32) ∧ nS sz t.heap + (2 * nX_sheet) ≤ (2 * (u.2.2.1))) (va_A (WX hX aX kX hT hM fX_ready fX_sheet dX_sheet nX_sheet iX_sheetLength xX_reader xX_solver xX_prover xX_values xX_clauses xX_nets ++ (WM hM aM kM iM_stands iM_variables iM_rows iM_goals iM_differents iM_cases fM_from fM_to fM_whole fM_ways iM_plainRows fM_plainRow fM_kept fM_goalOver fM_goalUnder fM_goalMax fM_different)) sz)) 9376 660000 (va_A (WX hX aX kX hT hM fX_ready fX_sheet dX_sheet nX_sheet iX_sheetLength xX_reader xX_solver xX_prover xX_values xX_clauses xX_nets ++ (WM hM aM kM iM_stands iM_variables iM_rows iM_goals iM_differents iM_cases fM_from fM_to fM_whole fM_ways iM_plainRows fM_plainRow fM_kept fM_goalOver fM_goalUnder fM_goalMax fM_different)) sz) := by
  refine Met.ofW (cc := cX11_putGoal) (maxL := 6) (ret := none) (by decide) rfl ?_
  intro p e s m args below meth c s₁ B hml hv
  obtain ⟨rfl, hsz, hP, hK, hD0, hE⟩ := hv
  have hx := B.exec
  have hb := B.bytes
  have hr := B.returns
  have hts := atoms_spec (ws := wsMX11_putGoal) B.pre
  have hown : s.vm.findClass RX11 = some m.cls := findClass_of_methodNamed B.named
  have hlocks := B.notSynchronized
  subst hsz
  have hD := hD0.self (sz := s.heap.size)
  generalize hAe : va_A (WX hX aX kX hT hM fX_ready fX_sheet dX_sheet nX_sheet iX_sheetLength xX_reader xX_solver xX_prover xX_values xX_clauses xX_nets ++ (WM hM aM kM iM_stands iM_variables iM_rows iM_goals iM_differents iM_cases fM_from fM_to fM_whole fM_ways iM_plainRows fM_plainRow fM_kept fM_goalOver fM_goalUnder fM_goalMax fM_different)) s.heap.size = A at hD hE ⊢
  have hA : ∀ q : Nat, s.heap.size ≤ q → A q := fun q h => by rw [← hAe]; exact Or.inr h
  have hS : va_S A s.heap s.heap [] := va_S.rf
  have hl := lv_entry ([.ref (hX 0), .int p1]) (n := 6) (Nat.le_of_ble_eq_true rfl)
  rw [lg_entry_eq]
  generalize (lg_sl ([.ref (hX 0), .int p1]) ++ List.replicate (6 - (lg_sl ([.ref (hX 0), .int p1])).length) Slot.unset).toArray = ls at hl ⊢
  have hl : lv_has ls 6 [(0, .ref (hX 0)), (1, .int p1)] := hl
  refine W.widen (k := (nX_sheet / 32 - (nX_sheet / 32))) (n := (2 * nX_sheet - (2 * nX_sheet))) (Nat.zero_le _) (Nat.zero_le _) ?_
  refine lv_aload_n hx hb dX11_putGoal_0 rfl (lv_at hl 0 rfl) ?_
  refine lv_aload_n hx hb dX11_putGoal_1 rfl (lv_at hl 0 rfl) ?_
  refine va_get (D := (dC, dI)) (ci := 11) (v := .ref (hM 0)) (C := RX11) (T := TX11) (N := 11) hx hb hts iwsMX11_putGoal_in11 hown hK hP 0 rfl rfl 2 (by decide) (hts _ hm_m_X11_putGoal_0) (fun _ h9 => h9) rfl dX11_putGoal_2 ?_
  refine va_get (D := (dC, dI)) (ci := 1) (v := .ref (aM 8)) (C := RX1) (T := TX1) (N := 17) hx hb hts iwsMX11_putGoal_in1 hown hK hP 3 rfl rfl 15 (by decide) (hts (.fieldLink RX11 126 "OptimaWorks$Model" "goalMax" "[Z") (by decide +kernel)) (fun _ h9 => h9) rfl dX11_putGoal_5 ?_
  refine lv_iload_n hx hb dX11_putGoal_8 rfl (lv_at hl 1 rfl) ?_
  refine va_zald (cA := kM 8) (n := 3) (f := fM_goalMax) hx hb hK hP 12 10 rfl rfl (vp_in_iff.mpr ⟨b_p1.1, (Int.lt_of_le_of_lt (b_p1.2) (by decide))⟩) dX11_putGoal_9 ?_
  refine lv_topi (fun v1 hv1 => ?_)
  clear hv1
  refine lv_if_eq (tgt := 19) hx hb dX11_putGoal_10 (by decide) (fun c_10 => ?_) (fun c_10 => ?_)
  · have t_10 : v1.toInt = 0 := toI_eq c_10 rfl (by decide : (0 : Int32).toInt = 0)
    obtain ⟨qS331, hR331, hSS331⟩ := hE.2.2.2 19 _ rfl
    refine lv_ldcwS hx hb hown hR331 dX11_putGoal_19 ?_
    refine W.known (fun hz0 hn0 => ?_)
    have hS0 := hS.1
    have p9 := cj_2_0 (WX hX aX kX hT hM fX_ready fX_sheet dX_sheet nX_sheet iX_sheetLength xX_reader xX_solver xX_prover xX_values xX_clauses xX_nets) (WM hM aM kM iM_stands iM_variables iM_rows iM_goals iM_differents iM_cases fM_from fM_to fM_whole fM_ways iM_plainRows fM_plainRow fM_kept fM_goalOver fM_goalUnder fM_goalMax fM_different)
    have hPc := hP.mem (fun q h => p9.mem_iff.mpr (List.mem_append_left _ h))
    have hDc := (hD.perm p9).left
    have hKc : va_K (dC, dI) vwCl (tX kX) _ := hK.sub [0, 1] rfl
    have hFc := freeG p9 hD hS hA
    refine va_callv (va_runV (As := [.ref qS331]) (rest := []) ⟨hx, hb, hml, hown, hts⟩ (Met.sV (m_X11_putText l dC dI hX aX kX hT hM fX_ready fX_sheet dX_sheet nX_sheet iX_sheetLength xX_reader xX_solver xX_prover xX_values xX_clauses xX_nets qS331 3 (fun j => ([109, 105, 110] : List Int32).getD j 0) b_fX_sheet (by first | exact b_nX_sheet | with_reducible assumption | exact ⟨by omega, by omega⟩ | assumption) (b_iX_sheetLength) (by first | with_reducible assumption | omega | (rw [iI_t (by omega) (by omega)]; omega) | (have h7 : (0 : Int32).toInt = 0 := (by decide); omega)) (by decide) s.heap.size) s.heap) (cwV 1 hts gwsMX11_putGoal_0 rfl rfl rfl (by decide +kernel) ⟨by first | decide +kernel | (dsimp only [headSpec] <;> omega), by first | decide +kernel | (dsimp only [headSpec] <;> omega)⟩) ⟨fun a U g mk q => by obtain ⟨q0, qh, q1, qP, qK, qD, qE⟩ := q; exact ⟨q0, qh, q1, qP, va_K.moved (u := U) (U := U.calling g mk a) (Vm.Alike.refl U.vm) qK, qD, qE.same rfl⟩, va_recv hK hP (ci := 11) (q0 := 0) rfl rfl, fun U hU9 hW => ⟨rfl, hU9, by rw [hU9], by rw [hU9]; exact hPc, va_K.moved hW.alike hKc, hDc.weaken (fun _ _ _ _ => trivial), by rw [hU9]; exact (((hSS331 : (StrE qS331 3 (fun j => ([109, 105, 110] : List Int32).getD j 0)) A s s.heap).kept hS.2.1).narrow (fun q h => hFc q h)).warm hW⟩⟩ rfl rfl hl.1 rfl (lv_room (Nat.le_of_ble_eq_true rfl)) dX11_putGoal_22 ⟨by first | decide +kernel | (dsimp only [headSpec] <;> omega), by first | decide +kernel | (dsimp only [headSpec] <;> omega)⟩) hS (fun q _ h => hFc q h) hFc (fun u t9_ H locs ht hvm hw9 hB9 hz1 hk1 hS => ?_)
    revert u hw9 hB9
    refine fz_p4 ?_
    intro fX_sheet_2 dX_sheet_2 nX_sheet_2 iX_sheetLength_2 hw9 hB9
    try dsimp only at hw9 hB9
    revert hw9
    refine fz_a6 ?_
    intro b_fX_sheet_2 b_nX_sheet_2 b_iX_sheetLength_2 b_shl_2 f2_0 f2_1
    have hg1 := hB9.1.2.2.1
    rw [ht] at hg1
    have hg2 := hB9.1.2.2.2
    rw [ht] at hg2
    have hSz := hB9.2
    rw [ht] at hSz
    have p8 := cj_2_0 (WX hX aX kX hT hM fX_ready fX_sheet_2 dX_sheet_2 nX_sheet_2 iX_sheetLength_2 xX_reader xX_solver xX_prover xX_values xX_clauses xX_nets) (WM hM aM kM iM_stands iM_variables iM_rows iM_goals iM_differents iM_cases fM_from fM_to fM_whole fM_ways iM_plainRows fM_plainRow fM_kept fM_goalOver fM_goalUnder fM_goalMax fM_different)
    obtain ⟨hP, hD⟩ := frameG p9 p8 hP hD hk1 hFc (fz_P ht hB9.1.1) hB9.1.2.1
    have hz9 : H.size ≤ s.heap.size + (nX_sheet_2 / 32 - (nX_sheet / 32)) := by (try dsimp only at hg1); omega
    have hn9 : nS s.heap.size H ≤ (2 * nX_sheet_2 - (2 * nX_sheet)) := by rw [hSz.n hS0]; (try dsimp only at hg2); omega
    refine W.tight (cells2 := (nX_sheet_2 / 32 - (nX_sheet / 32))) (slots2 := (2 * nX_sheet_2 - (2 * nX_sheet))) hz9 hn9 ?_
    clear hz9 hn9 hz0 hn0 hS0 hSz hg1 hg2
    refine lv_iload_n hx hb dX11_putGoal_25 rfl (lv_at hl 1 rfl) ?_
    refine lv_bipush (v := 9) hx hb dX11_putGoal_26 (by decide) ?_
    refine lv_imul hx hb dX11_putGoal_28 ?_
    refine lv_topi (fun y3 hy3 => ?_)
    obtain rfl : (iI (p1.toInt * 9)) = y3 := (hy3.trans (iI_mul2 (iI_of _) (by decide : (9 : Int32) = iI 9))).symm
    refine lv_istore_n hx hb dX11_putGoal_29 rfl hl (by decide) rfl (fun ls (hl : lv_has ls _ ([(2, .int (iI (p1.toInt * 9))), (0, .ref (hX 0)), (1, .int p1)])) => ?_)
    refine lv_iconst (v := 1) hx hb dX11_putGoal_30 (by decide) ?_
    refine lv_istore_n hx hb dX11_putGoal_31 rfl hl (by decide) rfl (fun ls (hl : lv_has ls _ ([(3, .int 1), (2, .int (iI (p1.toInt * 9))), (0, .ref (hX 0)), (1, .int p1)])) => ?_)
    refine lv_iconst (v := 0) hx hb dX11_putGoal_32 (by decide) ?_
    refine lv_istore hx hb dX11_putGoal_33 hl (by decide) rfl (fun ls (hl : lv_has ls _ ([(4, .int 0), (3, .int 1), (2, .int (iI (p1.toInt * 9))), (0, .ref (hX 0)), (1, .int p1)])) => ?_)
    have hl : lv_has _ _ ([(4, .int 0), (3, .int 1), (2, .int (iI (p1.toInt * 9))), (0, .ref (hX 0)), (1, .int p1)]) := lv_sub hl [0, 1, 2, 3, 4] rfl
    refine (fun (loop : ∀ (n9 : Nat) (fX_sheet_x35 : Nat → Int32) (dX_sheet_x35 : Nat) (nX_sheet_x35 : Nat) (iX_sheetLength_x35 : Int32) (l4_x35 : Int32) (l3_x35 : Int32) (H : Heap) (locs : List Loc) (ls : Array Slot), (∀ q : Nat, (-128) ≤ (fX_sheet_x35 q).toInt ∧ (fX_sheet_x35 q).toInt ≤ 127) → (64 ≤ nX_sheet_x35 ∧ nX_sheet_x35 ≤ 60000) → (0 ≤ iX_sheetLength_x35.toInt ∧ iX_sheetLength_x35.toInt ≤ 30000) → (0 ≤ l4_x35.toInt ∧ l4_x35.toInt ≤ 8) → (0 ≤ l3_x35.toInt ∧ l3_x35.toInt ≤ 1) → (iX_sheetLength_x35.toInt ≤ ((nX_sheet_x35 : Nat) : Int)) → (iX_sheetLength.toInt ≤ iX_sheetLength_x35.toInt) → (nX_sheet ≤ nX_sheet_x35) → (8 - l4_x35.toInt < ((n9 : Nat) : Int)) → va_P (dC, dI) vwCl (WX hX aX kX hT hM fX_ready fX_sheet_x35 dX_sheet_x35 nX_sheet_x35 iX_sheetLength_x35 xX_reader xX_solver xX_prover xX_values xX_clauses xX_nets ++ (WM hM aM kM iM_stands iM_variables iM_rows iM_goals iM_differents iM_cases fM_from fM_to fM_whole fM_ways iM_plainRows fM_plainRow fM_kept fM_goalOver fM_goalUnder fM_goalMax fM_different)) H → va_D A (WX hX aX kX hT hM fX_ready fX_sheet_x35 dX_sheet_x35 nX_sheet_x35 iX_sheetLength_x35 xX_reader xX_solver xX_prover xX_values xX_clauses xX_nets ++ (WM hM aM kM iM_stands iM_variables iM_rows iM_goals iM_differents iM_cases fM_from fM_to fM_whole fM_ways iM_plainRows fM_plainRow fM_kept fM_goalOver fM_goalUnder fM_goalMax fM_different)) → va_S A s.heap H locs → lv_has ls 6 [(4, .int l4_x35), (3, .int l3_x35), (2, .int (iI (p1.toInt * 9))), (0, .ref (hX 0)), (1, .int p1)] → W p l e _ s m _ below meth c H locs (nX_sheet_x35 / 32 - (nX_sheet / 32)) (2 * nX_sheet_x35 - (2 * nX_sheet)) _ (F0 m 35 ls [])) => loop (9) fX_sheet_2 dX_sheet_2 nX_sheet_2 iX_sheetLength_2 0 1 _ _ _ b_fX_sheet_2 (by first | exact b_nX_sheet_2 | with_reducible assumption | exact ⟨by omega, by omega⟩ | assumption) (b_iX_sheetLength_2) (show 0 ≤ (0 : Int32).toInt ∧ (0 : Int32).toInt ≤ 8 from by decide) (show 0 ≤ (1 : Int32).toInt ∧ (1 : Int32).toInt ≤ 1 from by decide) (by first | with_reducible assumption | omega | (rw [iI_t (by omega) (by omega)]; omega) | (have h7 : (0 : Int32).toInt = 0 := (by decide); omega)) (show iX_sheetLength.toInt ≤ iX_sheetLength_2.toInt from by omega) (show nX_sheet ≤ nX_sheet_2 from by omega) ((by have e9 : (0 : Int32).toInt = 0 := (by decide : (0 : Int32).toInt = 0); omega)) hP hD hS hl) ?_
    intro n9
    induction n9 with
    | zero => intro fX_sheet_x35 dX_sheet_x35 nX_sheet_x35 iX_sheetLength_x35 l4_x35 l3_x35 H locs ls b_fX_sheet_x35 b_nX_sheet_x35 b_iX_sheetLength_x35 b_l4_x35 b_l3_x35 b_shl_x35 hlx hgm0_x35 hf9; exact False.elim (by omega)
    | succ n9 ihx35 =>
      intro fX_sheet_x35 dX_sheet_x35 nX_sheet_x35 iX_sheetLength_x35 l4_x35 l3_x35 H locs ls b_fX_sheet_x35 b_nX_sheet_x35 b_iX_sheetLength_x35 b_l4_x35 b_l3_x35 b_shl_x35 hlx hgm0_x35 hfx35 hP hD hS hl
      refine lv_iload hx hb dX11_putGoal_35 (lv_at hl 0 rfl) ?_
      refine lv_aload_n hx hb dX11_putGoal_37 rfl (lv_at hl 3 rfl) ?_
      refine va_get (D := (dC, dI)) (ci := 11) (v := .ref (hM 0)) (C := RX11) (T := TX11) (N := 11) hx hb hts iwsMX11_putGoal_in11 hown hK hP 0 rfl rfl 2 (by decide) (hts _ hm_m_X11_putGoal_0) (fun _ h9 => h9) rfl dX11_putGoal_38 ?_
      refine va_get (D := (dC, dI)) (ci := 1) (v := .int iM_variables) (C := RX1) (T := TX1) (N := 17) hx hb hts iwsMX11_putGoal_in1 hown hK hP 3 rfl rfl 1 (by decide) (hts _ hm_m_X11_putGoal_1) (fun _ h9 => h9) rfl dX11_putGoal_41 ?_
      refine lv_icmp_ge (tgt := 99) hx hb dX11_putGoal_44 (by decide) (fun c_44 => ?_) (fun c_44 => ?_)
      · have t_44 : l4_x35.toInt ≥ iM_variables.toInt := toI_ge c_44 rfl rfl
        refine lv_aload_n hx hb dX11_putGoal_99 rfl (lv_at hl 3 rfl) ?_
        refine va_get (D := (dC, dI)) (ci := 11) (v := .ref (hM 0)) (C := RX11) (T := TX11) (N := 11) hx hb hts iwsMX11_putGoal_in11 hown hK hP 0 rfl rfl 2 (by decide) (hts _ hm_m_X11_putGoal_0) (fun _ h9 => h9) rfl dX11_putGoal_100 ?_
        refine va_get (D := (dC, dI)) (ci := 1) (v := .ref (aM 6)) (C := RX1) (T := TX1) (N := 17) hx hb hts iwsMX11_putGoal_in1 hown hK hP 3 rfl rfl 13 (by decide) (hts _ hm_m_X11_putGoal_2) (fun _ h9 => h9) rfl dX11_putGoal_103 ?_
        refine lv_iload_n hx hb dX11_putGoal_106 rfl (lv_at hl 2 rfl) ?_
        refine va_iald (cA := kM 6) (n := 27) (f := fM_goalOver) hx hb hK hP 10 8 rfl rfl (vp_iI (Int.le_trans (by decide) (Int.mul_le_mul_of_nonneg_right (b_p1.1) (by decide))) (Int.lt_of_le_of_lt (Int.mul_le_mul_of_nonneg_right (b_p1.2) (by decide)) (by decide)) (by decide)) dX11_putGoal_107 ?_
        refine lv_topi (fun v92 hv92 => ?_)
        clear hv92
        refine lv_istore hx hb dX11_putGoal_108 hl (by decide) rfl (fun ls (hl : lv_has ls _ ([(4, .int v92), (3, .int l3_x35), (2, .int (iI (p1.toInt * 9))), (0, .ref (hX 0)), (1, .int p1)])) => ?_)
        refine lv_iload_n hx hb dX11_putGoal_110 rfl (lv_at hl 1 rfl) ?_
        refine W.known (fun hzk hnk => ?_)
        refine W.widen (k := 1875) (n := 120000) (by omega) (by omega) ?_
        refine W.cut (pc := 187) (fun H locs ls stk => ∃ (fX_sheet_j45 : Nat → Int32) (dX_sheet_j45 : Nat) (nX_sheet_j45 : Nat) (iX_sheetLength_j45 : Int32), (∀ q : Nat, (-128) ≤ (fX_sheet_j45 q).toInt ∧ (fX_sheet_j45 q).toInt ≤ 127) ∧ (64 ≤ nX_sheet_j45 ∧ nX_sheet_j45 ≤ 60000) ∧ (0 ≤ iX_sheetLength_j45.toInt ∧ iX_sheetLength_j45.toInt ≤ 30000) ∧ (iX_sheetLength_j45.toInt ≤ ((nX_sheet_j45 : Nat) : Int)) ∧ (iX_sheetLength.toInt ≤ iX_sheetLength_j45.toInt) ∧ (nX_sheet ≤ nX_sheet_j45) ∧ (H.size + (nX_sheet / 32) ≤ s.heap.size + (nX_sheet_j45 / 32) ∧ nS s.heap.size H + (2 * nX_sheet) ≤ (2 * nX_sheet_j45)) ∧  stk = [] ∧ va_P (dC, dI) vwCl (WX hX aX kX hT hM fX_ready fX_sheet_j45 dX_sheet_j45 nX_sheet_j45 iX_sheetLength_j45 xX_reader xX_solver xX_prover xX_values xX_clauses xX_nets ++ (WM hM aM kM iM_stands iM_variables iM_rows iM_goals iM_differents iM_cases fM_from fM_to fM_whole fM_ways iM_plainRows fM_plainRow fM_kept fM_goalOver fM_goalUnder fM_goalMax fM_different)) H ∧ va_D A (WX hX aX kX hT hM fX_ready fX_sheet_j45 dX_sheet_j45 nX_sheet_j45 iX_sheetLength_j45 xX_reader xX_solver xX_prover xX_values xX_clauses xX_nets ++ (WM hM aM kM iM_stands iM_variables iM_rows iM_goals iM_differents iM_cases fM_from fM_to fM_whole fM_ways iM_plainRows fM_plainRow fM_kept fM_goalOver fM_goalUnder fM_goalMax fM_different)) ∧ va_S A s.heap H locs ∧ lv_has ls 6 [(4, .int v92), (3, .int l3_x35), (2, .int (iI (p1.toInt * 9))), (0, .ref (hX 0)), (1, .int p1)]) (fun join45 => ?_) ?_
        · refine W.tight (cells2 := (nX_sheet_x35 / 32 - (nX_sheet / 32))) (slots2 := (2 * nX_sheet_x35 - (2 * nX_sheet))) hzk hnk ?_
          refine lv_if_eq (tgt := 138) hx hb dX11_putGoal_111 (by decide) (fun c_111 => ?_) (fun c_111 => ?_)
          · have t_111 : l3_x35.toInt = 0 := toI_eq c_111 rfl (by decide : (0 : Int32).toInt = 0)
            refine lv_iload hx hb dX11_putGoal_138 (lv_at hl 0 rfl) ?_
            refine lv_if_eq (tgt := 187) hx hb dX11_putGoal_140 (by decide) (fun c_140 => ?_) (fun c_140 => ?_)
            · have t_140 : v92.toInt = 0 := toI_eq c_140 rfl (by decide : (0 : Int32).toInt = 0)
              have hl : lv_has _ _ ([(4, .int v92), (3, .int l3_x35), (2, .int (iI (p1.toInt * 9))), (0, .ref (hX 0)), (1, .int p1)]) := lv_sub hl [0, 1, 2, 3, 4] rfl
              refine W.known (fun hza hna => ?_)
              refine W.widen (k := 1875) (n := 120000) (by omega) (by omega) ?_
              exact join45 _ _ _ _ ⟨fX_sheet_x35, dX_sheet_x35, nX_sheet_x35, iX_sheetLength_x35, b_fX_sheet_x35, (by first | exact b_nX_sheet_x35 | with_reducible assumption | exact ⟨by omega, by omega⟩ | assumption), (b_iX_sheetLength_x35), (by first | with_reducible assumption | omega | (rw [iI_t (by omega) (by omega)]; omega) | (have h7 : (0 : Int32).toInt = 0 := (by decide); omega)), (show iX_sheetLength.toInt ≤ iX_sheetLength_x35.toInt from by omega), (show nX_sheet ≤ nX_sheet_x35 from by omega), ⟨by omega, by omega⟩, rfl, hP, hD, hS, hl⟩
            · have t_140 : ¬ v92.toInt = 0 := toI_neq c_140 rfl (by decide : (0 : Int32).toInt = 0)
              refine lv_aload_n hx hb dX11_putGoal_143 rfl (lv_at hl 3 rfl) ?_
              refine lv_iload hx hb dX11_putGoal_144 (lv_at hl 0 rfl) ?_
              refine lv_if_ge (tgt := 155) hx hb dX11_putGoal_146 (by decide) (fun c_146 => ?_) (fun c_146 => ?_)
              · have t_146 : v92.toInt ≥ 0 := toI_ge c_146 rfl (by decide : (0 : Int32).toInt = 0)
                obtain ⟨qS335, hR335, hSS335⟩ := hE.2.2.2 21 _ rfl
                refine lv_ldcwS hx hb hown hR335 dX11_putGoal_155 ?_
                refine W.known (fun hz0 hn0 => ?_)
                have hS0 := hS.1
                have p9 := cj_2_0 (WX hX aX kX hT hM fX_ready fX_sheet_x35 dX_sheet_x35 nX_sheet_x35 iX_sheetLength_x35 xX_reader xX_solver xX_prover xX_values xX_clauses xX_nets) (WM hM aM kM iM_stands iM_variables iM_rows iM_goals iM_differents iM_cases fM_from fM_to fM_whole fM_ways iM_plainRows fM_plainRow fM_kept fM_goalOver fM_goalUnder fM_goalMax fM_different)
                have hPc := hP.mem (fun q h => p9.mem_iff.mpr (List.mem_append_left _ h))
                have hDc := (hD.perm p9).left
                have hKc : va_K (dC, dI) vwCl (tX kX) _ := hK.sub [0, 1] rfl
                have hFc := freeG p9 hD hS hA
                refine va_callv (va_runV (As := [.ref qS335]) (rest := []) ⟨hx, hb, hml, hown, hts⟩ (Met.sV (m_X11_putText l dC dI hX aX kX hT hM fX_ready fX_sheet_x35 dX_sheet_x35 nX_sheet_x35 iX_sheetLength_x35 xX_reader xX_solver xX_prover xX_values xX_clauses xX_nets qS335 3 (fun j => ([32, 43, 32] : List Int32).getD j 0) b_fX_sheet_x35 (by first | exact b_nX_sheet_x35 | with_reducible assumption | exact ⟨by omega, by omega⟩ | assumption) (b_iX_sheetLength_x35) (by first | with_reducible assumption | omega | (rw [iI_t (by omega) (by omega)]; omega) | (have h7 : (0 : Int32).toInt = 0 := (by decide); omega)) (by decide) H.size) H) (cwV 1 hts gwsMX11_putGoal_0 rfl rfl rfl (by decide +kernel) ⟨by first | decide +kernel | (dsimp only [headSpec] <;> omega), by first | decide +kernel | (dsimp only [headSpec] <;> omega)⟩) ⟨fun a U g mk q => by obtain ⟨q0, qh, q1, qP, qK, qD, qE⟩ := q; exact ⟨q0, qh, q1, qP, va_K.moved (u := U) (U := U.calling g mk a) (Vm.Alike.refl U.vm) qK, qD, qE.same rfl⟩, va_recv hK hP (ci := 11) (q0 := 0) rfl rfl, fun U hU9 hW => ⟨rfl, hU9, by rw [hU9], by rw [hU9]; exact hPc, va_K.moved hW.alike hKc, hDc.weaken (fun _ _ _ _ => trivial), by rw [hU9]; exact (((hSS335 : (StrE qS335 3 (fun j => ([32, 43, 32] : List Int32).getD j 0)) A s s.heap).kept hS.2.1).narrow (fun q h => hFc q h)).warm hW⟩⟩ rfl rfl hl.1 rfl (lv_room (Nat.le_of_ble_eq_true rfl)) dX11_putGoal_158 ⟨by first | decide +kernel | (dsimp only [headSpec] <;> omega), by first | decide +kernel | (dsimp only [headSpec] <;> omega)⟩) hS (fun q _ h => hFc q h) hFc (fun u t9_ H locs ht hvm hw9 hB9 hz1 hk1 hS => ?_)
                revert u hw9 hB9
                refine fz_p4 ?_
                intro fX_sheet_106 dX_sheet_106 nX_sheet_106 iX_sheetLength_106 hw9 hB9
                try dsimp only at hw9 hB9
                revert hw9
                refine fz_a6 ?_
                intro b_fX_sheet_106 b_nX_sheet_106 b_iX_sheetLength_106 b_shl_106 f106_0 f106_1
                have hg1 := hB9.1.2.2.1
                rw [ht] at hg1
                have hg2 := hB9.1.2.2.2
                rw [ht] at hg2
                have hSz := hB9.2
                rw [ht] at hSz
                have p8 := cj_2_0 (WX hX aX kX hT hM fX_ready fX_sheet_106 dX_sheet_106 nX_sheet_106 iX_sheetLength_106 xX_reader xX_solver xX_prover xX_values xX_clauses xX_nets) (WM hM aM kM iM_stands iM_variables iM_rows iM_goals iM_differents iM_cases fM_from fM_to fM_whole fM_ways iM_plainRows fM_plainRow fM_kept fM_goalOver fM_goalUnder fM_goalMax fM_different)
                obtain ⟨hP, hD⟩ := frameG p9 p8 hP hD hk1 hFc (fz_P ht hB9.1.1) hB9.1.2.1
                have hz9 : H.size ≤ s.heap.size + (nX_sheet_106 / 32 - (nX_sheet / 32)) := by (try dsimp only at hg1); omega
                have hn9 : nS s.heap.size H ≤ (2 * nX_sheet_106 - (2 * nX_sheet)) := by rw [hSz.n hS0]; (try dsimp only at hg2); omega
                refine W.tight (cells2 := (nX_sheet_106 / 32 - (nX_sheet / 32))) (slots2 := (2 * nX_sheet_106 - (2 * nX_sheet))) hz9 hn9 ?_
                clear hz9 hn9 hz0 hn0 hS0 hSz hg1 hg2
                refine lv_aload_n hx hb dX11_putGoal_161 rfl (lv_at hl 3 rfl) ?_
                refine lv_iload hx hb dX11_putGoal_162 (lv_at hl 0 rfl) ?_
                refine W.known (fun hzk hnk => ?_)
                refine W.widen (k := 1875) (n := 120000) (by omega) (by omega) ?_
                refine W.cut (pc := 175) (fun H locs ls stk => ∃ (k0_j46 : Int32), (iX_sheetLength.toInt ≤ iX_sheetLength_106.toInt) ∧ (H.size + (nX_sheet / 32) ≤ s.heap.size + (nX_sheet_106 / 32) ∧ nS s.heap.size H + (2 * nX_sheet) ≤ (2 * nX_sheet_106)) ∧  stk = [.int k0_j46, .ref (hX 0)] ∧ va_P (dC, dI) vwCl (WX hX aX kX hT hM fX_ready fX_sheet_106 dX_sheet_106 nX_sheet_106 iX_sheetLength_106 xX_reader xX_solver xX_prover xX_values xX_clauses xX_nets ++ (WM hM aM kM iM_stands iM_variables iM_rows iM_goals iM_differents iM_cases fM_from fM_to fM_whole fM_ways iM_plainRows fM_plainRow fM_kept fM_goalOver fM_goalUnder fM_goalMax fM_different)) H ∧ va_D A (WX hX aX kX hT hM fX_ready fX_sheet_106 dX_sheet_106 nX_sheet_106 iX_sheetLength_106 xX_reader xX_solver xX_prover xX_values xX_clauses xX_nets ++ (WM hM aM kM iM_stands iM_variables iM_rows iM_goals iM_differents iM_cases fM_from fM_to fM_whole fM_ways iM_plainRows fM_plainRow fM_kept fM_goalOver fM_goalUnder fM_goalMax fM_different)) ∧ va_S A s.heap H locs ∧ lv_has ls 6 [(4, .int v92), (3, .int l3_x35), (2, .int (iI (p1.toInt * 9))), (0, .ref (hX 0)), (1, .int p1)]) (fun join46 => ?_) ?_
                · refine W.tight (cells2 := (nX_sheet_106 / 32 - (nX_sheet / 32))) (slots2 := (2 * nX_sheet_106 - (2 * nX_sheet))) hzk hnk ?_
                  refine lv_if_ge (tgt := 173) hx hb dX11_putGoal_164 (by decide) (fun c_164 => ?_) (fun c_164 => ?_)
                  · have t_164 : v92.toInt ≥ 0 := toI_ge c_164 rfl (by decide : (0 : Int32).toInt = 0)
                    refine lv_iload hx hb dX11_putGoal_173 (lv_at hl 0 rfl) ?_
                    have hl : lv_has _ _ ([(4, .int v92), (3, .int l3_x35), (2, .int (iI (p1.toInt * 9))), (0, .ref (hX 0)), (1, .int p1)]) := lv_sub hl [0, 1, 2, 3, 4] rfl
                    refine W.known (fun hza hna => ?_)
                    refine W.widen (k := 1875) (n := 120000) (by omega) (by omega) ?_
                    exact join46 _ _ _ _ ⟨v92, (show iX_sheetLength.toInt ≤ iX_sheetLength_106.toInt from by omega), ⟨by omega, by omega⟩, rfl, hP, hD, hS, hl⟩
                  · have t_164 : ¬ v92.toInt ≥ 0 := toI_nge c_164 rfl (by decide : (0 : Int32).toInt = 0)
                    refine lv_iload hx hb dX11_putGoal_167 (lv_at hl 0 rfl) ?_
                    refine lv_ineg hx hb dX11_putGoal_169 ?_
                    refine lv_topi (fun y108 hy108 => ?_)
                    obtain rfl : (iI (-v92.toInt)) = y108 := (hy108.trans (iI_neg2 (iI_of _))).symm
                    refine lv_goto (tgt := 175) hx hb dX11_putGoal_170 (by decide) ?_
                    have hl : lv_has _ _ ([(4, .int v92), (3, .int l3_x35), (2, .int (iI (p1.toInt * 9))), (0, .ref (hX 0)), (1, .int p1)]) := lv_sub hl [0, 1, 2, 3, 4] rfl
                    refine W.known (fun hza hna => ?_)
                    refine W.widen (k := 1875) (n := 120000) (by omega) (by omega) ?_
                    exact join46 _ _ _ _ ⟨(iI (-v92.toInt)), (show iX_sheetLength.toInt ≤ iX_sheetLength_106.toInt from by omega), ⟨by omega, by omega⟩, rfl, hP, hD, hS, hl⟩
                · rintro H locs ls stk ⟨k0_j46, hjx, ⟨hzj, hnj⟩, rfl, hP, hD, hS, hl⟩
                  refine W.tight (cells2 := (nX_sheet_106 / 32 - (nX_sheet / 32))) (slots2 := (2 * nX_sheet_106 - (2 * nX_sheet))) (tg1 hzj hS.1) (tg2 hnj) ?_
                  refine lv_aload_n hx hb dX11_putGoal_175 rfl (lv_at hl 3 rfl) ?_
                  refine va_get (D := (dC, dI)) (ci := 11) (v := .ref (hM 0)) (C := RX11) (T := TX11) (N := 11) hx hb hts iwsMX11_putGoal_in11 hown hK hP 0 rfl rfl 2 (by decide) (hts _ hm_m_X11_putGoal_0) (fun _ h9 => h9) rfl dX11_putGoal_176 ?_
                  refine va_get (D := (dC, dI)) (ci := 1) (v := .ref (aM 7)) (C := RX1) (T := TX1) (N := 17) hx hb hts iwsMX11_putGoal_in1 hown hK hP 3 rfl rfl 14 (by decide) (hts _ hm_m_X11_putGoal_3) (fun _ h9 => h9) rfl dX11_putGoal_179 ?_
                  refine lv_iload_n hx hb dX11_putGoal_182 rfl (lv_at hl 2 rfl) ?_
                  refine va_iald (cA := kM 7) (n := 27) (f := fM_goalUnder) hx hb hK hP 11 9 rfl rfl (vp_iI (Int.le_trans (by decide) (Int.mul_le_mul_of_nonneg_right (b_p1.1) (by decide))) (Int.lt_of_le_of_lt (Int.mul_le_mul_of_nonneg_right (b_p1.2) (by decide)) (by decide)) (by decide)) dX11_putGoal_183 ?_
                  refine lv_topi (fun v109 hv109 => ?_)
                  clear hv109
                  refine W.known (fun hz0 hn0 => ?_)
                  have hS0 := hS.1
                  have p9 := cj_2_0 (WX hX aX kX hT hM fX_ready fX_sheet_106 dX_sheet_106 nX_sheet_106 iX_sheetLength_106 xX_reader xX_solver xX_prover xX_values xX_clauses xX_nets) (WM hM aM kM iM_stands iM_variables iM_rows iM_goals iM_differents iM_cases fM_from fM_to fM_whole fM_ways iM_plainRows fM_plainRow fM_kept fM_goalOver fM_goalUnder fM_goalMax fM_different)
                  have hPc := hP.mem (fun q h => p9.mem_iff.mpr (List.mem_append_left _ h))
                  have hDc := (hD.perm p9).left
                  have hKc : va_K (dC, dI) vwCl (tX kX) _ := hK.sub [0, 1] rfl
                  have hFc := freeG p9 hD hS hA
                  refine va_callv (va_runV (As := [.int k0_j46, .int v109]) (rest := []) ⟨hx, hb, hml, hown, hts⟩ (Met.sV (m_X11_putRatio l dC dI hX aX kX hT hM fX_ready fX_sheet_106 dX_sheet_106 nX_sheet_106 iX_sheetLength_106 xX_reader xX_solver xX_prover xX_values xX_clauses xX_nets k0_j46 v109 b_fX_sheet_106 (by first | exact b_nX_sheet_106 | with_reducible assumption | exact ⟨by omega, by omega⟩ | assumption) (b_iX_sheetLength_106) (by first | with_reducible assumption | omega | (rw [iI_t (by omega) (by omega)]; omega) | (have h7 : (0 : Int32).toInt = 0 := (by decide); omega)) H.size) H) (cwV 2 hts gwsMX11_putGoal_3 rfl rfl rfl (by decide +kernel) ⟨by first | decide +kernel | (dsimp only [headSpec] <;> omega), by first | decide +kernel | (dsimp only [headSpec] <;> omega)⟩) ⟨fun a U g mk q => by obtain ⟨q0, qh, q1, qP, qK, qD⟩ := q; exact ⟨q0, qh, q1, qP, va_K.moved (u := U) (U := U.calling g mk a) (Vm.Alike.refl U.vm) qK, qD⟩, va_recv hK hP (ci := 11) (q0 := 0) rfl rfl, fun U hU9 hW => ⟨rfl, hU9, by rw [hU9], by rw [hU9]; exact hPc, va_K.moved hW.alike hKc, hDc.weaken (fun _ _ _ _ => trivial)⟩⟩ rfl rfl hl.1 rfl (lv_room (Nat.le_of_ble_eq_true rfl)) dX11_putGoal_184 ⟨by first | decide +kernel | (dsimp only [headSpec] <;> omega), by first | decide +kernel | (dsimp only [headSpec] <;> omega)⟩) hS (fun q _ h => hFc q h) hFc (fun u t9_ H locs ht hvm hw9 hB9 hz1 hk1 hS => ?_)
                  revert u hw9 hB9
                  refine fz_p4 ?_
                  intro fX_sheet_110 dX_sheet_110 nX_sheet_110 iX_sheetLength_110 hw9 hB9
                  try dsimp only at hw9 hB9
                  revert hw9
                  refine fz_a6 ?_
                  intro b_fX_sheet_110 b_nX_sheet_110 b_iX_sheetLength_110 b_shl_110 f110_0 f110_1
                  have hg1 := hB9.1.2.2.1
                  rw [ht] at hg1
                  have hg2 := hB9.1.2.2.2
                  rw [ht] at hg2
                  have hSz := hB9.2
                  rw [ht] at hSz
                  have p8 := cj_2_0 (WX hX aX kX hT hM fX_ready fX_sheet_110 dX_sheet_110 nX_sheet_110 iX_sheetLength_110 xX_reader xX_solver xX_prover xX_values xX_clauses xX_nets) (WM hM aM kM iM_stands iM_variables iM_rows iM_goals iM_differents iM_cases fM_from fM_to fM_whole fM_ways iM_plainRows fM_plainRow fM_kept fM_goalOver fM_goalUnder fM_goalMax fM_different)
                  obtain ⟨hP, hD⟩ := frameG p9 p8 hP hD hk1 hFc (fz_P ht hB9.1.1) hB9.1.2.1
                  have hz9 : H.size ≤ s.heap.size + (nX_sheet_110 / 32 - (nX_sheet / 32)) := by (try dsimp only at hg1); omega
                  have hn9 : nS s.heap.size H ≤ (2 * nX_sheet_110 - (2 * nX_sheet)) := by rw [hSz.n hS0]; (try dsimp only at hg2); omega
                  refine W.tight (cells2 := (nX_sheet_110 / 32 - (nX_sheet / 32))) (slots2 := (2 * nX_sheet_110 - (2 * nX_sheet))) hz9 hn9 ?_
                  clear hz9 hn9 hz0 hn0 hS0 hSz hg1 hg2
                  have hl : lv_has _ _ ([(4, .int v92), (3, .int l3_x35), (2, .int (iI (p1.toInt * 9))), (0, .ref (hX 0)), (1, .int p1)]) := lv_sub hl [0, 1, 2, 3, 4] rfl
                  refine W.known (fun hza hna => ?_)
                  refine W.widen (k := 1875) (n := 120000) (by omega) (by omega) ?_
                  exact join45 _ _ _ _ ⟨fX_sheet_110, dX_sheet_110, nX_sheet_110, iX_sheetLength_110, b_fX_sheet_110, (by first | exact b_nX_sheet_110 | with_reducible assumption | exact ⟨by omega, by omega⟩ | assumption), (b_iX_sheetLength_110), (by first | with_reducible assumption | omega | (rw [iI_t (by omega) (by omega)]; omega) | (have h7 : (0 : Int32).toInt = 0 := (by decide); omega)), (show iX_sheetLength.toInt ≤ iX_sheetLength_110.toInt from by omega), (show nX_sheet ≤ nX_sheet_110 from by omega), ⟨by omega, by omega⟩, rfl, hP, hD, hS, hl⟩
              · have t_146 : ¬ v92.toInt ≥ 0 := toI_nge c_146 rfl (by decide : (0 : Int32).toInt = 0)
                obtain ⟨qS333, hR333, hSS333⟩ := hE.2.2.2 20 _ rfl
                refine lv_ldcwS hx hb hown hR333 dX11_putGoal_149 ?_
                refine lv_goto (tgt := 158) hx hb dX11_putGoal_152 (by decide) ?_
                refine W.known (fun hz0 hn0 => ?_)
                have hS0 := hS.1
                have p9 := cj_2_0 (WX hX aX kX hT hM fX_ready fX_sheet_x35 dX_sheet_x35 nX_sheet_x35 iX_sheetLength_x35 xX_reader xX_solver xX_prover xX_values xX_clauses xX_nets) (WM hM aM kM iM_stands iM_variables iM_rows iM_goals iM_differents iM_cases fM_from fM_to fM_whole fM_ways iM_plainRows fM_plainRow fM_kept fM_goalOver fM_goalUnder fM_goalMax fM_different)
                have hPc := hP.mem (fun q h => p9.mem_iff.mpr (List.mem_append_left _ h))
                have hDc := (hD.perm p9).left
                have hKc : va_K (dC, dI) vwCl (tX kX) _ := hK.sub [0, 1] rfl
                have hFc := freeG p9 hD hS hA
                refine va_callv (va_runV (As := [.ref qS333]) (rest := []) ⟨hx, hb, hml, hown, hts⟩ (Met.sV (m_X11_putText l dC dI hX aX kX hT hM fX_ready fX_sheet_x35 dX_sheet_x35 nX_sheet_x35 iX_sheetLength_x35 xX_reader xX_solver xX_prover xX_values xX_clauses xX_nets qS333 3 (fun j => ([32, 45, 32] : List Int32).getD j 0) b_fX_sheet_x35 (by first | exact b_nX_sheet_x35 | with_reducible assumption | exact ⟨by omega, by omega⟩ | assumption) (b_iX_sheetLength_x35) (by first | with_reducible assumption | omega | (rw [iI_t (by omega) (by omega)]; omega) | (have h7 : (0 : Int32).toInt = 0 := (by decide); omega)) (by decide) H.size) H) (cwV 1 hts gwsMX11_putGoal_0 rfl rfl rfl (by decide +kernel) ⟨by first | decide +kernel | (dsimp only [headSpec] <;> omega), by first | decide +kernel | (dsimp only [headSpec] <;> omega)⟩) ⟨fun a U g mk q => by obtain ⟨q0, qh, q1, qP, qK, qD, qE⟩ := q; exact ⟨q0, qh, q1, qP, va_K.moved (u := U) (U := U.calling g mk a) (Vm.Alike.refl U.vm) qK, qD, qE.same rfl⟩, va_recv hK hP (ci := 11) (q0 := 0) rfl rfl, fun U hU9 hW => ⟨rfl, hU9, by rw [hU9], by rw [hU9]; exact hPc, va_K.moved hW.alike hKc, hDc.weaken (fun _ _ _ _ => trivial), by rw [hU9]; exact (((hSS333 : (StrE qS333 3 (fun j => ([32, 45, 32] : List Int32).getD j 0)) A s s.heap).kept hS.2.1).narrow (fun q h => hFc q h)).warm hW⟩⟩ rfl rfl hl.1 rfl (lv_room (Nat.le_of_ble_eq_true rfl)) dX11_putGoal_158 ⟨by first | decide +kernel | (dsimp only [headSpec] <;> omega), by first | decide +kernel | (dsimp only [headSpec] <;> omega)⟩) hS (fun q _ h => hFc q h) hFc (fun u t9_ H locs ht hvm hw9 hB9 hz1 hk1 hS => ?_)
                revert u hw9 hB9
                refine fz_p4 ?_
                intro fX_sheet_111 dX_sheet_111 nX_sheet_111 iX_sheetLength_111 hw9 hB9
                try dsimp only at hw9 hB9
                revert hw9
                refine fz_a6 ?_
                intro b_fX_sheet_111 b_nX_sheet_111 b_iX_sheetLength_111 b_shl_111 f111_0 f111_1
                have hg1 := hB9.1.2.2.1
                rw [ht] at hg1
                have hg2 := hB9.1.2.2.2
                rw [ht] at hg2
                have hSz := hB9.2
                rw [ht] at hSz
                have p8 := cj_2_0 (WX hX aX kX hT hM fX_ready fX_sheet_111 dX_sheet_111 nX_sheet_111 iX_sheetLength_111 xX_reader xX_solver xX_prover xX_values xX_clauses xX_nets) (WM hM aM kM iM_stands iM_variables iM_rows iM_goals iM_differents iM_cases fM_from fM_to fM_whole fM_ways iM_plainRows fM_plainRow fM_kept fM_goalOver fM_goalUnder fM_goalMax fM_different)
                obtain ⟨hP, hD⟩ := frameG p9 p8 hP hD hk1 hFc (fz_P ht hB9.1.1) hB9.1.2.1
                have hz9 : H.size ≤ s.heap.size + (nX_sheet_111 / 32 - (nX_sheet / 32)) := by (try dsimp only at hg1); omega
                have hn9 : nS s.heap.size H ≤ (2 * nX_sheet_111 - (2 * nX_sheet)) := by rw [hSz.n hS0]; (try dsimp only at hg2); omega
                refine W.tight (cells2 := (nX_sheet_111 / 32 - (nX_sheet / 32))) (slots2 := (2 * nX_sheet_111 - (2 * nX_sheet))) hz9 hn9 ?_
                clear hz9 hn9 hz0 hn0 hS0 hSz hg1 hg2
                refine lv_aload_n hx hb dX11_putGoal_161 rfl (lv_at hl 3 rfl) ?_
                refine lv_iload hx hb dX11_putGoal_162 (lv_at hl 0 rfl) ?_
                refine W.known (fun hzk hnk => ?_)
                refine W.widen (k := 1875) (n := 120000) (by omega) (by omega) ?_
                refine W.cut (pc := 175) (fun H locs ls stk => ∃ (k0_j47 : Int32), (iX_sheetLength.toInt ≤ iX_sheetLength_111.toInt) ∧ (H.size + (nX_sheet / 32) ≤ s.heap.size + (nX_sheet_111 / 32) ∧ nS s.heap.size H + (2 * nX_sheet) ≤ (2 * nX_sheet_111)) ∧  stk = [.int k0_j47, .ref (hX 0)] ∧ va_P (dC, dI) vwCl (WX hX aX kX hT hM fX_ready fX_sheet_111 dX_sheet_111 nX_sheet_111 iX_sheetLength_111 xX_reader xX_solver xX_prover xX_values xX_clauses xX_nets ++ (WM hM aM kM iM_stands iM_variables iM_rows iM_goals iM_differents iM_cases fM_from fM_to fM_whole fM_ways iM_plainRows fM_plainRow fM_kept fM_goalOver fM_goalUnder fM_goalMax fM_different)) H ∧ va_D A (WX hX aX kX hT hM fX_ready fX_sheet_111 dX_sheet_111 nX_sheet_111 iX_sheetLength_111 xX_reader xX_solver xX_prover xX_values xX_clauses xX_nets ++ (WM hM aM kM iM_stands iM_variables iM_rows iM_goals iM_differents iM_cases fM_from fM_to fM_whole fM_ways iM_plainRows fM_plainRow fM_kept fM_goalOver fM_goalUnder fM_goalMax fM_different)) ∧ va_S A s.heap H locs ∧ lv_has ls 6 [(4, .int v92), (3, .int l3_x35), (2, .int (iI (p1.toInt * 9))), (0, .ref (hX 0)), (1, .int p1)]) (fun join47 => ?_) ?_
                · refine W.tight (cells2 := (nX_sheet_111 / 32 - (nX_sheet / 32))) (slots2 := (2 * nX_sheet_111 - (2 * nX_sheet))) hzk hnk ?_
                  refine lv_if_ge (tgt := 173) hx hb dX11_putGoal_164 (by decide) (fun c_164 => ?_) (fun c_164 => ?_)
                  · have t_164 : v92.toInt ≥ 0 := toI_ge c_164 rfl (by decide : (0 : Int32).toInt = 0)
                    refine lv_iload hx hb dX11_putGoal_173 (lv_at hl 0 rfl) ?_
                    have hl : lv_has _ _ ([(4, .int v92), (3, .int l3_x35), (2, .int (iI (p1.toInt * 9))), (0, .ref (hX 0)), (1, .int p1)]) := lv_sub hl [0, 1, 2, 3, 4] rfl
                    refine W.known (fun hza hna => ?_)
                    refine W.widen (k := 1875) (n := 120000) (by omega) (by omega) ?_
                    exact join47 _ _ _ _ ⟨v92, (show iX_sheetLength.toInt ≤ iX_sheetLength_111.toInt from by omega), ⟨by omega, by omega⟩, rfl, hP, hD, hS, hl⟩
                  · have t_164 : ¬ v92.toInt ≥ 0 := toI_nge c_164 rfl (by decide : (0 : Int32).toInt = 0)
                    refine lv_iload hx hb dX11_putGoal_167 (lv_at hl 0 rfl) ?_
                    refine lv_ineg hx hb dX11_putGoal_169 ?_
                    refine lv_topi (fun y113 hy113 => ?_)
                    obtain rfl : (iI (-v92.toInt)) = y113 := (hy113.trans (iI_neg2 (iI_of _))).symm
                    refine lv_goto (tgt := 175) hx hb dX11_putGoal_170 (by decide) ?_
                    have hl : lv_has _ _ ([(4, .int v92), (3, .int l3_x35), (2, .int (iI (p1.toInt * 9))), (0, .ref (hX 0)), (1, .int p1)]) := lv_sub hl [0, 1, 2, 3, 4] rfl
                    refine W.known (fun hza hna => ?_)
                    refine W.widen (k := 1875) (n := 120000) (by omega) (by omega) ?_
                    exact join47 _ _ _ _ ⟨(iI (-v92.toInt)), (show iX_sheetLength.toInt ≤ iX_sheetLength_111.toInt from by omega), ⟨by omega, by omega⟩, rfl, hP, hD, hS, hl⟩
                · rintro H locs ls stk ⟨k0_j47, hjx, ⟨hzj, hnj⟩, rfl, hP, hD, hS, hl⟩
                  refine W.tight (cells2 := (nX_sheet_111 / 32 - (nX_sheet / 32))) (slots2 := (2 * nX_sheet_111 - (2 * nX_sheet))) (tg1 hzj hS.1) (tg2 hnj) ?_
                  refine lv_aload_n hx hb dX11_putGoal_175 rfl (lv_at hl 3 rfl) ?_
                  refine va_get (D := (dC, dI)) (ci := 11) (v := .ref (hM 0)) (C := RX11) (T := TX11) (N := 11) hx hb hts iwsMX11_putGoal_in11 hown hK hP 0 rfl rfl 2 (by decide) (hts _ hm_m_X11_putGoal_0) (fun _ h9 => h9) rfl dX11_putGoal_176 ?_
                  refine va_get (D := (dC, dI)) (ci := 1) (v := .ref (aM 7)) (C := RX1) (T := TX1) (N := 17) hx hb hts iwsMX11_putGoal_in1 hown hK hP 3 rfl rfl 14 (by decide) (hts _ hm_m_X11_putGoal_3) (fun _ h9 => h9) rfl dX11_putGoal_179 ?_
                  refine lv_iload_n hx hb dX11_putGoal_182 rfl (lv_at hl 2 rfl) ?_
                  refine va_iald (cA := kM 7) (n := 27) (f := fM_goalUnder) hx hb hK hP 11 9 rfl rfl (vp_iI (Int.le_trans (by decide) (Int.mul_le_mul_of_nonneg_right (b_p1.1) (by decide))) (Int.lt_of_le_of_lt (Int.mul_le_mul_of_nonneg_right (b_p1.2) (by decide)) (by decide)) (by decide)) dX11_putGoal_183 ?_
                  refine lv_topi (fun v114 hv114 => ?_)
                  clear hv114
                  refine W.known (fun hz0 hn0 => ?_)
                  have hS0 := hS.1
                  have p9 := cj_2_0 (WX hX aX kX hT hM fX_ready fX_sheet_111 dX_sheet_111 nX_sheet_111 iX_sheetLength_111 xX_reader xX_solver xX_prover xX_values xX_clauses xX_nets) (WM hM aM kM iM_stands iM_variables iM_rows iM_goals iM_differents iM_cases fM_from fM_to fM_whole fM_ways iM_plainRows fM_plainRow fM_kept fM_goalOver fM_goalUnder fM_goalMax fM_different)
                  have hPc := hP.mem (fun q h => p9.mem_iff.mpr (List.mem_append_left _ h))
                  have hDc := (hD.perm p9).left
                  have hKc : va_K (dC, dI) vwCl (tX kX) _ := hK.sub [0, 1] rfl
                  have hFc := freeG p9 hD hS hA
                  refine va_callv (va_runV (As := [.int k0_j47, .int v114]) (rest := []) ⟨hx, hb, hml, hown, hts⟩ (Met.sV (m_X11_putRatio l dC dI hX aX kX hT hM fX_ready fX_sheet_111 dX_sheet_111 nX_sheet_111 iX_sheetLength_111 xX_reader xX_solver xX_prover xX_values xX_clauses xX_nets k0_j47 v114 b_fX_sheet_111 (by first | exact b_nX_sheet_111 | with_reducible assumption | exact ⟨by omega, by omega⟩ | assumption) (b_iX_sheetLength_111) (by first | with_reducible assumption | omega | (rw [iI_t (by omega) (by omega)]; omega) | (have h7 : (0 : Int32).toInt = 0 := (by decide); omega)) H.size) H) (cwV 2 hts gwsMX11_putGoal_3 rfl rfl rfl (by decide +kernel) ⟨by first | decide +kernel | (dsimp only [headSpec] <;> omega), by first | decide +kernel | (dsimp only [headSpec] <;> omega)⟩) ⟨fun a U g mk q => by obtain ⟨q0, qh, q1, qP, qK, qD⟩ := q; exact ⟨q0, qh, q1, qP, va_K.moved (u := U) (U := U.calling g mk a) (Vm.Alike.refl U.vm) qK, qD⟩, va_recv hK hP (ci := 11) (q0 := 0) rfl rfl, fun U hU9 hW => ⟨rfl, hU9, by rw [hU9], by rw [hU9]; exact hPc, va_K.moved hW.alike hKc, hDc.weaken (fun _ _ _ _ => trivial)⟩⟩ rfl rfl hl.1 rfl (lv_room (Nat.le_of_ble_eq_true rfl)) dX11_putGoal_184 ⟨by first | decide +kernel | (dsimp only [headSpec] <;> omega), by first | decide +kernel | (dsimp only [headSpec] <;> omega)⟩) hS (fun q _ h => hFc q h) hFc (fun u t9_ H locs ht hvm hw9 hB9 hz1 hk1 hS => ?_)
                  revert u hw9 hB9
                  refine fz_p4 ?_
                  intro fX_sheet_115 dX_sheet_115 nX_sheet_115 iX_sheetLength_115 hw9 hB9
                  try dsimp only at hw9 hB9
                  revert hw9
                  refine fz_a6 ?_
                  intro b_fX_sheet_115 b_nX_sheet_115 b_iX_sheetLength_115 b_shl_115 f115_0 f115_1
                  have hg1 := hB9.1.2.2.1
                  rw [ht] at hg1
                  have hg2 := hB9.1.2.2.2
                  rw [ht] at hg2
                  have hSz := hB9.2
                  rw [ht] at hSz
                  have p8 := cj_2_0 (WX hX aX kX hT hM fX_ready fX_sheet_115 dX_sheet_115 nX_sheet_115 iX_sheetLength_115 xX_reader xX_solver xX_prover xX_values xX_clauses xX_nets) (WM hM aM kM iM_stands iM_variables iM_rows iM_goals iM_differents iM_cases fM_from fM_to fM_whole fM_ways iM_plainRows fM_plainRow fM_kept fM_goalOver fM_goalUnder fM_goalMax fM_different)
                  obtain ⟨hP, hD⟩ := frameG p9 p8 hP hD hk1 hFc (fz_P ht hB9.1.1) hB9.1.2.1
                  have hz9 : H.size ≤ s.heap.size + (nX_sheet_115 / 32 - (nX_sheet / 32)) := by (try dsimp only at hg1); omega
                  have hn9 : nS s.heap.size H ≤ (2 * nX_sheet_115 - (2 * nX_sheet)) := by rw [hSz.n hS0]; (try dsimp only at hg2); omega
                  refine W.tight (cells2 := (nX_sheet_115 / 32 - (nX_sheet / 32))) (slots2 := (2 * nX_sheet_115 - (2 * nX_sheet))) hz9 hn9 ?_
                  clear hz9 hn9 hz0 hn0 hS0 hSz hg1 hg2
                  have hl : lv_has _ _ ([(4, .int v92), (3, .int l3_x35), (2, .int (iI (p1.toInt * 9))), (0, .ref (hX 0)), (1, .int p1)]) := lv_sub hl [0, 1, 2, 3, 4] rfl
                  refine W.known (fun hza hna => ?_)
                  refine W.widen (k := 1875) (n := 120000) (by omega) (by omega) ?_
                  exact join45 _ _ _ _ ⟨fX_sheet_115, dX_sheet_115, nX_sheet_115, iX_sheetLength_115, b_fX_sheet_115, (by first | exact b_nX_sheet_115 | with_reducible assumption | exact ⟨by omega, by omega⟩ | assumption), (b_iX_sheetLength_115), (by first | with_reducible assumption | omega | (rw [iI_t (by omega) (by omega)]; omega) | (have h7 : (0 : Int32).toInt = 0 := (by decide); omega)), (show iX_sheetLength.toInt ≤ iX_sheetLength_115.toInt from by omega), (show nX_sheet ≤ nX_sheet_115 from by omega), ⟨by omega, by omega⟩, rfl, hP, hD, hS, hl⟩
          · have t_111 : ¬ l3_x35.toInt = 0 := toI_neq c_111 rfl (by decide : (0 : Int32).toInt = 0)
            refine lv_aload_n hx hb dX11_putGoal_114 rfl (lv_at hl 3 rfl) ?_
            refine lv_bipush (v := 32) hx hb dX11_putGoal_115 (by decide) ?_
            refine W.known (fun hz0 hn0 => ?_)
            have hS0 := hS.1
            have p9 := cj_2_0 (WX hX aX kX hT hM fX_ready fX_sheet_x35 dX_sheet_x35 nX_sheet_x35 iX_sheetLength_x35 xX_reader xX_solver xX_prover xX_values xX_clauses xX_nets) (WM hM aM kM iM_stands iM_variables iM_rows iM_goals iM_differents iM_cases fM_from fM_to fM_whole fM_ways iM_plainRows fM_plainRow fM_kept fM_goalOver fM_goalUnder fM_goalMax fM_different)
            have hPc := hP.mem (fun q h => p9.mem_iff.mpr (List.mem_append_left _ h))
            have hDc := (hD.perm p9).left
            have hKc : va_K (dC, dI) vwCl (tX kX) _ := hK.sub [0, 1] rfl
            have hFc := freeG p9 hD hS hA
            refine va_callv (va_runV (As := [.int 32]) (rest := []) ⟨hx, hb, hml, hown, hts⟩ (Met.sV (m_X11_put l dC dI hX aX kX hT hM fX_ready fX_sheet_x35 dX_sheet_x35 nX_sheet_x35 iX_sheetLength_x35 xX_reader xX_solver xX_prover xX_values xX_clauses xX_nets 32 b_fX_sheet_x35 (by first | exact b_nX_sheet_x35 | with_reducible assumption | exact ⟨by omega, by omega⟩ | assumption) (b_iX_sheetLength_x35) (by first | with_reducible assumption | omega | (rw [iI_t (by omega) (by omega)]; omega) | (have h7 : (0 : Int32).toInt = 0 := (by decide); omega)) H.size) H) (cwV 1 hts gwsMX11_putGoal_2 rfl rfl rfl (by decide +kernel) ⟨by first | decide +kernel | (dsimp only [headSpec] <;> omega), by first | decide +kernel | (dsimp only [headSpec] <;> omega)⟩) ⟨fun a U g mk q => by obtain ⟨q0, qh, q1, qP, qK, qD⟩ := q; exact ⟨q0, qh, q1, qP, va_K.moved (u := U) (U := U.calling g mk a) (Vm.Alike.refl U.vm) qK, qD⟩, va_recv hK hP (ci := 11) (q0 := 0) rfl rfl, fun U hU9 hW => ⟨rfl, hU9, by rw [hU9], by rw [hU9]; exact hPc, va_K.moved hW.alike hKc, hDc.weaken (fun _ _ _ _ => trivial)⟩⟩ rfl rfl hl.1 rfl (lv_room (Nat.le_of_ble_eq_true rfl)) dX11_putGoal_117 ⟨by first | decide +kernel | (dsimp only [headSpec] <;> omega), by first | decide +kernel | (dsimp only [headSpec] <;> omega)⟩) hS (fun q _ h => hFc q h) hFc (fun u t9_ H locs ht hvm hw9 hB9 hz1 hk1 hS => ?_)
            revert u hw9 hB9
            refine fz_p4 ?_
            intro fX_sheet_116 dX_sheet_116 nX_sheet_116 iX_sheetLength_116 hw9 hB9
            try dsimp only at hw9 hB9
            revert hw9
            refine fz_a6 ?_
            intro b_fX_sheet_116 b_nX_sheet_116 b_iX_sheetLength_116 b_shl_116 f116_0 f116_1
            have hg1 := hB9.1.2.2.1
            rw [ht] at hg1
            have hg2 := hB9.1.2.2.2
            rw [ht] at hg2
            have hSz := hB9.2
            rw [ht] at hSz
            have p8 := cj_2_0 (WX hX aX kX hT hM fX_ready fX_sheet_116 dX_sheet_116 nX_sheet_116 iX_sheetLength_116 xX_reader xX_solver xX_prover xX_values xX_clauses xX_nets) (WM hM aM kM iM_stands iM_variables iM_rows iM_goals iM_differents iM_cases fM_from fM_to fM_whole fM_ways iM_plainRows fM_plainRow fM_kept fM_goalOver fM_goalUnder fM_goalMax fM_different)
            obtain ⟨hP, hD⟩ := frameG p9 p8 hP hD hk1 hFc (fz_P ht hB9.1.1) hB9.1.2.1
            have hz9 : H.size ≤ s.heap.size + (nX_sheet_116 / 32 - (nX_sheet / 32)) := by (try dsimp only at hg1); omega
            have hn9 : nS s.heap.size H ≤ (2 * nX_sheet_116 - (2 * nX_sheet)) := by rw [hSz.n hS0]; (try dsimp only at hg2); omega
            refine W.tight (cells2 := (nX_sheet_116 / 32 - (nX_sheet / 32))) (slots2 := (2 * nX_sheet_116 - (2 * nX_sheet))) hz9 hn9 ?_
            clear hz9 hn9 hz0 hn0 hS0 hSz hg1 hg2
            refine lv_aload_n hx hb dX11_putGoal_120 rfl (lv_at hl 3 rfl) ?_
            refine lv_iload hx hb dX11_putGoal_121 (lv_at hl 0 rfl) ?_
            refine lv_aload_n hx hb dX11_putGoal_123 rfl (lv_at hl 3 rfl) ?_
            refine va_get (D := (dC, dI)) (ci := 11) (v := .ref (hM 0)) (C := RX11) (T := TX11) (N := 11) hx hb hts iwsMX11_putGoal_in11 hown hK hP 0 rfl rfl 2 (by decide) (hts _ hm_m_X11_putGoal_0) (fun _ h9 => h9) rfl dX11_putGoal_124 ?_
            refine va_get (D := (dC, dI)) (ci := 1) (v := .ref (aM 7)) (C := RX1) (T := TX1) (N := 17) hx hb hts iwsMX11_putGoal_in1 hown hK hP 3 rfl rfl 14 (by decide) (hts _ hm_m_X11_putGoal_3) (fun _ h9 => h9) rfl dX11_putGoal_127 ?_
            refine lv_iload_n hx hb dX11_putGoal_130 rfl (lv_at hl 2 rfl) ?_
            refine va_iald (cA := kM 7) (n := 27) (f := fM_goalUnder) hx hb hK hP 11 9 rfl rfl (vp_iI (Int.le_trans (by decide) (Int.mul_le_mul_of_nonneg_right (b_p1.1) (by decide))) (Int.lt_of_le_of_lt (Int.mul_le_mul_of_nonneg_right (b_p1.2) (by decide)) (by decide)) (by decide)) dX11_putGoal_131 ?_
            refine lv_topi (fun v117 hv117 => ?_)
            clear hv117
            refine W.known (fun hz0 hn0 => ?_)
            have hS0 := hS.1
            have p9 := cj_2_0 (WX hX aX kX hT hM fX_ready fX_sheet_116 dX_sheet_116 nX_sheet_116 iX_sheetLength_116 xX_reader xX_solver xX_prover xX_values xX_clauses xX_nets) (WM hM aM kM iM_stands iM_variables iM_rows iM_goals iM_differents iM_cases fM_from fM_to fM_whole fM_ways iM_plainRows fM_plainRow fM_kept fM_goalOver fM_goalUnder fM_goalMax fM_different)
            have hPc := hP.mem (fun q h => p9.mem_iff.mpr (List.mem_append_left _ h))
            have hDc := (hD.perm p9).left
            have hKc : va_K (dC, dI) vwCl (tX kX) _ := hK.sub [0, 1] rfl
            have hFc := freeG p9 hD hS hA
            refine va_callv (va_runV (As := [.int v92, .int v117]) (rest := []) ⟨hx, hb, hml, hown, hts⟩ (Met.sV (m_X11_putRatio l dC dI hX aX kX hT hM fX_ready fX_sheet_116 dX_sheet_116 nX_sheet_116 iX_sheetLength_116 xX_reader xX_solver xX_prover xX_values xX_clauses xX_nets v92 v117 b_fX_sheet_116 (by first | exact b_nX_sheet_116 | with_reducible assumption | exact ⟨by omega, by omega⟩ | assumption) (b_iX_sheetLength_116) (by first | with_reducible assumption | omega | (rw [iI_t (by omega) (by omega)]; omega) | (have h7 : (0 : Int32).toInt = 0 := (by decide); omega)) H.size) H) (cwV 2 hts gwsMX11_putGoal_3 rfl rfl rfl (by decide +kernel) ⟨by first | decide +kernel | (dsimp only [headSpec] <;> omega), by first | decide +kernel | (dsimp only [headSpec] <;> omega)⟩) ⟨fun a U g mk q => by obtain ⟨q0, qh, q1, qP, qK, qD⟩ := q; exact ⟨q0, qh, q1, qP, va_K.moved (u := U) (U := U.calling g mk a) (Vm.Alike.refl U.vm) qK, qD⟩, va_recv hK hP (ci := 11) (q0 := 0) rfl rfl, fun U hU9 hW => ⟨rfl, hU9, by rw [hU9], by rw [hU9]; exact hPc, va_K.moved hW.alike hKc, hDc.weaken (fun _ _ _ _ => trivial)⟩⟩ rfl rfl hl.1 rfl (lv_room (Nat.le_of_ble_eq_true rfl)) dX11_putGoal_132 ⟨by first | decide +kernel | (dsimp only [headSpec] <;> omega), by first | decide +kernel | (dsimp only [headSpec] <;> omega)⟩) hS (fun q _ h => hFc q h) hFc (fun u t9_ H locs ht hvm hw9 hB9 hz1 hk1 hS => ?_)
            revert u hw9 hB9
            refine fz_p4 ?_
            intro fX_sheet_118 dX_sheet_118 nX_sheet_118 iX_sheetLength_118 hw9 hB9
            try dsimp only at hw9 hB9
            revert hw9
            refine fz_a6 ?_
            intro b_fX_sheet_118 b_nX_sheet_118 b_iX_sheetLength_118 b_shl_118 f118_0 f118_1
            have hg1 := hB9.1.2.2.1
            rw [ht] at hg1
            have hg2 := hB9.1.2.2.2
            rw [ht] at hg2
            have hSz := hB9.2
            rw [ht] at hSz
            have p8 := cj_2_0 (WX hX aX kX hT hM fX_ready fX_sheet_118 dX_sheet_118 nX_sheet_118 iX_sheetLength_118 xX_reader xX_solver xX_prover xX_values xX_clauses xX_nets) (WM hM aM kM iM_stands iM_variables iM_rows iM_goals iM_differents iM_cases fM_from fM_to fM_whole fM_ways iM_plainRows fM_plainRow fM_kept fM_goalOver fM_goalUnder fM_goalMax fM_different)
            obtain ⟨hP, hD⟩ := frameG p9 p8 hP hD hk1 hFc (fz_P ht hB9.1.1) hB9.1.2.1
            have hz9 : H.size ≤ s.heap.size + (nX_sheet_118 / 32 - (nX_sheet / 32)) := by (try dsimp only at hg1); omega
            have hn9 : nS s.heap.size H ≤ (2 * nX_sheet_118 - (2 * nX_sheet)) := by rw [hSz.n hS0]; (try dsimp only at hg2); omega
            refine W.tight (cells2 := (nX_sheet_118 / 32 - (nX_sheet / 32))) (slots2 := (2 * nX_sheet_118 - (2 * nX_sheet))) hz9 hn9 ?_
            clear hz9 hn9 hz0 hn0 hS0 hSz hg1 hg2
            refine lv_goto (tgt := 187) hx hb dX11_putGoal_135 (by decide) ?_
            have hl : lv_has _ _ ([(4, .int v92), (3, .int l3_x35), (2, .int (iI (p1.toInt * 9))), (0, .ref (hX 0)), (1, .int p1)]) := lv_sub hl [0, 1, 2, 3, 4] rfl
            refine W.known (fun hza hna => ?_)
            refine W.widen (k := 1875) (n := 120000) (by omega) (by omega) ?_
            exact join45 _ _ _ _ ⟨fX_sheet_118, dX_sheet_118, nX_sheet_118, iX_sheetLength_118, b_fX_sheet_118, (by first | exact b_nX_sheet_118 | with_reducible assumption | exact ⟨by omega, by omega⟩ | assumption), (b_iX_sheetLength_118), (by first | with_reducible assumption | omega | (rw [iI_t (by omega) (by omega)]; omega) | (have h7 : (0 : Int32).toInt = 0 := (by decide); omega)), (show iX_sheetLength.toInt ≤ iX_sheetLength_118.toInt from by omega), (show nX_sheet ≤ nX_sheet_118 from by omega), ⟨by omega, by omega⟩, rfl, hP, hD, hS, hl⟩
        · rintro H locs ls stk ⟨fX_sheet_j45, dX_sheet_j45, nX_sheet_j45, iX_sheetLength_j45, b_fX_sheet_j45, b_nX_sheet_j45, b_iX_sheetLength_j45, b_shl_j45, hjx, hgm0_j45, ⟨hzj, hnj⟩, rfl, hP, hD, hS, hl⟩
          refine W.tight (cells2 := (nX_sheet_j45 / 32 - (nX_sheet / 32))) (slots2 := (2 * nX_sheet_j45 - (2 * nX_sheet))) (tg1 hzj hS.1) (tg2 hnj) ?_
          refine lv_aload_n hx hb dX11_putGoal_187 rfl (lv_at hl 3 rfl) ?_
          obtain ⟨qS292, hR292, hSS292⟩ := hE.2.2.2 4 _ rfl
          refine lv_ldcwS hx hb hown hR292 dX11_putGoal_188 ?_
          refine W.known (fun hz0 hn0 => ?_)
          have hS0 := hS.1
          have p9 := cj_2_0 (WX hX aX kX hT hM fX_ready fX_sheet_j45 dX_sheet_j45 nX_sheet_j45 iX_sheetLength_j45 xX_reader xX_solver xX_prover xX_values xX_clauses xX_nets) (WM hM aM kM iM_stands iM_variables iM_rows iM_goals iM_differents iM_cases fM_from fM_to fM_whole fM_ways iM_plainRows fM_plainRow fM_kept fM_goalOver fM_goalUnder fM_goalMax fM_different)
          have hPc := hP.mem (fun q h => p9.mem_iff.mpr (List.mem_append_left _ h))
          have hDc := (hD.perm p9).left
          have hKc : va_K (dC, dI) vwCl (tX kX) _ := hK.sub [0, 1] rfl
          have hFc := freeG p9 hD hS hA
          refine va_callv (va_runV (As := [.ref qS292]) (rest := []) ⟨hx, hb, hml, hown, hts⟩ (Met.sV (m_X11_putText l dC dI hX aX kX hT hM fX_ready fX_sheet_j45 dX_sheet_j45 nX_sheet_j45 iX_sheetLength_j45 xX_reader xX_solver xX_prover xX_values xX_clauses xX_nets qS292 3 (fun j => ([32, 59, 10] : List Int32).getD j 0) b_fX_sheet_j45 (by first | exact b_nX_sheet_j45 | with_reducible assumption | exact ⟨by omega, by omega⟩ | assumption) (by first | exact b_iX_sheetLength_j45 | with_reducible assumption | exact ⟨by omega, by omega⟩ | assumption) (by first | with_reducible assumption | omega | (rw [iI_t (by omega) (by omega)]; omega) | (have h7 : (0 : Int32).toInt = 0 := (by decide); omega)) (by decide) H.size) H) (cwV 1 hts gwsMX11_putGoal_0 rfl rfl rfl (by decide +kernel) ⟨by first | decide +kernel | (dsimp only [headSpec] <;> omega), by first | decide +kernel | (dsimp only [headSpec] <;> omega)⟩) ⟨fun a U g mk q => by obtain ⟨q0, qh, q1, qP, qK, qD, qE⟩ := q; exact ⟨q0, qh, q1, qP, va_K.moved (u := U) (U := U.calling g mk a) (Vm.Alike.refl U.vm) qK, qD, qE.same rfl⟩, va_recv hK hP (ci := 11) (q0 := 0) rfl rfl, fun U hU9 hW => ⟨rfl, hU9, by rw [hU9], by rw [hU9]; exact hPc, va_K.moved hW.alike hKc, hDc.weaken (fun _ _ _ _ => trivial), by rw [hU9]; exact (((hSS292 : (StrE qS292 3 (fun j => ([32, 59, 10] : List Int32).getD j 0)) A s s.heap).kept hS.2.1).narrow (fun q h => hFc q h)).warm hW⟩⟩ rfl rfl hl.1 rfl (lv_room (Nat.le_of_ble_eq_true rfl)) dX11_putGoal_191 ⟨by first | decide +kernel | (dsimp only [headSpec] <;> omega), by first | decide +kernel | (dsimp only [headSpec] <;> omega)⟩) hS (fun q _ h => hFc q h) hFc (fun u t9_ H locs ht hvm hw9 hB9 hz1 hk1 hS => ?_)
          revert u hw9 hB9
          refine fz_p4 ?_
          intro fX_sheet_119 dX_sheet_119 nX_sheet_119 iX_sheetLength_119 hw9 hB9
          try dsimp only at hw9 hB9
          revert hw9
          refine fz_a6 ?_
          intro b_fX_sheet_119 b_nX_sheet_119 b_iX_sheetLength_119 b_shl_119 f119_0 f119_1
          have hg1 := hB9.1.2.2.1
          rw [ht] at hg1
          have hg2 := hB9.1.2.2.2
          rw [ht] at hg2
          have hSz := hB9.2
          rw [ht] at hSz
          have p8 := cj_2_0 (WX hX aX kX hT hM fX_ready fX_sheet_119 dX_sheet_119 nX_sheet_119 iX_sheetLength_119 xX_reader xX_solver xX_prover xX_values xX_clauses xX_nets) (WM hM aM kM iM_stands iM_variables iM_rows iM_goals iM_differents iM_cases fM_from fM_to fM_whole fM_ways iM_plainRows fM_plainRow fM_kept fM_goalOver fM_goalUnder fM_goalMax fM_different)
          obtain ⟨hP, hD⟩ := frameG p9 p8 hP hD hk1 hFc (fz_P ht hB9.1.1) hB9.1.2.1
          have hz9 : H.size ≤ s.heap.size + (nX_sheet_119 / 32 - (nX_sheet / 32)) := by (try dsimp only at hg1); omega
          have hn9 : nS s.heap.size H ≤ (2 * nX_sheet_119 - (2 * nX_sheet)) := by rw [hSz.n hS0]; (try dsimp only at hg2); omega
          refine W.tight (cells2 := (nX_sheet_119 / 32 - (nX_sheet / 32))) (slots2 := (2 * nX_sheet_119 - (2 * nX_sheet))) hz9 hn9 ?_
          clear hz9 hn9 hz0 hn0 hS0 hSz hg1 hg2
          refine W.known (fun hz9 hn9 => ?_)
          refine W.widen (k := 9376) (n := 660000) (by omega) (by omega) ?_
          exact W.vret hx hb hr (fun t9_ ht hW => ⟨⟨(fX_sheet_119, dX_sheet_119, nX_sheet_119, iX_sheetLength_119), rfl, ⟨b_fX_sheet_119, (by (try dsimp only); exact (by first | exact b_nX_sheet_119 | with_reducible assumption | exact ⟨by omega, by omega⟩ | assumption)), b_iX_sheetLength_119, (by (try dsimp only); exact (by first | with_reducible assumption | omega | (rw [iI_t (by omega) (by omega)]; omega) | (have h7 : (0 : Int32).toInt = 0 := (by decide); omega))), (by (try dsimp only); omega), (by (try dsimp only); first | omega | (rw [iI_t (by omega) (by omega)]; omega))⟩, by rw [ht]; exact hP, hD, by rw [ht]; (try dsimp only); omega, by rw [ht]; (try dsimp only); omega⟩, hS.F ht⟩) hS.2.2 dX11_putGoal_194
      · have t_44 : ¬ l4_x35.toInt ≥ iM_variables.toInt := toI_nge c_44 rfl rfl
        refine lv_aload_n hx hb dX11_putGoal_47 rfl (lv_at hl 3 rfl) ?_
        refine va_get (D := (dC, dI)) (ci := 11) (v := .ref (hM 0)) (C := RX11) (T := TX11) (N := 11) hx hb hts iwsMX11_putGoal_in11 hown hK hP 0 rfl rfl 2 (by decide) (hts _ hm_m_X11_putGoal_0) (fun _ h9 => h9) rfl dX11_putGoal_48 ?_
        refine va_get (D := (dC, dI)) (ci := 1) (v := .ref (aM 6)) (C := RX1) (T := TX1) (N := 17) hx hb hts iwsMX11_putGoal_in1 hown hK hP 3 rfl rfl 13 (by decide) (hts _ hm_m_X11_putGoal_2) (fun _ h9 => h9) rfl dX11_putGoal_51 ?_
        refine lv_iload_n hx hb dX11_putGoal_54 rfl (lv_at hl 2 rfl) ?_
        refine lv_iload hx hb dX11_putGoal_55 (lv_at hl 0 rfl) ?_
        refine lv_iadd hx hb dX11_putGoal_57 ?_
        refine lv_topi (fun y120 hy120 => ?_)
        obtain rfl : (iI ((p1.toInt * 9) + l4_x35.toInt)) = y120 := (hy120.trans (iI_add2 rfl (iI_of _))).symm
        refine lv_iconst (v := 1) hx hb dX11_putGoal_58 (by decide) ?_
        refine lv_iadd hx hb dX11_putGoal_59 ?_
        refine lv_topi (fun y121 hy121 => ?_)
        obtain rfl : (iI (((p1.toInt * 9) + l4_x35.toInt) + 1)) = y121 := (hy121.trans (iI_add2 rfl (by decide : (1 : Int32) = iI 1))).symm
        refine va_iald (cA := kM 6) (n := 27) (f := fM_goalOver) hx hb hK hP 10 8 rfl rfl (vp_iI (Int.le_trans (by decide) (Int.add_le_add (Int.add_le_add (Int.mul_le_mul_of_nonneg_right (b_p1.1) (by decide)) (b_l4_x35.1)) (Int.le_refl _))) (by omega) (by decide)) dX11_putGoal_60 ?_
        refine lv_topi (fun v122 hv122 => ?_)
        clear hv122
        refine lv_istore hx hb dX11_putGoal_61 hl (by decide) rfl (fun ls (hl : lv_has ls _ ([(5, .int v122), (4, .int l4_x35), (3, .int l3_x35), (2, .int (iI (p1.toInt * 9))), (0, .ref (hX 0)), (1, .int p1)])) => ?_)
        refine lv_iload hx hb dX11_putGoal_63 (lv_at hl 0 rfl) ?_
        refine W.known (fun hzk hnk => ?_)
        refine W.widen (k := 1875) (n := 120000) (by omega) (by omega) ?_
        refine W.cut (pc := 93) (fun H locs ls stk => ∃ (fX_sheet_j48 : Nat → Int32) (dX_sheet_j48 : Nat) (nX_sheet_j48 : Nat) (iX_sheetLength_j48 : Int32) (l3_j48 : Int32), (∀ q : Nat, (-128) ≤ (fX_sheet_j48 q).toInt ∧ (fX_sheet_j48 q).toInt ≤ 127) ∧ (64 ≤ nX_sheet_j48 ∧ nX_sheet_j48 ≤ 60000) ∧ (0 ≤ iX_sheetLength_j48.toInt ∧ iX_sheetLength_j48.toInt ≤ 30000) ∧ (0 ≤ l3_j48.toInt ∧ l3_j48.toInt ≤ 1) ∧ (iX_sheetLength_j48.toInt ≤ ((nX_sheet_j48 : Nat) : Int)) ∧ (iX_sheetLength.toInt ≤ iX_sheetLength_j48.toInt) ∧ (nX_sheet ≤ nX_sheet_j48) ∧ (H.size + (nX_sheet / 32) ≤ s.heap.size + (nX_sheet_j48 / 32) ∧ nS s.heap.size H + (2 * nX_sheet) ≤ (2 * nX_sheet_j48)) ∧  stk = [] ∧ va_P (dC, dI) vwCl (WX hX aX kX hT hM fX_ready fX_sheet_j48 dX_sheet_j48 nX_sheet_j48 iX_sheetLength_j48 xX_reader xX_solver xX_prover xX_values xX_clauses xX_nets ++ (WM hM aM kM iM_stands iM_variables iM_rows iM_goals iM_differents iM_cases fM_from fM_to fM_whole fM_ways iM_plainRows fM_plainRow fM_kept fM_goalOver fM_goalUnder fM_goalMax fM_different)) H ∧ va_D A (WX hX aX kX hT hM fX_ready fX_sheet_j48 dX_sheet_j48 nX_sheet_j48 iX_sheetLength_j48 xX_reader xX_solver xX_prover xX_values xX_clauses xX_nets ++ (WM hM aM kM iM_stands iM_variables iM_rows iM_goals iM_differents iM_cases fM_from fM_to fM_whole fM_ways iM_plainRows fM_plainRow fM_kept fM_goalOver fM_goalUnder fM_goalMax fM_different)) ∧ va_S A s.heap H locs ∧ lv_has ls 6 [(5, .int v122), (4, .int l4_x35), (3, .int l3_j48), (2, .int (iI (p1.toInt * 9))), (0, .ref (hX 0)), (1, .int p1)]) (fun join48 => ?_) ?_
        · refine W.tight (cells2 := (nX_sheet_x35 / 32 - (nX_sheet / 32))) (slots2 := (2 * nX_sheet_x35 - (2 * nX_sheet))) hzk hnk ?_
          refine lv_if_eq (tgt := 93) hx hb dX11_putGoal_65 (by decide) (fun c_65 => ?_) (fun c_65 => ?_)
          · have t_65 : v122.toInt = 0 := toI_eq c_65 rfl (by decide : (0 : Int32).toInt = 0)
            have hl : lv_has _ _ ([(5, .int v122), (4, .int l4_x35), (3, .int l3_x35), (2, .int (iI (p1.toInt * 9))), (0, .ref (hX 0)), (1, .int p1)]) := lv_sub hl [0, 1, 2, 3, 4, 5] rfl
            refine W.known (fun hza hna => ?_)
            refine W.widen (k := 1875) (n := 120000) (by omega) (by omega) ?_
            exact join48 _ _ _ _ ⟨fX_sheet_x35, dX_sheet_x35, nX_sheet_x35, iX_sheetLength_x35, l3_x35, b_fX_sheet_x35, (by first | exact b_nX_sheet_x35 | with_reducible assumption | exact ⟨by omega, by omega⟩ | assumption), (b_iX_sheetLength_x35), (b_l3_x35), (by first | with_reducible assumption | omega | (rw [iI_t (by omega) (by omega)]; omega) | (have h7 : (0 : Int32).toInt = 0 := (by decide); omega)), (show iX_sheetLength.toInt ≤ iX_sheetLength_x35.toInt from by omega), (show nX_sheet ≤ nX_sheet_x35 from by omega), ⟨by omega, by omega⟩, rfl, hP, hD, hS, hl⟩
          · have t_65 : ¬ v122.toInt = 0 := toI_neq c_65 rfl (by decide : (0 : Int32).toInt = 0)
            refine lv_aload_n hx hb dX11_putGoal_68 rfl (lv_at hl 4 rfl) ?_
            refine lv_iload hx hb dX11_putGoal_69 (lv_at hl 0 rfl) ?_
            refine lv_aload_n hx hb dX11_putGoal_71 rfl (lv_at hl 4 rfl) ?_
            refine va_get (D := (dC, dI)) (ci := 11) (v := .ref (hM 0)) (C := RX11) (T := TX11) (N := 11) hx hb hts iwsMX11_putGoal_in11 hown hK hP 0 rfl rfl 2 (by decide) (hts _ hm_m_X11_putGoal_0) (fun _ h9 => h9) rfl dX11_putGoal_72 ?_
            refine va_get (D := (dC, dI)) (ci := 1) (v := .ref (aM 7)) (C := RX1) (T := TX1) (N := 17) hx hb hts iwsMX11_putGoal_in1 hown hK hP 3 rfl rfl 14 (by decide) (hts _ hm_m_X11_putGoal_3) (fun _ h9 => h9) rfl dX11_putGoal_75 ?_
            refine lv_iload_n hx hb dX11_putGoal_78 rfl (lv_at hl 3 rfl) ?_
            refine lv_iload hx hb dX11_putGoal_79 (lv_at hl 1 rfl) ?_
            refine lv_iadd hx hb dX11_putGoal_81 ?_
            refine lv_topi (fun y127 hy127 => ?_)
            obtain rfl : (iI ((p1.toInt * 9) + l4_x35.toInt)) = y127 := (hy127.trans (iI_add2 rfl (iI_of _))).symm
            refine lv_iconst (v := 1) hx hb dX11_putGoal_82 (by decide) ?_
            refine lv_iadd hx hb dX11_putGoal_83 ?_
            refine lv_topi (fun y128 hy128 => ?_)
            obtain rfl : (iI (((p1.toInt * 9) + l4_x35.toInt) + 1)) = y128 := (hy128.trans (iI_add2 rfl (by decide : (1 : Int32) = iI 1))).symm
            refine va_iald (cA := kM 7) (n := 27) (f := fM_goalUnder) hx hb hK hP 11 9 rfl rfl (vp_iI (Int.le_trans (by decide) (Int.add_le_add (Int.add_le_add (Int.mul_le_mul_of_nonneg_right (b_p1.1) (by decide)) (b_l4_x35.1)) (Int.le_refl _))) (by omega) (by decide)) dX11_putGoal_84 ?_
            refine lv_topi (fun v129 hv129 => ?_)
            clear hv129
            refine lv_iload hx hb dX11_putGoal_85 (lv_at hl 1 rfl) ?_
            refine lv_iload_n hx hb dX11_putGoal_87 rfl (lv_at hl 2 rfl) ?_
            refine W.known (fun hz0 hn0 => ?_)
            have hS0 := hS.1
            have p9 := cj_2_0 (WX hX aX kX hT hM fX_ready fX_sheet_x35 dX_sheet_x35 nX_sheet_x35 iX_sheetLength_x35 xX_reader xX_solver xX_prover xX_values xX_clauses xX_nets) (WM hM aM kM iM_stands iM_variables iM_rows iM_goals iM_differents iM_cases fM_from fM_to fM_whole fM_ways iM_plainRows fM_plainRow fM_kept fM_goalOver fM_goalUnder fM_goalMax fM_different)
            have hPc := hP.mem (fun q h => p9.mem_iff.mpr (List.mem_append_left _ h))
            have hDc := (hD.perm p9).left
            have hKc : va_K (dC, dI) vwCl (tX kX) _ := hK.sub [0, 1] rfl
            have hFc := freeG p9 hD hS hA
            refine va_callv (va_runV (As := [.int v122, .int v129, .int l4_x35, .int l3_x35]) (rest := []) ⟨hx, hb, hml, hown, hts⟩ (Met.sV (m_X11_putTimes l hst dC dI hX aX kX hT hM fX_ready fX_sheet_x35 dX_sheet_x35 nX_sheet_x35 iX_sheetLength_x35 xX_reader xX_solver xX_prover xX_values xX_clauses xX_nets v122 v129 l4_x35 l3_x35 b_fX_sheet_x35 (by first | exact b_nX_sheet_x35 | with_reducible assumption | exact ⟨by omega, by omega⟩ | assumption) (b_iX_sheetLength_x35) (by first | with_reducible assumption | omega | (rw [iI_t (by omega) (by omega)]; omega) | (have h7 : (0 : Int32).toInt = 0 := (by decide); omega)) H.size) H) (cwV 4 hts gwsMX11_putGoal_1 rfl rfl rfl (by decide +kernel) ⟨by first | decide +kernel | (dsimp only [headSpec] <;> omega), by first | decide +kernel | (dsimp only [headSpec] <;> omega)⟩) ⟨fun a U g mk q => by obtain ⟨q0, qh, q1, qP, qK, qD, qE⟩ := q; exact ⟨q0, qh, q1, qP, va_K.moved (u := U) (U := U.calling g mk a) (Vm.Alike.refl U.vm) qK, qD, qE.call⟩, va_recv hK hP (ci := 11) (q0 := 0) rfl rfl, fun U hU9 hW => ⟨rfl, hU9, by rw [hU9], by rw [hU9]; exact hPc, va_K.moved hW.alike hKc, hDc.weaken (fun _ _ _ _ => trivial), by rw [hU9]; exact (((hE : CE A s s.heap).kept hS.2.1).narrow (fun q h => hFc q h)).warm hW⟩⟩ rfl rfl hl.1 rfl (lv_room (Nat.le_of_ble_eq_true rfl)) dX11_putGoal_88 ⟨by first | decide +kernel | (dsimp only [headSpec] <;> omega), by first | decide +kernel | (dsimp only [headSpec] <;> omega)⟩) hS (fun q _ h => hFc q h) hFc (fun u t9_ H locs ht hvm hw9 hB9 hz1 hk1 hS => ?_)
            revert u hw9 hB9
            refine fz_p4 ?_
            intro fX_sheet_130 dX_sheet_130 nX_sheet_130 iX_sheetLength_130 hw9 hB9
            try dsimp only at hw9 hB9
            revert hw9
            refine fz_a6 ?_
            intro b_fX_sheet_130 b_nX_sheet_130 b_iX_sheetLength_130 b_shl_130 f130_0 f130_1
            have hg1 := hB9.1.2.2.1
            rw [ht] at hg1
            have hg2 := hB9.1.2.2.2
            rw [ht] at hg2
            have hSz := hB9.2
            rw [ht] at hSz
            have p8 := cj_2_0 (WX hX aX kX hT hM fX_ready fX_sheet_130 dX_sheet_130 nX_sheet_130 iX_sheetLength_130 xX_reader xX_solver xX_prover xX_values xX_clauses xX_nets) (WM hM aM kM iM_stands iM_variables iM_rows iM_goals iM_differents iM_cases fM_from fM_to fM_whole fM_ways iM_plainRows fM_plainRow fM_kept fM_goalOver fM_goalUnder fM_goalMax fM_different)
            obtain ⟨hP, hD⟩ := frameG p9 p8 hP hD hk1 hFc (fz_P ht hB9.1.1) hB9.1.2.1
            have hz9 : H.size ≤ s.heap.size + (nX_sheet_130 / 32 - (nX_sheet / 32)) := by (try dsimp only at hg1); omega
            have hn9 : nS s.heap.size H ≤ (2 * nX_sheet_130 - (2 * nX_sheet)) := by rw [hSz.n hS0]; (try dsimp only at hg2); omega
            refine W.tight (cells2 := (nX_sheet_130 / 32 - (nX_sheet / 32))) (slots2 := (2 * nX_sheet_130 - (2 * nX_sheet))) hz9 hn9 ?_
            clear hz9 hn9 hz0 hn0 hS0 hSz hg1 hg2
            refine lv_iconst (v := 0) hx hb dX11_putGoal_91 (by decide) ?_
            refine lv_istore_n hx hb dX11_putGoal_92 rfl hl (by decide) rfl (fun ls (hl : lv_has ls _ ([(3, .int 0), (5, .int v122), (4, .int l4_x35), (2, .int (iI (p1.toInt * 9))), (0, .ref (hX 0)), (1, .int p1)])) => ?_)
            have hl : lv_has _ _ ([(5, .int v122), (4, .int l4_x35), (3, .int 0), (2, .int (iI (p1.toInt * 9))), (0, .ref (hX 0)), (1, .int p1)]) := lv_sub hl [1, 2, 0, 3, 4, 5] rfl
            refine W.known (fun hza hna => ?_)
            refine W.widen (k := 1875) (n := 120000) (by omega) (by omega) ?_
            exact join48 _ _ _ _ ⟨fX_sheet_130, dX_sheet_130, nX_sheet_130, iX_sheetLength_130, 0, b_fX_sheet_130, (by first | exact b_nX_sheet_130 | with_reducible assumption | exact ⟨by omega, by omega⟩ | assumption), (b_iX_sheetLength_130), (show 0 ≤ (0 : Int32).toInt ∧ (0 : Int32).toInt ≤ 1 from by decide), (by first | with_reducible assumption | omega | (rw [iI_t (by omega) (by omega)]; omega) | (have h7 : (0 : Int32).toInt = 0 := (by decide); omega)), (show iX_sheetLength.toInt ≤ iX_sheetLength_130.toInt from by omega), (show nX_sheet ≤ nX_sheet_130 from by omega), ⟨by omega, by omega⟩, rfl, hP, hD, hS, hl⟩
        · rintro H locs ls stk ⟨fX_sheet_j48, dX_sheet_j48, nX_sheet_j48, iX_sheetLength_j48, l3_j48, b_fX_sheet_j48, b_nX_sheet_j48, b_iX_sheetLength_j48, b_l3_j48, b_shl_j48, hjx, hgm0_j48, ⟨hzj, hnj⟩, rfl, hP, hD, hS, hl⟩
          refine W.tight (cells2 := (nX_sheet_j48 / 32 - (nX_sheet / 32))) (slots2 := (2 * nX_sheet_j48 - (2 * nX_sheet))) (tg1 hzj hS.1) (tg2 hnj) ?_
          refine lv_iinc (v := (iI (l4_x35.toInt + 1))) hx hb dX11_putGoal_93 hl (k := 1) rfl (iI_add2 (iI_of _) (by decide : (1 : Int32) = iI 1)) (by decide) rfl (fun ls (hl : lv_has ls _ ([(4, .int (iI (l4_x35.toInt + 1))), (5, .int v122), (3, .int l3_j48), (2, .int (iI (p1.toInt * 9))), (0, .ref (hX 0)), (1, .int p1)])) => ?_)
          refine lv_goto (tgt := 35) hx hb dX11_putGoal_96 (by decide) ?_
          have hl : lv_has _ _ ([(4, .int (iI (l4_x35.toInt + 1))), (3, .int l3_j48), (2, .int (iI (p1.toInt * 9))), (0, .ref (hX 0)), (1, .int p1)]) := lv_sub hl [0, 2, 3, 4, 5] rfl
          exact ihx35 fX_sheet_j48 dX_sheet_j48 nX_sheet_j48 iX_sheetLength_j48 (iI (l4_x35.toInt + 1)) l3_j48 _ _ _ b_fX_sheet_j48 (by first | exact b_nX_sheet_j48 | with_reducible assumption | exact ⟨by omega, by omega⟩ | assumption) (b_iX_sheetLength_j48) (iI_rng (Int.le_trans (by decide) (Int.add_le_add (b_l4_x35.1) (Int.le_refl _))) (by omega) (by decide) (by decide)) (b_l3_j48) (by first | with_reducible assumption | omega | (rw [iI_t (by omega) (by omega)]; omega) | (have h7 : (0 : Int32).toInt = 0 := (by decide); omega)) (show iX_sheetLength.toInt ≤ iX_sheetLength_j48.toInt from by omega) (show nX_sheet ≤ nX_sheet_j48 from by omega) (by have e9 : ((iI (l4_x35.toInt + 1))).toInt = (l4_x35.toInt + 1) := (iI_t (Int.le_trans (by decide) (Int.add_le_add (b_l4_x35.1) (Int.le_refl _))) (Int.le_trans (Int.add_le_add (b_l4_x35.2) (Int.le_refl _)) (by decide))); omega) hP hD hS hl
  · have t_10 : ¬ v1.toInt = 0 := toI_neq c_10 rfl (by decide : (0 : Int32).toInt = 0)
    obtain ⟨qS329, hR329, hSS329⟩ := hE.2.2.2 18 _ rfl
    refine lv_ldcwS hx hb hown hR329 dX11_putGoal_13 ?_
    refine lv_goto (tgt := 22) hx hb dX11_putGoal_16 (by decide) ?_
    refine W.known (fun hz0 hn0 => ?_)
    have hS0 := hS.1
    have p9 := cj_2_0 (WX hX aX kX hT hM fX_ready fX_sheet dX_sheet nX_sheet iX_sheetLength xX_reader xX_solver xX_prover xX_values xX_clauses xX_nets) (WM hM aM kM iM_stands iM_variables iM_rows iM_goals iM_differents iM_cases fM_from fM_to fM_whole fM_ways iM_plainRows fM_plainRow fM_kept fM_goalOver fM_goalUnder fM_goalMax fM_different)
    have hPc := hP.mem (fun q h => p9.mem_iff.mpr (List.mem_append_left _ h))
    have hDc := (hD.perm p9).left
    have hKc : va_K (dC, dI) vwCl (tX kX) _ := hK.sub [0, 1] rfl
    have hFc := freeG p9 hD hS hA
    refine va_callv (va_runV (As := [.ref qS329]) (rest := []) ⟨hx, hb, hml, hown, hts⟩ (Met.sV (m_X11_putText l dC dI hX aX kX hT hM fX_ready fX_sheet dX_sheet nX_sheet iX_sheetLength xX_reader xX_solver xX_prover xX_values xX_clauses xX_nets qS329 3 (fun j => ([109, 97, 120] : List Int32).getD j 0) b_fX_sheet (by first | exact b_nX_sheet | with_reducible assumption | exact ⟨by omega, by omega⟩ | assumption) (b_iX_sheetLength) (by first | with_reducible assumption | omega | (rw [iI_t (by omega) (by omega)]; omega) | (have h7 : (0 : Int32).toInt = 0 := (by decide); omega)) (by decide) s.heap.size) s.heap) (cwV 1 hts gwsMX11_putGoal_0 rfl rfl rfl (by decide +kernel) ⟨by first | decide +kernel | (dsimp only [headSpec] <;> omega), by first | decide +kernel | (dsimp only [headSpec] <;> omega)⟩) ⟨fun a U g mk q => by obtain ⟨q0, qh, q1, qP, qK, qD, qE⟩ := q; exact ⟨q0, qh, q1, qP, va_K.moved (u := U) (U := U.calling g mk a) (Vm.Alike.refl U.vm) qK, qD, qE.same rfl⟩, va_recv hK hP (ci := 11) (q0 := 0) rfl rfl, fun U hU9 hW => ⟨rfl, hU9, by rw [hU9], by rw [hU9]; exact hPc, va_K.moved hW.alike hKc, hDc.weaken (fun _ _ _ _ => trivial), by rw [hU9]; exact (((hSS329 : (StrE qS329 3 (fun j => ([109, 97, 120] : List Int32).getD j 0)) A s s.heap).kept hS.2.1).narrow (fun q h => hFc q h)).warm hW⟩⟩ rfl rfl hl.1 rfl (lv_room (Nat.le_of_ble_eq_true rfl)) dX11_putGoal_22 ⟨by first | decide +kernel | (dsimp only [headSpec] <;> omega), by first | decide +kernel | (dsimp only [headSpec] <;> omega)⟩) hS (fun q _ h => hFc q h) hFc (fun u t9_ H locs ht hvm hw9 hB9 hz1 hk1 hS => ?_)
    revert u hw9 hB9
    refine fz_p4 ?_
    intro fX_sheet_131 dX_sheet_131 nX_sheet_131 iX_sheetLength_131 hw9 hB9
    try dsimp only at hw9 hB9
    revert hw9
    refine fz_a6 ?_
    intro b_fX_sheet_131 b_nX_sheet_131 b_iX_sheetLength_131 b_shl_131 f131_0 f131_1
    have hg1 := hB9.1.2.2.1
    rw [ht] at hg1
    have hg2 := hB9.1.2.2.2
    rw [ht] at hg2
    have hSz := hB9.2
    rw [ht] at hSz
    have p8 := cj_2_0 (WX hX aX kX hT hM fX_ready fX_sheet_131 dX_sheet_131 nX_sheet_131 iX_sheetLength_131 xX_reader xX_solver xX_prover xX_values xX_clauses xX_nets) (WM hM aM kM iM_stands iM_variables iM_rows iM_goals iM_differents iM_cases fM_from fM_to fM_whole fM_ways iM_plainRows fM_plainRow fM_kept fM_goalOver fM_goalUnder fM_goalMax fM_different)
    obtain ⟨hP, hD⟩ := frameG p9 p8 hP hD hk1 hFc (fz_P ht hB9.1.1) hB9.1.2.1
    have hz9 : H.size ≤ s.heap.size + (nX_sheet_131 / 32 - (nX_sheet / 32)) := by (try dsimp only at hg1); omega
    have hn9 : nS s.heap.size H ≤ (2 * nX_sheet_131 - (2 * nX_sheet)) := by rw [hSz.n hS0]; (try dsimp only at hg2); omega
    refine W.tight (cells2 := (nX_sheet_131 / 32 - (nX_sheet / 32))) (slots2 := (2 * nX_sheet_131 - (2 * nX_sheet))) hz9 hn9 ?_
    clear hz9 hn9 hz0 hn0 hS0 hSz hg1 hg2
    refine lv_iload_n hx hb dX11_putGoal_25 rfl (lv_at hl 1 rfl) ?_
    refine lv_bipush (v := 9) hx hb dX11_putGoal_26 (by decide) ?_
    refine lv_imul hx hb dX11_putGoal_28 ?_
    refine lv_topi (fun y132 hy132 => ?_)
    obtain rfl : (iI (p1.toInt * 9)) = y132 := (hy132.trans (iI_mul2 (iI_of _) (by decide : (9 : Int32) = iI 9))).symm
    refine lv_istore_n hx hb dX11_putGoal_29 rfl hl (by decide) rfl (fun ls (hl : lv_has ls _ ([(2, .int (iI (p1.toInt * 9))), (0, .ref (hX 0)), (1, .int p1)])) => ?_)
    refine lv_iconst (v := 1) hx hb dX11_putGoal_30 (by decide) ?_
    refine lv_istore_n hx hb dX11_putGoal_31 rfl hl (by decide) rfl (fun ls (hl : lv_has ls _ ([(3, .int 1), (2, .int (iI (p1.toInt * 9))), (0, .ref (hX 0)), (1, .int p1)])) => ?_)
    refine lv_iconst (v := 0) hx hb dX11_putGoal_32 (by decide) ?_
    refine lv_istore hx hb dX11_putGoal_33 hl (by decide) rfl (fun ls (hl : lv_has ls _ ([(4, .int 0), (3, .int 1), (2, .int (iI (p1.toInt * 9))), (0, .ref (hX 0)), (1, .int p1)])) => ?_)
    have hl : lv_has _ _ ([(4, .int 0), (3, .int 1), (2, .int (iI (p1.toInt * 9))), (0, .ref (hX 0)), (1, .int p1)]) := lv_sub hl [0, 1, 2, 3, 4] rfl
    refine (fun (loop : ∀ (n9 : Nat) (fX_sheet_x35_1 : Nat → Int32) (dX_sheet_x35_1 : Nat) (nX_sheet_x35_1 : Nat) (iX_sheetLength_x35_1 : Int32) (l4_x35_1 : Int32) (l3_x35_1 : Int32) (H : Heap) (locs : List Loc) (ls : Array Slot), (∀ q : Nat, (-128) ≤ (fX_sheet_x35_1 q).toInt ∧ (fX_sheet_x35_1 q).toInt ≤ 127) → (64 ≤ nX_sheet_x35_1 ∧ nX_sheet_x35_1 ≤ 60000) → (0 ≤ iX_sheetLength_x35_1.toInt ∧ iX_sheetLength_x35_1.toInt ≤ 30000) → (0 ≤ l4_x35_1.toInt ∧ l4_x35_1.toInt ≤ 8) → (0 ≤ l3_x35_1.toInt ∧ l3_x35_1.toInt ≤ 1) → (iX_sheetLength_x35_1.toInt ≤ ((nX_sheet_x35_1 : Nat) : Int)) → (iX_sheetLength.toInt ≤ iX_sheetLength_x35_1.toInt) → (nX_sheet ≤ nX_sheet_x35_1) → (8 - l4_x35_1.toInt < ((n9 : Nat) : Int)) → va_P (dC, dI) vwCl (WX hX aX kX hT hM fX_ready fX_sheet_x35_1 dX_sheet_x35_1 nX_sheet_x35_1 iX_sheetLength_x35_1 xX_reader xX_solver xX_prover xX_values xX_clauses xX_nets ++ (WM hM aM kM iM_stands iM_variables iM_rows iM_goals iM_differents iM_cases fM_from fM_to fM_whole fM_ways iM_plainRows fM_plainRow fM_kept fM_goalOver fM_goalUnder fM_goalMax fM_different)) H → va_D A (WX hX aX kX hT hM fX_ready fX_sheet_x35_1 dX_sheet_x35_1 nX_sheet_x35_1 iX_sheetLength_x35_1 xX_reader xX_solver xX_prover xX_values xX_clauses xX_nets ++ (WM hM aM kM iM_stands iM_variables iM_rows iM_goals iM_differents iM_cases fM_from fM_to fM_whole fM_ways iM_plainRows fM_plainRow fM_kept fM_goalOver fM_goalUnder fM_goalMax fM_different)) → va_S A s.heap H locs → lv_has ls 6 [(4, .int l4_x35_1), (3, .int l3_x35_1), (2, .int (iI (p1.toInt * 9))), (0, .ref (hX 0)), (1, .int p1)] → W p l e _ s m _ below meth c H locs (nX_sheet_x35_1 / 32 - (nX_sheet / 32)) (2 * nX_sheet_x35_1 - (2 * nX_sheet)) _ (F0 m 35 ls [])) => loop (9) fX_sheet_131 dX_sheet_131 nX_sheet_131 iX_sheetLength_131 0 1 _ _ _ b_fX_sheet_131 (by first | exact b_nX_sheet_131 | with_reducible assumption | exact ⟨by omega, by omega⟩ | assumption) (b_iX_sheetLength_131) (show 0 ≤ (0 : Int32).toInt ∧ (0 : Int32).toInt ≤ 8 from by decide) (show 0 ≤ (1 : Int32).toInt ∧ (1 : Int32).toInt ≤ 1 from by decide) (by first | with_reducible assumption | omega | (rw [iI_t (by omega) (by omega)]; omega) | (have h7 : (0 : Int32).toInt = 0 := (by decide); omega)) (show iX_sheetLength.toInt ≤ iX_sheetLength_131.toInt from by omega) (show nX_sheet ≤ nX_sheet_131 from by omega) ((by have e9 : (0 : Int32).toInt = 0 := (by decide : (0 : Int32).toInt = 0); omega)) hP hD hS hl) ?_
    intro n9
    induction n9 with
    | zero => intro fX_sheet_x35_1 dX_sheet_x35_1 nX_sheet_x35_1 iX_sheetLength_x35_1 l4_x35_1 l3_x35_1 H locs ls b_fX_sheet_x35_1 b_nX_sheet_x35_1 b_iX_sheetLength_x35_1 b_l4_x35_1 b_l3_x35_1 b_shl_x35_1 hlx hgm0_x35_1 hf9; exact False.elim (by omega)
    | succ n9 ihx35_1 =>
      intro fX_sheet_x35_1 dX_sheet_x35_1 nX_sheet_x35_1 iX_sheetLength_x35_1 l4_x35_1 l3_x35_1 H locs ls b_fX_sheet_x35_1 b_nX_sheet_x35_1 b_iX_sheetLength_x35_1 b_l4_x35_1 b_l3_x35_1 b_shl_x35_1 hlx hgm0_x35_1 hfx35_1 hP hD hS hl
      refine lv_iload hx hb dX11_putGoal_35 (lv_at hl 0 rfl) ?_
      refine lv_aload_n hx hb dX11_putGoal_37 rfl (lv_at hl 3 rfl) ?_
      refine va_get (D := (dC, dI)) (ci := 11) (v := .ref (hM 0)) (C := RX11) (T := TX11) (N := 11) hx hb hts iwsMX11_putGoal_in11 hown hK hP 0 rfl rfl 2 (by decide) (hts _ hm_m_X11_putGoal_0) (fun _ h9 => h9) rfl dX11_putGoal_38 ?_
      refine va_get (D := (dC, dI)) (ci := 1) (v := .int iM_variables) (C := RX1) (T := TX1) (N := 17) hx hb hts iwsMX11_putGoal_in1 hown hK hP 3 rfl rfl 1 (by decide) (hts _ hm_m_X11_putGoal_1) (fun _ h9 => h9) rfl dX11_putGoal_41 ?_
      refine lv_icmp_ge (tgt := 99) hx hb dX11_putGoal_44 (by decide) (fun c_44 => ?_) (fun c_44 => ?_)
      · have t_44 : l4_x35_1.toInt ≥ iM_variables.toInt := toI_ge c_44 rfl rfl
        refine lv_aload_n hx hb dX11_putGoal_99 rfl (lv_at hl 3 rfl) ?_
        refine va_get (D := (dC, dI)) (ci := 11) (v := .ref (hM 0)) (C := RX11) (T := TX11) (N := 11) hx hb hts iwsMX11_putGoal_in11 hown hK hP 0 rfl rfl 2 (by decide) (hts _ hm_m_X11_putGoal_0) (fun _ h9 => h9) rfl dX11_putGoal_100 ?_
        refine va_get (D := (dC, dI)) (ci := 1) (v := .ref (aM 6)) (C := RX1) (T := TX1) (N := 17) hx hb hts iwsMX11_putGoal_in1 hown hK hP 3 rfl rfl 13 (by decide) (hts _ hm_m_X11_putGoal_2) (fun _ h9 => h9) rfl dX11_putGoal_103 ?_
        refine lv_iload_n hx hb dX11_putGoal_106 rfl (lv_at hl 2 rfl) ?_
        refine va_iald (cA := kM 6) (n := 27) (f := fM_goalOver) hx hb hK hP 10 8 rfl rfl (vp_iI (Int.le_trans (by decide) (Int.mul_le_mul_of_nonneg_right (b_p1.1) (by decide))) (Int.lt_of_le_of_lt (Int.mul_le_mul_of_nonneg_right (b_p1.2) (by decide)) (by decide)) (by decide)) dX11_putGoal_107 ?_
        refine lv_topi (fun v221 hv221 => ?_)
        clear hv221
        refine lv_istore hx hb dX11_putGoal_108 hl (by decide) rfl (fun ls (hl : lv_has ls _ ([(4, .int v221), (3, .int l3_x35_1), (2, .int (iI (p1.toInt * 9))), (0, .ref (hX 0)), (1, .int p1)])) => ?_)
        refine lv_iload_n hx hb dX11_putGoal_110 rfl (lv_at hl 1 rfl) ?_
        refine W.known (fun hzk hnk => ?_)
        refine W.widen (k := 1875) (n := 120000) (by omega) (by omega) ?_
        refine W.cut (pc := 187) (fun H locs ls stk => ∃ (fX_sheet_j61 : Nat → Int32) (dX_sheet_j61 : Nat) (nX_sheet_j61 : Nat) (iX_sheetLength_j61 : Int32), (∀ q : Nat, (-128) ≤ (fX_sheet_j61 q).toInt ∧ (fX_sheet_j61 q).toInt ≤ 127) ∧ (64 ≤ nX_sheet_j61 ∧ nX_sheet_j61 ≤ 60000) ∧ (0 ≤ iX_sheetLength_j61.toInt ∧ iX_sheetLength_j61.toInt ≤ 30000) ∧ (iX_sheetLength_j61.toInt ≤ ((nX_sheet_j61 : Nat) : Int)) ∧ (iX_sheetLength.toInt ≤ iX_sheetLength_j61.toInt) ∧ (nX_sheet ≤ nX_sheet_j61) ∧ (H.size + (nX_sheet / 32) ≤ s.heap.size + (nX_sheet_j61 / 32) ∧ nS s.heap.size H + (2 * nX_sheet) ≤ (2 * nX_sheet_j61)) ∧  stk = [] ∧ va_P (dC, dI) vwCl (WX hX aX kX hT hM fX_ready fX_sheet_j61 dX_sheet_j61 nX_sheet_j61 iX_sheetLength_j61 xX_reader xX_solver xX_prover xX_values xX_clauses xX_nets ++ (WM hM aM kM iM_stands iM_variables iM_rows iM_goals iM_differents iM_cases fM_from fM_to fM_whole fM_ways iM_plainRows fM_plainRow fM_kept fM_goalOver fM_goalUnder fM_goalMax fM_different)) H ∧ va_D A (WX hX aX kX hT hM fX_ready fX_sheet_j61 dX_sheet_j61 nX_sheet_j61 iX_sheetLength_j61 xX_reader xX_solver xX_prover xX_values xX_clauses xX_nets ++ (WM hM aM kM iM_stands iM_variables iM_rows iM_goals iM_differents iM_cases fM_from fM_to fM_whole fM_ways iM_plainRows fM_plainRow fM_kept fM_goalOver fM_goalUnder fM_goalMax fM_different)) ∧ va_S A s.heap H locs ∧ lv_has ls 6 [(4, .int v221), (3, .int l3_x35_1), (2, .int (iI (p1.toInt * 9))), (0, .ref (hX 0)), (1, .int p1)]) (fun join61 => ?_) ?_
        · refine W.tight (cells2 := (nX_sheet_x35_1 / 32 - (nX_sheet / 32))) (slots2 := (2 * nX_sheet_x35_1 - (2 * nX_sheet))) hzk hnk ?_
          refine lv_if_eq (tgt := 138) hx hb dX11_putGoal_111 (by decide) (fun c_111 => ?_) (fun c_111 => ?_)
          · have t_111 : l3_x35_1.toInt = 0 := toI_eq c_111 rfl (by decide : (0 : Int32).toInt = 0)
            refine lv_iload hx hb dX11_putGoal_138 (lv_at hl 0 rfl) ?_
            refine lv_if_eq (tgt := 187) hx hb dX11_putGoal_140 (by decide) (fun c_140 => ?_) (fun c_140 => ?_)
            · have t_140 : v221.toInt = 0 := toI_eq c_140 rfl (by decide : (0 : Int32).toInt = 0)
              have hl : lv_has _ _ ([(4, .int v221), (3, .int l3_x35_1), (2, .int (iI (p1.toInt * 9))), (0, .ref (hX 0)), (1, .int p1)]) := lv_sub hl [0, 1, 2, 3, 4] rfl
              refine W.known (fun hza hna => ?_)
              refine W.widen (k := 1875) (n := 120000) (by omega) (by omega) ?_
              exact join61 _ _ _ _ ⟨fX_sheet_x35_1, dX_sheet_x35_1, nX_sheet_x35_1, iX_sheetLength_x35_1, b_fX_sheet_x35_1, (by first | exact b_nX_sheet_x35_1 | with_reducible assumption | exact ⟨by omega, by omega⟩ | assumption), (b_iX_sheetLength_x35_1), (by first | with_reducible assumption | omega | (rw [iI_t (by omega) (by omega)]; omega) | (have h7 : (0 : Int32).toInt = 0 := (by decide); omega)), (show iX_sheetLength.toInt ≤ iX_sheetLength_x35_1.toInt from by omega), (show nX_sheet ≤ nX_sheet_x35_1 from by omega), ⟨by omega, by omega⟩, rfl, hP, hD, hS, hl⟩
            · have t_140 : ¬ v221.toInt = 0 := toI_neq c_140 rfl (by decide : (0 : Int32).toInt = 0)
              refine lv_aload_n hx hb dX11_putGoal_143 rfl (lv_at hl 3 rfl) ?_
              refine lv_iload hx hb dX11_putGoal_144 (lv_at hl 0 rfl) ?_
              refine lv_if_ge (tgt := 155) hx hb dX11_putGoal_146 (by decide) (fun c_146 => ?_) (fun c_146 => ?_)
              · have t_146 : v221.toInt ≥ 0 := toI_ge c_146 rfl (by decide : (0 : Int32).toInt = 0)
                obtain ⟨qS335, hR335, hSS335⟩ := hE.2.2.2 21 _ rfl
                refine lv_ldcwS hx hb hown hR335 dX11_putGoal_155 ?_
                refine W.known (fun hz0 hn0 => ?_)
                have hS0 := hS.1
                have p9 := cj_2_0 (WX hX aX kX hT hM fX_ready fX_sheet_x35_1 dX_sheet_x35_1 nX_sheet_x35_1 iX_sheetLength_x35_1 xX_reader xX_solver xX_prover xX_values xX_clauses xX_nets) (WM hM aM kM iM_stands iM_variables iM_rows iM_goals iM_differents iM_cases fM_from fM_to fM_whole fM_ways iM_plainRows fM_plainRow fM_kept fM_goalOver fM_goalUnder fM_goalMax fM_different)
                have hPc := hP.mem (fun q h => p9.mem_iff.mpr (List.mem_append_left _ h))
                have hDc := (hD.perm p9).left
                have hKc : va_K (dC, dI) vwCl (tX kX) _ := hK.sub [0, 1] rfl
                have hFc := freeG p9 hD hS hA
                refine va_callv (va_runV (As := [.ref qS335]) (rest := []) ⟨hx, hb, hml, hown, hts⟩ (Met.sV (m_X11_putText l dC dI hX aX kX hT hM fX_ready fX_sheet_x35_1 dX_sheet_x35_1 nX_sheet_x35_1 iX_sheetLength_x35_1 xX_reader xX_solver xX_prover xX_values xX_clauses xX_nets qS335 3 (fun j => ([32, 43, 32] : List Int32).getD j 0) b_fX_sheet_x35_1 (by first | exact b_nX_sheet_x35_1 | with_reducible assumption | exact ⟨by omega, by omega⟩ | assumption) (b_iX_sheetLength_x35_1) (by first | with_reducible assumption | omega | (rw [iI_t (by omega) (by omega)]; omega) | (have h7 : (0 : Int32).toInt = 0 := (by decide); omega)) (by decide) H.size) H) (cwV 1 hts gwsMX11_putGoal_0 rfl rfl rfl (by decide +kernel) ⟨by first | decide +kernel | (dsimp only [headSpec] <;> omega), by first | decide +kernel | (dsimp only [headSpec] <;> omega)⟩) ⟨fun a U g mk q => by obtain ⟨q0, qh, q1, qP, qK, qD, qE⟩ := q; exact ⟨q0, qh, q1, qP, va_K.moved (u := U) (U := U.calling g mk a) (Vm.Alike.refl U.vm) qK, qD, qE.same rfl⟩, va_recv hK hP (ci := 11) (q0 := 0) rfl rfl, fun U hU9 hW => ⟨rfl, hU9, by rw [hU9], by rw [hU9]; exact hPc, va_K.moved hW.alike hKc, hDc.weaken (fun _ _ _ _ => trivial), by rw [hU9]; exact (((hSS335 : (StrE qS335 3 (fun j => ([32, 43, 32] : List Int32).getD j 0)) A s s.heap).kept hS.2.1).narrow (fun q h => hFc q h)).warm hW⟩⟩ rfl rfl hl.1 rfl (lv_room (Nat.le_of_ble_eq_true rfl)) dX11_putGoal_158 ⟨by first | decide +kernel | (dsimp only [headSpec] <;> omega), by first | decide +kernel | (dsimp only [headSpec] <;> omega)⟩) hS (fun q _ h => hFc q h) hFc (fun u t9_ H locs ht hvm hw9 hB9 hz1 hk1 hS => ?_)
                revert u hw9 hB9
                refine fz_p4 ?_
                intro fX_sheet_235 dX_sheet_235 nX_sheet_235 iX_sheetLength_235 hw9 hB9
                try dsimp only at hw9 hB9
                revert hw9
                refine fz_a6 ?_
                intro b_fX_sheet_235 b_nX_sheet_235 b_iX_sheetLength_235 b_shl_235 f235_0 f235_1
                have hg1 := hB9.1.2.2.1
                rw [ht] at hg1
                have hg2 := hB9.1.2.2.2
                rw [ht] at hg2
                have hSz := hB9.2
                rw [ht] at hSz
                have p8 := cj_2_0 (WX hX aX kX hT hM fX_ready fX_sheet_235 dX_sheet_235 nX_sheet_235 iX_sheetLength_235 xX_reader xX_solver xX_prover xX_values xX_clauses xX_nets) (WM hM aM kM iM_stands iM_variables iM_rows iM_goals iM_differents iM_cases fM_from fM_to fM_whole fM_ways iM_plainRows fM_plainRow fM_kept fM_goalOver fM_goalUnder fM_goalMax fM_different)
                obtain ⟨hP, hD⟩ := frameG p9 p8 hP hD hk1 hFc (fz_P ht hB9.1.1) hB9.1.2.1
                have hz9 : H.size ≤ s.heap.size + (nX_sheet_235 / 32 - (nX_sheet / 32)) := by (try dsimp only at hg1); omega
                have hn9 : nS s.heap.size H ≤ (2 * nX_sheet_235 - (2 * nX_sheet)) := by rw [hSz.n hS0]; (try dsimp only at hg2); omega
                refine W.tight (cells2 := (nX_sheet_235 / 32 - (nX_sheet / 32))) (slots2 := (2 * nX_sheet_235 - (2 * nX_sheet))) hz9 hn9 ?_
                clear hz9 hn9 hz0 hn0 hS0 hSz hg1 hg2
                refine lv_aload_n hx hb dX11_putGoal_161 rfl (lv_at hl 3 rfl) ?_
                refine lv_iload hx hb dX11_putGoal_162 (lv_at hl 0 rfl) ?_
                refine W.known (fun hzk hnk => ?_)
                refine W.widen (k := 1875) (n := 120000) (by omega) (by omega) ?_
                refine W.cut (pc := 175) (fun H locs ls stk => ∃ (k0_j62 : Int32), (iX_sheetLength.toInt ≤ iX_sheetLength_235.toInt) ∧ (H.size + (nX_sheet / 32) ≤ s.heap.size + (nX_sheet_235 / 32) ∧ nS s.heap.size H + (2 * nX_sheet) ≤ (2 * nX_sheet_235)) ∧  stk = [.int k0_j62, .ref (hX 0)] ∧ va_P (dC, dI) vwCl (WX hX aX kX hT hM fX_ready fX_sheet_235 dX_sheet_235 nX_sheet_235 iX_sheetLength_235 xX_reader xX_solver xX_prover xX_values xX_clauses xX_nets ++ (WM hM aM kM iM_stands iM_variables iM_rows iM_goals iM_differents iM_cases fM_from fM_to fM_whole fM_ways iM_plainRows fM_plainRow fM_kept fM_goalOver fM_goalUnder fM_goalMax fM_different)) H ∧ va_D A (WX hX aX kX hT hM fX_ready fX_sheet_235 dX_sheet_235 nX_sheet_235 iX_sheetLength_235 xX_reader xX_solver xX_prover xX_values xX_clauses xX_nets ++ (WM hM aM kM iM_stands iM_variables iM_rows iM_goals iM_differents iM_cases fM_from fM_to fM_whole fM_ways iM_plainRows fM_plainRow fM_kept fM_goalOver fM_goalUnder fM_goalMax fM_different)) ∧ va_S A s.heap H locs ∧ lv_has ls 6 [(4, .int v221), (3, .int l3_x35_1), (2, .int (iI (p1.toInt * 9))), (0, .ref (hX 0)), (1, .int p1)]) (fun join62 => ?_) ?_
                · refine W.tight (cells2 := (nX_sheet_235 / 32 - (nX_sheet / 32))) (slots2 := (2 * nX_sheet_235 - (2 * nX_sheet))) hzk hnk ?_
                  refine lv_if_ge (tgt := 173) hx hb dX11_putGoal_164 (by decide) (fun c_164 => ?_) (fun c_164 => ?_)
                  · have t_164 : v221.toInt ≥ 0 := toI_ge c_164 rfl (by decide : (0 : Int32).toInt = 0)
                    refine lv_iload hx hb dX11_putGoal_173 (lv_at hl 0 rfl) ?_
                    have hl : lv_has _ _ ([(4, .int v221), (3, .int l3_x35_1), (2, .int (iI (p1.toInt * 9))), (0, .ref (hX 0)), (1, .int p1)]) := lv_sub hl [0, 1, 2, 3, 4] rfl
                    refine W.known (fun hza hna => ?_)
                    refine W.widen (k := 1875) (n := 120000) (by omega) (by omega) ?_
                    exact join62 _ _ _ _ ⟨v221, (show iX_sheetLength.toInt ≤ iX_sheetLength_235.toInt from by omega), ⟨by omega, by omega⟩, rfl, hP, hD, hS, hl⟩
                  · have t_164 : ¬ v221.toInt ≥ 0 := toI_nge c_164 rfl (by decide : (0 : Int32).toInt = 0)
                    refine lv_iload hx hb dX11_putGoal_167 (lv_at hl 0 rfl) ?_
                    refine lv_ineg hx hb dX11_putGoal_169 ?_
                    refine lv_topi (fun y237 hy237 => ?_)
                    obtain rfl : (iI (-v221.toInt)) = y237 := (hy237.trans (iI_neg2 (iI_of _))).symm
                    refine lv_goto (tgt := 175) hx hb dX11_putGoal_170 (by decide) ?_
                    have hl : lv_has _ _ ([(4, .int v221), (3, .int l3_x35_1), (2, .int (iI (p1.toInt * 9))), (0, .ref (hX 0)), (1, .int p1)]) := lv_sub hl [0, 1, 2, 3, 4] rfl
                    refine W.known (fun hza hna => ?_)
                    refine W.widen (k := 1875) (n := 120000) (by omega) (by omega) ?_
                    exact join62 _ _ _ _ ⟨(iI (-v221.toInt)), (show iX_sheetLength.toInt ≤ iX_sheetLength_235.toInt from by omega), ⟨by omega, by omega⟩, rfl, hP, hD, hS, hl⟩
                · rintro H locs ls stk ⟨k0_j62, hjx, ⟨hzj, hnj⟩, rfl, hP, hD, hS, hl⟩
                  refine W.tight (cells2 := (nX_sheet_235 / 32 - (nX_sheet / 32))) (slots2 := (2 * nX_sheet_235 - (2 * nX_sheet))) (tg1 hzj hS.1) (tg2 hnj) ?_
                  refine lv_aload_n hx hb dX11_putGoal_175 rfl (lv_at hl 3 rfl) ?_
                  refine va_get (D := (dC, dI)) (ci := 11) (v := .ref (hM 0)) (C := RX11) (T := TX11) (N := 11) hx hb hts iwsMX11_putGoal_in11 hown hK hP 0 rfl rfl 2 (by decide) (hts _ hm_m_X11_putGoal_0) (fun _ h9 => h9) rfl dX11_putGoal_176 ?_
                  refine va_get (D := (dC, dI)) (ci := 1) (v := .ref (aM 7)) (C := RX1) (T := TX1) (N := 17) hx hb hts iwsMX11_putGoal_in1 hown hK hP 3 rfl rfl 14 (by decide) (hts _ hm_m_X11_putGoal_3) (fun _ h9 => h9) rfl dX11_putGoal_179 ?_
                  refine lv_iload_n hx hb dX11_putGoal_182 rfl (lv_at hl 2 rfl) ?_
                  refine va_iald (cA := kM 7) (n := 27) (f := fM_goalUnder) hx hb hK hP 11 9 rfl rfl (vp_iI (Int.le_trans (by decide) (Int.mul_le_mul_of_nonneg_right (b_p1.1) (by decide))) (Int.lt_of_le_of_lt (Int.mul_le_mul_of_nonneg_right (b_p1.2) (by decide)) (by decide)) (by decide)) dX11_putGoal_183 ?_
                  refine lv_topi (fun v238 hv238 => ?_)
                  clear hv238
                  refine W.known (fun hz0 hn0 => ?_)
                  have hS0 := hS.1
                  have p9 := cj_2_0 (WX hX aX kX hT hM fX_ready fX_sheet_235 dX_sheet_235 nX_sheet_235 iX_sheetLength_235 xX_reader xX_solver xX_prover xX_values xX_clauses xX_nets) (WM hM aM kM iM_stands iM_variables iM_rows iM_goals iM_differents iM_cases fM_from fM_to fM_whole fM_ways iM_plainRows fM_plainRow fM_kept fM_goalOver fM_goalUnder fM_goalMax fM_different)
                  have hPc := hP.mem (fun q h => p9.mem_iff.mpr (List.mem_append_left _ h))
                  have hDc := (hD.perm p9).left
                  have hKc : va_K (dC, dI) vwCl (tX kX) _ := hK.sub [0, 1] rfl
                  have hFc := freeG p9 hD hS hA
                  refine va_callv (va_runV (As := [.int k0_j62, .int v238]) (rest := []) ⟨hx, hb, hml, hown, hts⟩ (Met.sV (m_X11_putRatio l dC dI hX aX kX hT hM fX_ready fX_sheet_235 dX_sheet_235 nX_sheet_235 iX_sheetLength_235 xX_reader xX_solver xX_prover xX_values xX_clauses xX_nets k0_j62 v238 b_fX_sheet_235 (by first | exact b_nX_sheet_235 | with_reducible assumption | exact ⟨by omega, by omega⟩ | assumption) (b_iX_sheetLength_235) (by first | with_reducible assumption | omega | (rw [iI_t (by omega) (by omega)]; omega) | (have h7 : (0 : Int32).toInt = 0 := (by decide); omega)) H.size) H) (cwV 2 hts gwsMX11_putGoal_3 rfl rfl rfl (by decide +kernel) ⟨by first | decide +kernel | (dsimp only [headSpec] <;> omega), by first | decide +kernel | (dsimp only [headSpec] <;> omega)⟩) ⟨fun a U g mk q => by obtain ⟨q0, qh, q1, qP, qK, qD⟩ := q; exact ⟨q0, qh, q1, qP, va_K.moved (u := U) (U := U.calling g mk a) (Vm.Alike.refl U.vm) qK, qD⟩, va_recv hK hP (ci := 11) (q0 := 0) rfl rfl, fun U hU9 hW => ⟨rfl, hU9, by rw [hU9], by rw [hU9]; exact hPc, va_K.moved hW.alike hKc, hDc.weaken (fun _ _ _ _ => trivial)⟩⟩ rfl rfl hl.1 rfl (lv_room (Nat.le_of_ble_eq_true rfl)) dX11_putGoal_184 ⟨by first | decide +kernel | (dsimp only [headSpec] <;> omega), by first | decide +kernel | (dsimp only [headSpec] <;> omega)⟩) hS (fun q _ h => hFc q h) hFc (fun u t9_ H locs ht hvm hw9 hB9 hz1 hk1 hS => ?_)
                  revert u hw9 hB9
                  refine fz_p4 ?_
                  intro fX_sheet_239 dX_sheet_239 nX_sheet_239 iX_sheetLength_239 hw9 hB9
                  try dsimp only at hw9 hB9
                  revert hw9
                  refine fz_a6 ?_
                  intro b_fX_sheet_239 b_nX_sheet_239 b_iX_sheetLength_239 b_shl_239 f239_0 f239_1
                  have hg1 := hB9.1.2.2.1
                  rw [ht] at hg1
                  have hg2 := hB9.1.2.2.2
                  rw [ht] at hg2
                  have hSz := hB9.2
                  rw [ht] at hSz
                  have p8 := cj_2_0 (WX hX aX kX hT hM fX_ready fX_sheet_239 dX_sheet_239 nX_sheet_239 iX_sheetLength_239 xX_reader xX_solver xX_prover xX_values xX_clauses xX_nets) (WM hM aM kM iM_stands iM_variables iM_rows iM_goals iM_differents iM_cases fM_from fM_to fM_whole fM_ways iM_plainRows fM_plainRow fM_kept fM_goalOver fM_goalUnder fM_goalMax fM_different)
                  obtain ⟨hP, hD⟩ := frameG p9 p8 hP hD hk1 hFc (fz_P ht hB9.1.1) hB9.1.2.1
                  have hz9 : H.size ≤ s.heap.size + (nX_sheet_239 / 32 - (nX_sheet / 32)) := by (try dsimp only at hg1); omega
                  have hn9 : nS s.heap.size H ≤ (2 * nX_sheet_239 - (2 * nX_sheet)) := by rw [hSz.n hS0]; (try dsimp only at hg2); omega
                  refine W.tight (cells2 := (nX_sheet_239 / 32 - (nX_sheet / 32))) (slots2 := (2 * nX_sheet_239 - (2 * nX_sheet))) hz9 hn9 ?_
                  clear hz9 hn9 hz0 hn0 hS0 hSz hg1 hg2
                  have hl : lv_has _ _ ([(4, .int v221), (3, .int l3_x35_1), (2, .int (iI (p1.toInt * 9))), (0, .ref (hX 0)), (1, .int p1)]) := lv_sub hl [0, 1, 2, 3, 4] rfl
                  refine W.known (fun hza hna => ?_)
                  refine W.widen (k := 1875) (n := 120000) (by omega) (by omega) ?_
                  exact join61 _ _ _ _ ⟨fX_sheet_239, dX_sheet_239, nX_sheet_239, iX_sheetLength_239, b_fX_sheet_239, (by first | exact b_nX_sheet_239 | with_reducible assumption | exact ⟨by omega, by omega⟩ | assumption), (b_iX_sheetLength_239), (by first | with_reducible assumption | omega | (rw [iI_t (by omega) (by omega)]; omega) | (have h7 : (0 : Int32).toInt = 0 := (by decide); omega)), (show iX_sheetLength.toInt ≤ iX_sheetLength_239.toInt from by omega), (show nX_sheet ≤ nX_sheet_239 from by omega), ⟨by omega, by omega⟩, rfl, hP, hD, hS, hl⟩
              · have t_146 : ¬ v221.toInt ≥ 0 := toI_nge c_146 rfl (by decide : (0 : Int32).toInt = 0)
                obtain ⟨qS333, hR333, hSS333⟩ := hE.2.2.2 20 _ rfl
                refine lv_ldcwS hx hb hown hR333 dX11_putGoal_149 ?_
                refine lv_goto (tgt := 158) hx hb dX11_putGoal_152 (by decide) ?_
                refine W.known (fun hz0 hn0 => ?_)
                have hS0 := hS.1
                have p9 := cj_2_0 (WX hX aX kX hT hM fX_ready fX_sheet_x35_1 dX_sheet_x35_1 nX_sheet_x35_1 iX_sheetLength_x35_1 xX_reader xX_solver xX_prover xX_values xX_clauses xX_nets) (WM hM aM kM iM_stands iM_variables iM_rows iM_goals iM_differents iM_cases fM_from fM_to fM_whole fM_ways iM_plainRows fM_plainRow fM_kept fM_goalOver fM_goalUnder fM_goalMax fM_different)
                have hPc := hP.mem (fun q h => p9.mem_iff.mpr (List.mem_append_left _ h))
                have hDc := (hD.perm p9).left
                have hKc : va_K (dC, dI) vwCl (tX kX) _ := hK.sub [0, 1] rfl
                have hFc := freeG p9 hD hS hA
                refine va_callv (va_runV (As := [.ref qS333]) (rest := []) ⟨hx, hb, hml, hown, hts⟩ (Met.sV (m_X11_putText l dC dI hX aX kX hT hM fX_ready fX_sheet_x35_1 dX_sheet_x35_1 nX_sheet_x35_1 iX_sheetLength_x35_1 xX_reader xX_solver xX_prover xX_values xX_clauses xX_nets qS333 3 (fun j => ([32, 45, 32] : List Int32).getD j 0) b_fX_sheet_x35_1 (by first | exact b_nX_sheet_x35_1 | with_reducible assumption | exact ⟨by omega, by omega⟩ | assumption) (b_iX_sheetLength_x35_1) (by first | with_reducible assumption | omega | (rw [iI_t (by omega) (by omega)]; omega) | (have h7 : (0 : Int32).toInt = 0 := (by decide); omega)) (by decide) H.size) H) (cwV 1 hts gwsMX11_putGoal_0 rfl rfl rfl (by decide +kernel) ⟨by first | decide +kernel | (dsimp only [headSpec] <;> omega), by first | decide +kernel | (dsimp only [headSpec] <;> omega)⟩) ⟨fun a U g mk q => by obtain ⟨q0, qh, q1, qP, qK, qD, qE⟩ := q; exact ⟨q0, qh, q1, qP, va_K.moved (u := U) (U := U.calling g mk a) (Vm.Alike.refl U.vm) qK, qD, qE.same rfl⟩, va_recv hK hP (ci := 11) (q0 := 0) rfl rfl, fun U hU9 hW => ⟨rfl, hU9, by rw [hU9], by rw [hU9]; exact hPc, va_K.moved hW.alike hKc, hDc.weaken (fun _ _ _ _ => trivial), by rw [hU9]; exact (((hSS333 : (StrE qS333 3 (fun j => ([32, 45, 32] : List Int32).getD j 0)) A s s.heap).kept hS.2.1).narrow (fun q h => hFc q h)).warm hW⟩⟩ rfl rfl hl.1 rfl (lv_room (Nat.le_of_ble_eq_true rfl)) dX11_putGoal_158 ⟨by first | decide +kernel | (dsimp only [headSpec] <;> omega), by first | decide +kernel | (dsimp only [headSpec] <;> omega)⟩) hS (fun q _ h => hFc q h) hFc (fun u t9_ H locs ht hvm hw9 hB9 hz1 hk1 hS => ?_)
                revert u hw9 hB9
                refine fz_p4 ?_
                intro fX_sheet_240 dX_sheet_240 nX_sheet_240 iX_sheetLength_240 hw9 hB9
                try dsimp only at hw9 hB9
                revert hw9
                refine fz_a6 ?_
                intro b_fX_sheet_240 b_nX_sheet_240 b_iX_sheetLength_240 b_shl_240 f240_0 f240_1
                have hg1 := hB9.1.2.2.1
                rw [ht] at hg1
                have hg2 := hB9.1.2.2.2
                rw [ht] at hg2
                have hSz := hB9.2
                rw [ht] at hSz
                have p8 := cj_2_0 (WX hX aX kX hT hM fX_ready fX_sheet_240 dX_sheet_240 nX_sheet_240 iX_sheetLength_240 xX_reader xX_solver xX_prover xX_values xX_clauses xX_nets) (WM hM aM kM iM_stands iM_variables iM_rows iM_goals iM_differents iM_cases fM_from fM_to fM_whole fM_ways iM_plainRows fM_plainRow fM_kept fM_goalOver fM_goalUnder fM_goalMax fM_different)
                obtain ⟨hP, hD⟩ := frameG p9 p8 hP hD hk1 hFc (fz_P ht hB9.1.1) hB9.1.2.1
                have hz9 : H.size ≤ s.heap.size + (nX_sheet_240 / 32 - (nX_sheet / 32)) := by (try dsimp only at hg1); omega
                have hn9 : nS s.heap.size H ≤ (2 * nX_sheet_240 - (2 * nX_sheet)) := by rw [hSz.n hS0]; (try dsimp only at hg2); omega
                refine W.tight (cells2 := (nX_sheet_240 / 32 - (nX_sheet / 32))) (slots2 := (2 * nX_sheet_240 - (2 * nX_sheet))) hz9 hn9 ?_
                clear hz9 hn9 hz0 hn0 hS0 hSz hg1 hg2
                refine lv_aload_n hx hb dX11_putGoal_161 rfl (lv_at hl 3 rfl) ?_
                refine lv_iload hx hb dX11_putGoal_162 (lv_at hl 0 rfl) ?_
                refine W.known (fun hzk hnk => ?_)
                refine W.widen (k := 1875) (n := 120000) (by omega) (by omega) ?_
                refine W.cut (pc := 175) (fun H locs ls stk => ∃ (k0_j63 : Int32), (iX_sheetLength.toInt ≤ iX_sheetLength_240.toInt) ∧ (H.size + (nX_sheet / 32) ≤ s.heap.size + (nX_sheet_240 / 32) ∧ nS s.heap.size H + (2 * nX_sheet) ≤ (2 * nX_sheet_240)) ∧  stk = [.int k0_j63, .ref (hX 0)] ∧ va_P (dC, dI) vwCl (WX hX aX kX hT hM fX_ready fX_sheet_240 dX_sheet_240 nX_sheet_240 iX_sheetLength_240 xX_reader xX_solver xX_prover xX_values xX_clauses xX_nets ++ (WM hM aM kM iM_stands iM_variables iM_rows iM_goals iM_differents iM_cases fM_from fM_to fM_whole fM_ways iM_plainRows fM_plainRow fM_kept fM_goalOver fM_goalUnder fM_goalMax fM_different)) H ∧ va_D A (WX hX aX kX hT hM fX_ready fX_sheet_240 dX_sheet_240 nX_sheet_240 iX_sheetLength_240 xX_reader xX_solver xX_prover xX_values xX_clauses xX_nets ++ (WM hM aM kM iM_stands iM_variables iM_rows iM_goals iM_differents iM_cases fM_from fM_to fM_whole fM_ways iM_plainRows fM_plainRow fM_kept fM_goalOver fM_goalUnder fM_goalMax fM_different)) ∧ va_S A s.heap H locs ∧ lv_has ls 6 [(4, .int v221), (3, .int l3_x35_1), (2, .int (iI (p1.toInt * 9))), (0, .ref (hX 0)), (1, .int p1)]) (fun join63 => ?_) ?_
                · refine W.tight (cells2 := (nX_sheet_240 / 32 - (nX_sheet / 32))) (slots2 := (2 * nX_sheet_240 - (2 * nX_sheet))) hzk hnk ?_
                  refine lv_if_ge (tgt := 173) hx hb dX11_putGoal_164 (by decide) (fun c_164 => ?_) (fun c_164 => ?_)
                  · have t_164 : v221.toInt ≥ 0 := toI_ge c_164 rfl (by decide : (0 : Int32).toInt = 0)
                    refine lv_iload hx hb dX11_putGoal_173 (lv_at hl 0 rfl) ?_
                    have hl : lv_has _ _ ([(4, .int v221), (3, .int l3_x35_1), (2, .int (iI (p1.toInt * 9))), (0, .ref (hX 0)), (1, .int p1)]) := lv_sub hl [0, 1, 2, 3, 4] rfl
                    refine W.known (fun hza hna => ?_)
                    refine W.widen (k := 1875) (n := 120000) (by omega) (by omega) ?_
                    exact join63 _ _ _ _ ⟨v221, (show iX_sheetLength.toInt ≤ iX_sheetLength_240.toInt from by omega), ⟨by omega, by omega⟩, rfl, hP, hD, hS, hl⟩
                  · have t_164 : ¬ v221.toInt ≥ 0 := toI_nge c_164 rfl (by decide : (0 : Int32).toInt = 0)
                    refine lv_iload hx hb dX11_putGoal_167 (lv_at hl 0 rfl) ?_
                    refine lv_ineg hx hb dX11_putGoal_169 ?_
                    refine lv_topi (fun y242 hy242 => ?_)
                    obtain rfl : (iI (-v221.toInt)) = y242 := (hy242.trans (iI_neg2 (iI_of _))).symm
                    refine lv_goto (tgt := 175) hx hb dX11_putGoal_170 (by decide) ?_
                    have hl : lv_has _ _ ([(4, .int v221), (3, .int l3_x35_1), (2, .int (iI (p1.toInt * 9))), (0, .ref (hX 0)), (1, .int p1)]) := lv_sub hl [0, 1, 2, 3, 4] rfl
                    refine W.known (fun hza hna => ?_)
                    refine W.widen (k := 1875) (n := 120000) (by omega) (by omega) ?_
                    exact join63 _ _ _ _ ⟨(iI (-v221.toInt)), (show iX_sheetLength.toInt ≤ iX_sheetLength_240.toInt from by omega), ⟨by omega, by omega⟩, rfl, hP, hD, hS, hl⟩
                · rintro H locs ls stk ⟨k0_j63, hjx, ⟨hzj, hnj⟩, rfl, hP, hD, hS, hl⟩
                  refine W.tight (cells2 := (nX_sheet_240 / 32 - (nX_sheet / 32))) (slots2 := (2 * nX_sheet_240 - (2 * nX_sheet))) (tg1 hzj hS.1) (tg2 hnj) ?_
                  refine lv_aload_n hx hb dX11_putGoal_175 rfl (lv_at hl 3 rfl) ?_
                  refine va_get (D := (dC, dI)) (ci := 11) (v := .ref (hM 0)) (C := RX11) (T := TX11) (N := 11) hx hb hts iwsMX11_putGoal_in11 hown hK hP 0 rfl rfl 2 (by decide) (hts _ hm_m_X11_putGoal_0) (fun _ h9 => h9) rfl dX11_putGoal_176 ?_
                  refine va_get (D := (dC, dI)) (ci := 1) (v := .ref (aM 7)) (C := RX1) (T := TX1) (N := 17) hx hb hts iwsMX11_putGoal_in1 hown hK hP 3 rfl rfl 14 (by decide) (hts _ hm_m_X11_putGoal_3) (fun _ h9 => h9) rfl dX11_putGoal_179 ?_
                  refine lv_iload_n hx hb dX11_putGoal_182 rfl (lv_at hl 2 rfl) ?_
                  refine va_iald (cA := kM 7) (n := 27) (f := fM_goalUnder) hx hb hK hP 11 9 rfl rfl (vp_iI (Int.le_trans (by decide) (Int.mul_le_mul_of_nonneg_right (b_p1.1) (by decide))) (Int.lt_of_le_of_lt (Int.mul_le_mul_of_nonneg_right (b_p1.2) (by decide)) (by decide)) (by decide)) dX11_putGoal_183 ?_
                  refine lv_topi (fun v243 hv243 => ?_)
                  clear hv243
                  refine W.known (fun hz0 hn0 => ?_)
                  have hS0 := hS.1
                  have p9 := cj_2_0 (WX hX aX kX hT hM fX_ready fX_sheet_240 dX_sheet_240 nX_sheet_240 iX_sheetLength_240 xX_reader xX_solver xX_prover xX_values xX_clauses xX_nets) (WM hM aM kM iM_stands iM_variables iM_rows iM_goals iM_differents iM_cases fM_from fM_to fM_whole fM_ways iM_plainRows fM_plainRow fM_kept fM_goalOver fM_goalUnder fM_goalMax fM_different)
                  have hPc := hP.mem (fun q h => p9.mem_iff.mpr (List.mem_append_left _ h))
                  have hDc := (hD.perm p9).left
                  have hKc : va_K (dC, dI) vwCl (tX kX) _ := hK.sub [0, 1] rfl
                  have hFc := freeG p9 hD hS hA
                  refine va_callv (va_runV (As := [.int k0_j63, .int v243]) (rest := []) ⟨hx, hb, hml, hown, hts⟩ (Met.sV (m_X11_putRatio l dC dI hX aX kX hT hM fX_ready fX_sheet_240 dX_sheet_240 nX_sheet_240 iX_sheetLength_240 xX_reader xX_solver xX_prover xX_values xX_clauses xX_nets k0_j63 v243 b_fX_sheet_240 (by first | exact b_nX_sheet_240 | with_reducible assumption | exact ⟨by omega, by omega⟩ | assumption) (b_iX_sheetLength_240) (by first | with_reducible assumption | omega | (rw [iI_t (by omega) (by omega)]; omega) | (have h7 : (0 : Int32).toInt = 0 := (by decide); omega)) H.size) H) (cwV 2 hts gwsMX11_putGoal_3 rfl rfl rfl (by decide +kernel) ⟨by first | decide +kernel | (dsimp only [headSpec] <;> omega), by first | decide +kernel | (dsimp only [headSpec] <;> omega)⟩) ⟨fun a U g mk q => by obtain ⟨q0, qh, q1, qP, qK, qD⟩ := q; exact ⟨q0, qh, q1, qP, va_K.moved (u := U) (U := U.calling g mk a) (Vm.Alike.refl U.vm) qK, qD⟩, va_recv hK hP (ci := 11) (q0 := 0) rfl rfl, fun U hU9 hW => ⟨rfl, hU9, by rw [hU9], by rw [hU9]; exact hPc, va_K.moved hW.alike hKc, hDc.weaken (fun _ _ _ _ => trivial)⟩⟩ rfl rfl hl.1 rfl (lv_room (Nat.le_of_ble_eq_true rfl)) dX11_putGoal_184 ⟨by first | decide +kernel | (dsimp only [headSpec] <;> omega), by first | decide +kernel | (dsimp only [headSpec] <;> omega)⟩) hS (fun q _ h => hFc q h) hFc (fun u t9_ H locs ht hvm hw9 hB9 hz1 hk1 hS => ?_)
                  revert u hw9 hB9
                  refine fz_p4 ?_
                  intro fX_sheet_244 dX_sheet_244 nX_sheet_244 iX_sheetLength_244 hw9 hB9
                  try dsimp only at hw9 hB9
                  revert hw9
                  refine fz_a6 ?_
                  intro b_fX_sheet_244 b_nX_sheet_244 b_iX_sheetLength_244 b_shl_244 f244_0 f244_1
                  have hg1 := hB9.1.2.2.1
                  rw [ht] at hg1
                  have hg2 := hB9.1.2.2.2
                  rw [ht] at hg2
                  have hSz := hB9.2
                  rw [ht] at hSz
                  have p8 := cj_2_0 (WX hX aX kX hT hM fX_ready fX_sheet_244 dX_sheet_244 nX_sheet_244 iX_sheetLength_244 xX_reader xX_solver xX_prover xX_values xX_clauses xX_nets) (WM hM aM kM iM_stands iM_variables iM_rows iM_goals iM_differents iM_cases fM_from fM_to fM_whole fM_ways iM_plainRows fM_plainRow fM_kept fM_goalOver fM_goalUnder fM_goalMax fM_different)
                  obtain ⟨hP, hD⟩ := frameG p9 p8 hP hD hk1 hFc (fz_P ht hB9.1.1) hB9.1.2.1
                  have hz9 : H.size ≤ s.heap.size + (nX_sheet_244 / 32 - (nX_sheet / 32)) := by (try dsimp only at hg1); omega
                  have hn9 : nS s.heap.size H ≤ (2 * nX_sheet_244 - (2 * nX_sheet)) := by rw [hSz.n hS0]; (try dsimp only at hg2); omega
                  refine W.tight (cells2 := (nX_sheet_244 / 32 - (nX_sheet / 32))) (slots2 := (2 * nX_sheet_244 - (2 * nX_sheet))) hz9 hn9 ?_
                  clear hz9 hn9 hz0 hn0 hS0 hSz hg1 hg2
                  have hl : lv_has _ _ ([(4, .int v221), (3, .int l3_x35_1), (2, .int (iI (p1.toInt * 9))), (0, .ref (hX 0)), (1, .int p1)]) := lv_sub hl [0, 1, 2, 3, 4] rfl
                  refine W.known (fun hza hna => ?_)
                  refine W.widen (k := 1875) (n := 120000) (by omega) (by omega) ?_
                  exact join61 _ _ _ _ ⟨fX_sheet_244, dX_sheet_244, nX_sheet_244, iX_sheetLength_244, b_fX_sheet_244, (by first | exact b_nX_sheet_244 | with_reducible assumption | exact ⟨by omega, by omega⟩ | assumption), (b_iX_sheetLength_244), (by first | with_reducible assumption | omega | (rw [iI_t (by omega) (by omega)]; omega) | (have h7 : (0 : Int32).toInt = 0 := (by decide); omega)), (show iX_sheetLength.toInt ≤ iX_sheetLength_244.toInt from by omega), (show nX_sheet ≤ nX_sheet_244 from by omega), ⟨by omega, by omega⟩, rfl, hP, hD, hS, hl⟩
          · have t_111 : ¬ l3_x35_1.toInt = 0 := toI_neq c_111 rfl (by decide : (0 : Int32).toInt = 0)
            refine lv_aload_n hx hb dX11_putGoal_114 rfl (lv_at hl 3 rfl) ?_
            refine lv_bipush (v := 32) hx hb dX11_putGoal_115 (by decide) ?_
            refine W.known (fun hz0 hn0 => ?_)
            have hS0 := hS.1
            have p9 := cj_2_0 (WX hX aX kX hT hM fX_ready fX_sheet_x35_1 dX_sheet_x35_1 nX_sheet_x35_1 iX_sheetLength_x35_1 xX_reader xX_solver xX_prover xX_values xX_clauses xX_nets) (WM hM aM kM iM_stands iM_variables iM_rows iM_goals iM_differents iM_cases fM_from fM_to fM_whole fM_ways iM_plainRows fM_plainRow fM_kept fM_goalOver fM_goalUnder fM_goalMax fM_different)
            have hPc := hP.mem (fun q h => p9.mem_iff.mpr (List.mem_append_left _ h))
            have hDc := (hD.perm p9).left
            have hKc : va_K (dC, dI) vwCl (tX kX) _ := hK.sub [0, 1] rfl
            have hFc := freeG p9 hD hS hA
            refine va_callv (va_runV (As := [.int 32]) (rest := []) ⟨hx, hb, hml, hown, hts⟩ (Met.sV (m_X11_put l dC dI hX aX kX hT hM fX_ready fX_sheet_x35_1 dX_sheet_x35_1 nX_sheet_x35_1 iX_sheetLength_x35_1 xX_reader xX_solver xX_prover xX_values xX_clauses xX_nets 32 b_fX_sheet_x35_1 (by first | exact b_nX_sheet_x35_1 | with_reducible assumption | exact ⟨by omega, by omega⟩ | assumption) (b_iX_sheetLength_x35_1) (by first | with_reducible assumption | omega | (rw [iI_t (by omega) (by omega)]; omega) | (have h7 : (0 : Int32).toInt = 0 := (by decide); omega)) H.size) H) (cwV 1 hts gwsMX11_putGoal_2 rfl rfl rfl (by decide +kernel) ⟨by first | decide +kernel | (dsimp only [headSpec] <;> omega), by first | decide +kernel | (dsimp only [headSpec] <;> omega)⟩) ⟨fun a U g mk q => by obtain ⟨q0, qh, q1, qP, qK, qD⟩ := q; exact ⟨q0, qh, q1, qP, va_K.moved (u := U) (U := U.calling g mk a) (Vm.Alike.refl U.vm) qK, qD⟩, va_recv hK hP (ci := 11) (q0 := 0) rfl rfl, fun U hU9 hW => ⟨rfl, hU9, by rw [hU9], by rw [hU9]; exact hPc, va_K.moved hW.alike hKc, hDc.weaken (fun _ _ _ _ => trivial)⟩⟩ rfl rfl hl.1 rfl (lv_room (Nat.le_of_ble_eq_true rfl)) dX11_putGoal_117 ⟨by first | decide +kernel | (dsimp only [headSpec] <;> omega), by first | decide +kernel | (dsimp only [headSpec] <;> omega)⟩) hS (fun q _ h => hFc q h) hFc (fun u t9_ H locs ht hvm hw9 hB9 hz1 hk1 hS => ?_)
            revert u hw9 hB9
            refine fz_p4 ?_
            intro fX_sheet_245 dX_sheet_245 nX_sheet_245 iX_sheetLength_245 hw9 hB9
            try dsimp only at hw9 hB9
            revert hw9
            refine fz_a6 ?_
            intro b_fX_sheet_245 b_nX_sheet_245 b_iX_sheetLength_245 b_shl_245 f245_0 f245_1
            have hg1 := hB9.1.2.2.1
            rw [ht] at hg1
            have hg2 := hB9.1.2.2.2
            rw [ht] at hg2
            have hSz := hB9.2
            rw [ht] at hSz
            have p8 := cj_2_0 (WX hX aX kX hT hM fX_ready fX_sheet_245 dX_sheet_245 nX_sheet_245 iX_sheetLength_245 xX_reader xX_solver xX_prover xX_values xX_clauses xX_nets) (WM hM aM kM iM_stands iM_variables iM_rows iM_goals iM_differents iM_cases fM_from fM_to fM_whole fM_ways iM_plainRows fM_plainRow fM_kept fM_goalOver fM_goalUnder fM_goalMax fM_different)
            obtain ⟨hP, hD⟩ := frameG p9 p8 hP hD hk1 hFc (fz_P ht hB9.1.1) hB9.1.2.1
            have hz9 : H.size ≤ s.heap.size + (nX_sheet_245 / 32 - (nX_sheet / 32)) := by (try dsimp only at hg1); omega
            have hn9 : nS s.heap.size H ≤ (2 * nX_sheet_245 - (2 * nX_sheet)) := by rw [hSz.n hS0]; (try dsimp only at hg2); omega
            refine W.tight (cells2 := (nX_sheet_245 / 32 - (nX_sheet / 32))) (slots2 := (2 * nX_sheet_245 - (2 * nX_sheet))) hz9 hn9 ?_
            clear hz9 hn9 hz0 hn0 hS0 hSz hg1 hg2
            refine lv_aload_n hx hb dX11_putGoal_120 rfl (lv_at hl 3 rfl) ?_
            refine lv_iload hx hb dX11_putGoal_121 (lv_at hl 0 rfl) ?_
            refine lv_aload_n hx hb dX11_putGoal_123 rfl (lv_at hl 3 rfl) ?_
            refine va_get (D := (dC, dI)) (ci := 11) (v := .ref (hM 0)) (C := RX11) (T := TX11) (N := 11) hx hb hts iwsMX11_putGoal_in11 hown hK hP 0 rfl rfl 2 (by decide) (hts _ hm_m_X11_putGoal_0) (fun _ h9 => h9) rfl dX11_putGoal_124 ?_
            refine va_get (D := (dC, dI)) (ci := 1) (v := .ref (aM 7)) (C := RX1) (T := TX1) (N := 17) hx hb hts iwsMX11_putGoal_in1 hown hK hP 3 rfl rfl 14 (by decide) (hts _ hm_m_X11_putGoal_3) (fun _ h9 => h9) rfl dX11_putGoal_127 ?_
            refine lv_iload_n hx hb dX11_putGoal_130 rfl (lv_at hl 2 rfl) ?_
            refine va_iald (cA := kM 7) (n := 27) (f := fM_goalUnder) hx hb hK hP 11 9 rfl rfl (vp_iI (Int.le_trans (by decide) (Int.mul_le_mul_of_nonneg_right (b_p1.1) (by decide))) (Int.lt_of_le_of_lt (Int.mul_le_mul_of_nonneg_right (b_p1.2) (by decide)) (by decide)) (by decide)) dX11_putGoal_131 ?_
            refine lv_topi (fun v246 hv246 => ?_)
            clear hv246
            refine W.known (fun hz0 hn0 => ?_)
            have hS0 := hS.1
            have p9 := cj_2_0 (WX hX aX kX hT hM fX_ready fX_sheet_245 dX_sheet_245 nX_sheet_245 iX_sheetLength_245 xX_reader xX_solver xX_prover xX_values xX_clauses xX_nets) (WM hM aM kM iM_stands iM_variables iM_rows iM_goals iM_differents iM_cases fM_from fM_to fM_whole fM_ways iM_plainRows fM_plainRow fM_kept fM_goalOver fM_goalUnder fM_goalMax fM_different)
            have hPc := hP.mem (fun q h => p9.mem_iff.mpr (List.mem_append_left _ h))
            have hDc := (hD.perm p9).left
            have hKc : va_K (dC, dI) vwCl (tX kX) _ := hK.sub [0, 1] rfl
            have hFc := freeG p9 hD hS hA
            refine va_callv (va_runV (As := [.int v221, .int v246]) (rest := []) ⟨hx, hb, hml, hown, hts⟩ (Met.sV (m_X11_putRatio l dC dI hX aX kX hT hM fX_ready fX_sheet_245 dX_sheet_245 nX_sheet_245 iX_sheetLength_245 xX_reader xX_solver xX_prover xX_values xX_clauses xX_nets v221 v246 b_fX_sheet_245 (by first | exact b_nX_sheet_245 | with_reducible assumption | exact ⟨by omega, by omega⟩ | assumption) (b_iX_sheetLength_245) (by first | with_reducible assumption | omega | (rw [iI_t (by omega) (by omega)]; omega) | (have h7 : (0 : Int32).toInt = 0 := (by decide); omega)) H.size) H) (cwV 2 hts gwsMX11_putGoal_3 rfl rfl rfl (by decide +kernel) ⟨by first | decide +kernel | (dsimp only [headSpec] <;> omega), by first | decide +kernel | (dsimp only [headSpec] <;> omega)⟩) ⟨fun a U g mk q => by obtain ⟨q0, qh, q1, qP, qK, qD⟩ := q; exact ⟨q0, qh, q1, qP, va_K.moved (u := U) (U := U.calling g mk a) (Vm.Alike.refl U.vm) qK, qD⟩, va_recv hK hP (ci := 11) (q0 := 0) rfl rfl, fun U hU9 hW => ⟨rfl, hU9, by rw [hU9], by rw [hU9]; exact hPc, va_K.moved hW.alike hKc, hDc.weaken (fun _ _ _ _ => trivial)⟩⟩ rfl rfl hl.1 rfl (lv_room (Nat.le_of_ble_eq_true rfl)) dX11_putGoal_132 ⟨by first | decide +kernel | (dsimp only [headSpec] <;> omega), by first | decide +kernel | (dsimp only [headSpec] <;> omega)⟩) hS (fun q _ h => hFc q h) hFc (fun u t9_ H locs ht hvm hw9 hB9 hz1 hk1 hS => ?_)
            revert u hw9 hB9
            refine fz_p4 ?_
            intro fX_sheet_247 dX_sheet_247 nX_sheet_247 iX_sheetLength_247 hw9 hB9
            try dsimp only at hw9 hB9
            revert hw9
            refine fz_a6 ?_
            intro b_fX_sheet_247 b_nX_sheet_247 b_iX_sheetLength_247 b_shl_247 f247_0 f247_1
            have hg1 := hB9.1.2.2.1
            rw [ht] at hg1
            have hg2 := hB9.1.2.2.2
            rw [ht] at hg2
            have hSz := hB9.2
            rw [ht] at hSz
            have p8 := cj_2_0 (WX hX aX kX hT hM fX_ready fX_sheet_247 dX_sheet_247 nX_sheet_247 iX_sheetLength_247 xX_reader xX_solver xX_prover xX_values xX_clauses xX_nets) (WM hM aM kM iM_stands iM_variables iM_rows iM_goals iM_differents iM_cases fM_from fM_to fM_whole fM_ways iM_plainRows fM_plainRow fM_kept fM_goalOver fM_goalUnder fM_goalMax fM_different)
            obtain ⟨hP, hD⟩ := frameG p9 p8 hP hD hk1 hFc (fz_P ht hB9.1.1) hB9.1.2.1
            have hz9 : H.size ≤ s.heap.size + (nX_sheet_247 / 32 - (nX_sheet / 32)) := by (try dsimp only at hg1); omega
            have hn9 : nS s.heap.size H ≤ (2 * nX_sheet_247 - (2 * nX_sheet)) := by rw [hSz.n hS0]; (try dsimp only at hg2); omega
            refine W.tight (cells2 := (nX_sheet_247 / 32 - (nX_sheet / 32))) (slots2 := (2 * nX_sheet_247 - (2 * nX_sheet))) hz9 hn9 ?_
            clear hz9 hn9 hz0 hn0 hS0 hSz hg1 hg2
            refine lv_goto (tgt := 187) hx hb dX11_putGoal_135 (by decide) ?_
            have hl : lv_has _ _ ([(4, .int v221), (3, .int l3_x35_1), (2, .int (iI (p1.toInt * 9))), (0, .ref (hX 0)), (1, .int p1)]) := lv_sub hl [0, 1, 2, 3, 4] rfl
            refine W.known (fun hza hna => ?_)
            refine W.widen (k := 1875) (n := 120000) (by omega) (by omega) ?_
            exact join61 _ _ _ _ ⟨fX_sheet_247, dX_sheet_247, nX_sheet_247, iX_sheetLength_247, b_fX_sheet_247, (by first | exact b_nX_sheet_247 | with_reducible assumption | exact ⟨by omega, by omega⟩ | assumption), (b_iX_sheetLength_247), (by first | with_reducible assumption | omega | (rw [iI_t (by omega) (by omega)]; omega) | (have h7 : (0 : Int32).toInt = 0 := (by decide); omega)), (show iX_sheetLength.toInt ≤ iX_sheetLength_247.toInt from by omega), (show nX_sheet ≤ nX_sheet_247 from by omega), ⟨by omega, by omega⟩, rfl, hP, hD, hS, hl⟩
        · rintro H locs ls stk ⟨fX_sheet_j61, dX_sheet_j61, nX_sheet_j61, iX_sheetLength_j61, b_fX_sheet_j61, b_nX_sheet_j61, b_iX_sheetLength_j61, b_shl_j61, hjx, hgm0_j61, ⟨hzj, hnj⟩, rfl, hP, hD, hS, hl⟩
          refine W.tight (cells2 := (nX_sheet_j61 / 32 - (nX_sheet / 32))) (slots2 := (2 * nX_sheet_j61 - (2 * nX_sheet))) (tg1 hzj hS.1) (tg2 hnj) ?_
          refine lv_aload_n hx hb dX11_putGoal_187 rfl (lv_at hl 3 rfl) ?_
          obtain ⟨qS292, hR292, hSS292⟩ := hE.2.2.2 4 _ rfl
          refine lv_ldcwS hx hb hown hR292 dX11_putGoal_188 ?_
          refine W.known (fun hz0 hn0 => ?_)
          have hS0 := hS.1
          have p9 := cj_2_0 (WX hX aX kX hT hM fX_ready fX_sheet_j61 dX_sheet_j61 nX_sheet_j61 iX_sheetLength_j61 xX_reader xX_solver xX_prover xX_values xX_clauses xX_nets) (WM hM aM kM iM_stands iM_variables iM_rows iM_goals iM_differents iM_cases fM_from fM_to fM_whole fM_ways iM_plainRows fM_plainRow fM_kept fM_goalOver fM_goalUnder fM_goalMax fM_different)
          have hPc := hP.mem (fun q h => p9.mem_iff.mpr (List.mem_append_left _ h))
          have hDc := (hD.perm p9).left
          have hKc : va_K (dC, dI) vwCl (tX kX) _ := hK.sub [0, 1] rfl
          have hFc := freeG p9 hD hS hA
          refine va_callv (va_runV (As := [.ref qS292]) (rest := []) ⟨hx, hb, hml, hown, hts⟩ (Met.sV (m_X11_putText l dC dI hX aX kX hT hM fX_ready fX_sheet_j61 dX_sheet_j61 nX_sheet_j61 iX_sheetLength_j61 xX_reader xX_solver xX_prover xX_values xX_clauses xX_nets qS292 3 (fun j => ([32, 59, 10] : List Int32).getD j 0) b_fX_sheet_j61 (by first | exact b_nX_sheet_j61 | with_reducible assumption | exact ⟨by omega, by omega⟩ | assumption) (by first | exact b_iX_sheetLength_j61 | with_reducible assumption | exact ⟨by omega, by omega⟩ | assumption) (by first | with_reducible assumption | omega | (rw [iI_t (by omega) (by omega)]; omega) | (have h7 : (0 : Int32).toInt = 0 := (by decide); omega)) (by decide) H.size) H) (cwV 1 hts gwsMX11_putGoal_0 rfl rfl rfl (by decide +kernel) ⟨by first | decide +kernel | (dsimp only [headSpec] <;> omega), by first | decide +kernel | (dsimp only [headSpec] <;> omega)⟩) ⟨fun a U g mk q => by obtain ⟨q0, qh, q1, qP, qK, qD, qE⟩ := q; exact ⟨q0, qh, q1, qP, va_K.moved (u := U) (U := U.calling g mk a) (Vm.Alike.refl U.vm) qK, qD, qE.same rfl⟩, va_recv hK hP (ci := 11) (q0 := 0) rfl rfl, fun U hU9 hW => ⟨rfl, hU9, by rw [hU9], by rw [hU9]; exact hPc, va_K.moved hW.alike hKc, hDc.weaken (fun _ _ _ _ => trivial), by rw [hU9]; exact (((hSS292 : (StrE qS292 3 (fun j => ([32, 59, 10] : List Int32).getD j 0)) A s s.heap).kept hS.2.1).narrow (fun q h => hFc q h)).warm hW⟩⟩ rfl rfl hl.1 rfl (lv_room (Nat.le_of_ble_eq_true rfl)) dX11_putGoal_191 ⟨by first | decide +kernel | (dsimp only [headSpec] <;> omega), by first | decide +kernel | (dsimp only [headSpec] <;> omega)⟩) hS (fun q _ h => hFc q h) hFc (fun u t9_ H locs ht hvm hw9 hB9 hz1 hk1 hS => ?_)
          revert u hw9 hB9
          refine fz_p4 ?_
          intro fX_sheet_248 dX_sheet_248 nX_sheet_248 iX_sheetLength_248 hw9 hB9
          try dsimp only at hw9 hB9
          revert hw9
          refine fz_a6 ?_
          intro b_fX_sheet_248 b_nX_sheet_248 b_iX_sheetLength_248 b_shl_248 f248_0 f248_1
          have hg1 := hB9.1.2.2.1
          rw [ht] at hg1
          have hg2 := hB9.1.2.2.2
          rw [ht] at hg2
          have hSz := hB9.2
          rw [ht] at hSz
          have p8 := cj_2_0 (WX hX aX kX hT hM fX_ready fX_sheet_248 dX_sheet_248 nX_sheet_248 iX_sheetLength_248 xX_reader xX_solver xX_prover xX_values xX_clauses xX_nets) (WM hM aM kM iM_stands iM_variables iM_rows iM_goals iM_differents iM_cases fM_from fM_to fM_whole fM_ways iM_plainRows fM_plainRow fM_kept fM_goalOver fM_goalUnder fM_goalMax fM_different)
          obtain ⟨hP, hD⟩ := frameG p9 p8 hP hD hk1 hFc (fz_P ht hB9.1.1) hB9.1.2.1
          have hz9 : H.size ≤ s.heap.size + (nX_sheet_248 / 32 - (nX_sheet / 32)) := by (try dsimp only at hg1); omega
          have hn9 : nS s.heap.size H ≤ (2 * nX_sheet_248 - (2 * nX_sheet)) := by rw [hSz.n hS0]; (try dsimp only at hg2); omega
          refine W.tight (cells2 := (nX_sheet_248 / 32 - (nX_sheet / 32))) (slots2 := (2 * nX_sheet_248 - (2 * nX_sheet))) hz9 hn9 ?_
          clear hz9 hn9 hz0 hn0 hS0 hSz hg1 hg2
          refine W.known (fun hz9 hn9 => ?_)
          refine W.widen (k := 9376) (n := 660000) (by omega) (by omega) ?_
          exact W.vret hx hb hr (fun t9_ ht hW => ⟨⟨(fX_sheet_248, dX_sheet_248, nX_sheet_248, iX_sheetLength_248), rfl, ⟨b_fX_sheet_248, (by (try dsimp only); exact (by first | exact b_nX_sheet_248 | with_reducible assumption | exact ⟨by omega, by omega⟩ | assumption)), b_iX_sheetLength_248, (by (try dsimp only); exact (by first | with_reducible assumption | omega | (rw [iI_t (by omega) (by omega)]; omega) | (have h7 : (0 : Int32).toInt = 0 := (by decide); omega))), (by (try dsimp only); omega), (by (try dsimp only); first | omega | (rw [iI_t (by omega) (by omega)]; omega))⟩, by rw [ht]; exact hP, hD, by rw [ht]; (try dsimp only); omega, by rw [ht]; (try dsimp only); omega⟩, hS.F ht⟩) hS.2.2 dX11_putGoal_194
      · have t_44 : ¬ l4_x35_1.toInt ≥ iM_variables.toInt := toI_nge c_44 rfl rfl
        refine lv_aload_n hx hb dX11_putGoal_47 rfl (lv_at hl 3 rfl) ?_
        refine va_get (D := (dC, dI)) (ci := 11) (v := .ref (hM 0)) (C := RX11) (T := TX11) (N := 11) hx hb hts iwsMX11_putGoal_in11 hown hK hP 0 rfl rfl 2 (by decide) (hts _ hm_m_X11_putGoal_0) (fun _ h9 => h9) rfl dX11_putGoal_48 ?_
        refine va_get (D := (dC, dI)) (ci := 1) (v := .ref (aM 6)) (C := RX1) (T := TX1) (N := 17) hx hb hts iwsMX11_putGoal_in1 hown hK hP 3 rfl rfl 13 (by decide) (hts _ hm_m_X11_putGoal_2) (fun _ h9 => h9) rfl dX11_putGoal_51 ?_
        refine lv_iload_n hx hb dX11_putGoal_54 rfl (lv_at hl 2 rfl) ?_
        refine lv_iload hx hb dX11_putGoal_55 (lv_at hl 0 rfl) ?_
        refine lv_iadd hx hb dX11_putGoal_57 ?_
        refine lv_topi (fun y249 hy249 => ?_)
        obtain rfl : (iI ((p1.toInt * 9) + l4_x35_1.toInt)) = y249 := (hy249.trans (iI_add2 rfl (iI_of _))).symm
        refine lv_iconst (v := 1) hx hb dX11_putGoal_58 (by decide) ?_
        refine lv_iadd hx hb dX11_putGoal_59 ?_
        refine lv_topi (fun y250 hy250 => ?_)
        obtain rfl : (iI (((p1.toInt * 9) + l4_x35_1.toInt) + 1)) = y250 := (hy250.trans (iI_add2 rfl (by decide : (1 : Int32) = iI 1))).symm
        refine va_iald (cA := kM 6) (n := 27) (f := fM_goalOver) hx hb hK hP 10 8 rfl rfl (vp_iI (Int.le_trans (by decide) (Int.add_le_add (Int.add_le_add (Int.mul_le_mul_of_nonneg_right (b_p1.1) (by decide)) (b_l4_x35_1.1)) (Int.le_refl _))) (by omega) (by decide)) dX11_putGoal_60 ?_
        refine lv_topi (fun v251 hv251 => ?_)
        clear hv251
        refine lv_istore hx hb dX11_putGoal_61 hl (by decide) rfl (fun ls (hl : lv_has ls _ ([(5, .int v251), (4, .int l4_x35_1), (3, .int l3_x35_1), (2, .int (iI (p1.toInt * 9))), (0, .ref (hX 0)), (1, .int p1)])) => ?_)
        refine lv_iload hx hb dX11_putGoal_63 (lv_at hl 0 rfl) ?_
        refine W.known (fun hzk hnk => ?_)
        refine W.widen (k := 1875) (n := 120000) (by omega) (by omega) ?_
        refine W.cut (pc := 93) (fun H locs ls stk => ∃ (fX_sheet_j64 : Nat → Int32) (dX_sheet_j64 : Nat) (nX_sheet_j64 : Nat) (iX_sheetLength_j64 : Int32) (l3_j64 : Int32), (∀ q : Nat, (-128) ≤ (fX_sheet_j64 q).toInt ∧ (fX_sheet_j64 q).toInt ≤ 127) ∧ (64 ≤ nX_sheet_j64 ∧ nX_sheet_j64 ≤ 60000) ∧ (0 ≤ iX_sheetLength_j64.toInt ∧ iX_sheetLength_j64.toInt ≤ 30000) ∧ (0 ≤ l3_j64.toInt ∧ l3_j64.toInt ≤ 1) ∧ (iX_sheetLength_j64.toInt ≤ ((nX_sheet_j64 : Nat) : Int)) ∧ (iX_sheetLength.toInt ≤ iX_sheetLength_j64.toInt) ∧ (nX_sheet ≤ nX_sheet_j64) ∧ (H.size + (nX_sheet / 32) ≤ s.heap.size + (nX_sheet_j64 / 32) ∧ nS s.heap.size H + (2 * nX_sheet) ≤ (2 * nX_sheet_j64)) ∧  stk = [] ∧ va_P (dC, dI) vwCl (WX hX aX kX hT hM fX_ready fX_sheet_j64 dX_sheet_j64 nX_sheet_j64 iX_sheetLength_j64 xX_reader xX_solver xX_prover xX_values xX_clauses xX_nets ++ (WM hM aM kM iM_stands iM_variables iM_rows iM_goals iM_differents iM_cases fM_from fM_to fM_whole fM_ways iM_plainRows fM_plainRow fM_kept fM_goalOver fM_goalUnder fM_goalMax fM_different)) H ∧ va_D A (WX hX aX kX hT hM fX_ready fX_sheet_j64 dX_sheet_j64 nX_sheet_j64 iX_sheetLength_j64 xX_reader xX_solver xX_prover xX_values xX_clauses xX_nets ++ (WM hM aM kM iM_stands iM_variables iM_rows iM_goals iM_differents iM_cases fM_from fM_to fM_whole fM_ways iM_plainRows fM_plainRow fM_kept fM_goalOver fM_goalUnder fM_goalMax fM_different)) ∧ va_S A s.heap H locs ∧ lv_has ls 6 [(5, .int v251), (4, .int l4_x35_1), (3, .int l3_j64), (2, .int (iI (p1.toInt * 9))), (0, .ref (hX 0)), (1, .int p1)]) (fun join64 => ?_) ?_
        · refine W.tight (cells2 := (nX_sheet_x35_1 / 32 - (nX_sheet / 32))) (slots2 := (2 * nX_sheet_x35_1 - (2 * nX_sheet))) hzk hnk ?_
          refine lv_if_eq (tgt := 93) hx hb dX11_putGoal_65 (by decide) (fun c_65 => ?_) (fun c_65 => ?_)
          · have t_65 : v251.toInt = 0 := toI_eq c_65 rfl (by decide : (0 : Int32).toInt = 0)
            have hl : lv_has _ _ ([(5, .int v251), (4, .int l4_x35_1), (3, .int l3_x35_1), (2, .int (iI (p1.toInt * 9))), (0, .ref (hX 0)), (1, .int p1)]) := lv_sub hl [0, 1, 2, 3, 4, 5] rfl
            refine W.known (fun hza hna => ?_)
            refine W.widen (k := 1875) (n := 120000) (by omega) (by omega) ?_
            exact join64 _ _ _ _ ⟨fX_sheet_x35_1, dX_sheet_x35_1, nX_sheet_x35_1, iX_sheetLength_x35_1, l3_x35_1, b_fX_sheet_x35_1, (by first | exact b_nX_sheet_x35_1 | with_reducible assumption | exact ⟨by omega, by omega⟩ | assumption), (b_iX_sheetLength_x35_1), (b_l3_x35_1), (by first | with_reducible assumption | omega | (rw [iI_t (by omega) (by omega)]; omega) | (have h7 : (0 : Int32).toInt = 0 := (by decide); omega)), (show iX_sheetLength.toInt ≤ iX_sheetLength_x35_1.toInt from by omega), (show nX_sheet ≤ nX_sheet_x35_1 from by omega), ⟨by omega, by omega⟩, rfl, hP, hD, hS, hl⟩
          · have t_65 : ¬ v251.toInt = 0 := toI_neq c_65 rfl (by decide : (0 : Int32).toInt = 0)
            refine lv_aload_n hx hb dX11_putGoal_68 rfl (lv_at hl 4 rfl) ?_
            refine lv_iload hx hb dX11_putGoal_69 (lv_at hl 0 rfl) ?_
            refine lv_aload_n hx hb dX11_putGoal_71 rfl (lv_at hl 4 rfl) ?_
            refine va_get (D := (dC, dI)) (ci := 11) (v := .ref (hM 0)) (C := RX11) (T := TX11) (N := 11) hx hb hts iwsMX11_putGoal_in11 hown hK hP 0 rfl rfl 2 (by decide) (hts _ hm_m_X11_putGoal_0) (fun _ h9 => h9) rfl dX11_putGoal_72 ?_
            refine va_get (D := (dC, dI)) (ci := 1) (v := .ref (aM 7)) (C := RX1) (T := TX1) (N := 17) hx hb hts iwsMX11_putGoal_in1 hown hK hP 3 rfl rfl 14 (by decide) (hts _ hm_m_X11_putGoal_3) (fun _ h9 => h9) rfl dX11_putGoal_75 ?_
            refine lv_iload_n hx hb dX11_putGoal_78 rfl (lv_at hl 3 rfl) ?_
            refine lv_iload hx hb dX11_putGoal_79 (lv_at hl 1 rfl) ?_
            refine lv_iadd hx hb dX11_putGoal_81 ?_
            refine lv_topi (fun y256 hy256 => ?_)
            obtain rfl : (iI ((p1.toInt * 9) + l4_x35_1.toInt)) = y256 := (hy256.trans (iI_add2 rfl (iI_of _))).symm
            refine lv_iconst (v := 1) hx hb dX11_putGoal_82 (by decide) ?_
            refine lv_iadd hx hb dX11_putGoal_83 ?_
            refine lv_topi (fun y257 hy257 => ?_)
            obtain rfl : (iI (((p1.toInt * 9) + l4_x35_1.toInt) + 1)) = y257 := (hy257.trans (iI_add2 rfl (by decide : (1 : Int32) = iI 1))).symm
            refine va_iald (cA := kM 7) (n := 27) (f := fM_goalUnder) hx hb hK hP 11 9 rfl rfl (vp_iI (Int.le_trans (by decide) (Int.add_le_add (Int.add_le_add (Int.mul_le_mul_of_nonneg_right (b_p1.1) (by decide)) (b_l4_x35_1.1)) (Int.le_refl _))) (by omega) (by decide)) dX11_putGoal_84 ?_
            refine lv_topi (fun v258 hv258 => ?_)
            clear hv258
            refine lv_iload hx hb dX11_putGoal_85 (lv_at hl 1 rfl) ?_
            refine lv_iload_n hx hb dX11_putGoal_87 rfl (lv_at hl 2 rfl) ?_
            refine W.known (fun hz0 hn0 => ?_)
            have hS0 := hS.1
            have p9 := cj_2_0 (WX hX aX kX hT hM fX_ready fX_sheet_x35_1 dX_sheet_x35_1 nX_sheet_x35_1 iX_sheetLength_x35_1 xX_reader xX_solver xX_prover xX_values xX_clauses xX_nets) (WM hM aM kM iM_stands iM_variables iM_rows iM_goals iM_differents iM_cases fM_from fM_to fM_whole fM_ways iM_plainRows fM_plainRow fM_kept fM_goalOver fM_goalUnder fM_goalMax fM_different)
            have hPc := hP.mem (fun q h => p9.mem_iff.mpr (List.mem_append_left _ h))
            have hDc := (hD.perm p9).left
            have hKc : va_K (dC, dI) vwCl (tX kX) _ := hK.sub [0, 1] rfl
            have hFc := freeG p9 hD hS hA
            refine va_callv (va_runV (As := [.int v251, .int v258, .int l4_x35_1, .int l3_x35_1]) (rest := []) ⟨hx, hb, hml, hown, hts⟩ (Met.sV (m_X11_putTimes l hst dC dI hX aX kX hT hM fX_ready fX_sheet_x35_1 dX_sheet_x35_1 nX_sheet_x35_1 iX_sheetLength_x35_1 xX_reader xX_solver xX_prover xX_values xX_clauses xX_nets v251 v258 l4_x35_1 l3_x35_1 b_fX_sheet_x35_1 (by first | exact b_nX_sheet_x35_1 | with_reducible assumption | exact ⟨by omega, by omega⟩ | assumption) (b_iX_sheetLength_x35_1) (by first | with_reducible assumption | omega | (rw [iI_t (by omega) (by omega)]; omega) | (have h7 : (0 : Int32).toInt = 0 := (by decide); omega)) H.size) H) (cwV 4 hts gwsMX11_putGoal_1 rfl rfl rfl (by decide +kernel) ⟨by first | decide +kernel | (dsimp only [headSpec] <;> omega), by first | decide +kernel | (dsimp only [headSpec] <;> omega)⟩) ⟨fun a U g mk q => by obtain ⟨q0, qh, q1, qP, qK, qD, qE⟩ := q; exact ⟨q0, qh, q1, qP, va_K.moved (u := U) (U := U.calling g mk a) (Vm.Alike.refl U.vm) qK, qD, qE.call⟩, va_recv hK hP (ci := 11) (q0 := 0) rfl rfl, fun U hU9 hW => ⟨rfl, hU9, by rw [hU9], by rw [hU9]; exact hPc, va_K.moved hW.alike hKc, hDc.weaken (fun _ _ _ _ => trivial), by rw [hU9]; exact (((hE : CE A s s.heap).kept hS.2.1).narrow (fun q h => hFc q h)).warm hW⟩⟩ rfl rfl hl.1 rfl (lv_room (Nat.le_of_ble_eq_true rfl)) dX11_putGoal_88 ⟨by first | decide +kernel | (dsimp only [headSpec] <;> omega), by first | decide +kernel | (dsimp only [headSpec] <;> omega)⟩) hS (fun q _ h => hFc q h) hFc (fun u t9_ H locs ht hvm hw9 hB9 hz1 hk1 hS => ?_)
            revert u hw9 hB9
            refine fz_p4 ?_
            intro fX_sheet_259 dX_sheet_259 nX_sheet_259 iX_sheetLength_259 hw9 hB9
            try dsimp only at hw9 hB9
            revert hw9
            refine fz_a6 ?_
            intro b_fX_sheet_259 b_nX_sheet_259 b_iX_sheetLength_259 b_shl_259 f259_0 f259_1
            have hg1 := hB9.1.2.2.1
            rw [ht] at hg1
            have hg2 := hB9.1.2.2.2
            rw [ht] at hg2
            have hSz := hB9.2
            rw [ht] at hSz
            have p8 := cj_2_0 (WX hX aX kX hT hM fX_ready fX_sheet_259 dX_sheet_259 nX_sheet_259 iX_sheetLength_259 xX_reader xX_solver xX_prover xX_values xX_clauses xX_nets) (WM hM aM kM iM_stands iM_variables iM_rows iM_goals iM_differents iM_cases fM_from fM_to fM_whole fM_ways iM_plainRows fM_plainRow fM_kept fM_goalOver fM_goalUnder fM_goalMax fM_different)
            obtain ⟨hP, hD⟩ := frameG p9 p8 hP hD hk1 hFc (fz_P ht hB9.1.1) hB9.1.2.1
            have hz9 : H.size ≤ s.heap.size + (nX_sheet_259 / 32 - (nX_sheet / 32)) := by (try dsimp only at hg1); omega
            have hn9 : nS s.heap.size H ≤ (2 * nX_sheet_259 - (2 * nX_sheet)) := by rw [hSz.n hS0]; (try dsimp only at hg2); omega
            refine W.tight (cells2 := (nX_sheet_259 / 32 - (nX_sheet / 32))) (slots2 := (2 * nX_sheet_259 - (2 * nX_sheet))) hz9 hn9 ?_
            clear hz9 hn9 hz0 hn0 hS0 hSz hg1 hg2
            refine lv_iconst (v := 0) hx hb dX11_putGoal_91 (by decide) ?_
            refine lv_istore_n hx hb dX11_putGoal_92 rfl hl (by decide) rfl (fun ls (hl : lv_has ls _ ([(3, .int 0), (5, .int v251), (4, .int l4_x35_1), (2, .int (iI (p1.toInt * 9))), (0, .ref (hX 0)), (1, .int p1)])) => ?_)
            have hl : lv_has _ _ ([(5, .int v251), (4, .int l4_x35_1), (3, .int 0), (2, .int (iI (p1.toInt * 9))), (0, .ref (hX 0)), (1, .int p1)]) := lv_sub hl [1, 2, 0, 3, 4, 5] rfl
            refine W.known (fun hza hna => ?_)
            refine W.widen (k := 1875) (n := 120000) (by omega) (by omega) ?_
            exact join64 _ _ _ _ ⟨fX_sheet_259, dX_sheet_259, nX_sheet_259, iX_sheetLength_259, 0, b_fX_sheet_259, (by first | exact b_nX_sheet_259 | with_reducible assumption | exact ⟨by omega, by omega⟩ | assumption), (b_iX_sheetLength_259), (show 0 ≤ (0 : Int32).toInt ∧ (0 : Int32).toInt ≤ 1 from by decide), (by first | with_reducible assumption | omega | (rw [iI_t (by omega) (by omega)]; omega) | (have h7 : (0 : Int32).toInt = 0 := (by decide); omega)), (show iX_sheetLength.toInt ≤ iX_sheetLength_259.toInt from by omega), (show nX_sheet ≤ nX_sheet_259 from by omega), ⟨by omega, by omega⟩, rfl, hP, hD, hS, hl⟩
        · rintro H locs ls stk ⟨fX_sheet_j64, dX_sheet_j64, nX_sheet_j64, iX_sheetLength_j64, l3_j64, b_fX_sheet_j64, b_nX_sheet_j64, b_iX_sheetLength_j64, b_l3_j64, b_shl_j64, hjx, hgm0_j64, ⟨hzj, hnj⟩, rfl, hP, hD, hS, hl⟩
          refine W.tight (cells2 := (nX_sheet_j64 / 32 - (nX_sheet / 32))) (slots2 := (2 * nX_sheet_j64 - (2 * nX_sheet))) (tg1 hzj hS.1) (tg2 hnj) ?_
          refine lv_iinc (v := (iI (l4_x35_1.toInt + 1))) hx hb dX11_putGoal_93 hl (k := 1) rfl (iI_add2 (iI_of _) (by decide : (1 : Int32) = iI 1)) (by decide) rfl (fun ls (hl : lv_has ls _ ([(4, .int (iI (l4_x35_1.toInt + 1))), (5, .int v251), (3, .int l3_j64), (2, .int (iI (p1.toInt * 9))), (0, .ref (hX 0)), (1, .int p1)])) => ?_)
          refine lv_goto (tgt := 35) hx hb dX11_putGoal_96 (by decide) ?_
          have hl : lv_has _ _ ([(4, .int (iI (l4_x35_1.toInt + 1))), (3, .int l3_j64), (2, .int (iI (p1.toInt * 9))), (0, .ref (hX 0)), (1, .int p1)]) := lv_sub hl [0, 2, 3, 4, 5] rfl
          exact ihx35_1 fX_sheet_j64 dX_sheet_j64 nX_sheet_j64 iX_sheetLength_j64 (iI (l4_x35_1.toInt + 1)) l3_j64 _ _ _ b_fX_sheet_j64 (by first | exact b_nX_sheet_j64 | with_reducible assumption | exact ⟨by omega, by omega⟩ | assumption) (b_iX_sheetLength_j64) (iI_rng (Int.le_trans (by decide) (Int.add_le_add (b_l4_x35_1.1) (Int.le_refl _))) (by omega) (by decide) (by decide)) (b_l3_j64) (by first | with_reducible assumption | omega | (rw [iI_t (by omega) (by omega)]; omega) | (have h7 : (0 : Int32).toInt = 0 := (by decide); omega)) (show iX_sheetLength.toInt ≤ iX_sheetLength_j64.toInt from by omega) (show nX_sheet ≤ nX_sheet_j64 from by omega) (by have e9 : ((iI (l4_x35_1.toInt + 1))).toInt = (l4_x35_1.toInt + 1) := (iI_t (Int.le_trans (by decide) (Int.add_le_add (b_l4_x35_1.1) (Int.le_refl _))) (Int.le_trans (Int.add_le_add (b_l4_x35_1.2) (Int.le_refl _)) (by decide))); omega) hP hD hS hl

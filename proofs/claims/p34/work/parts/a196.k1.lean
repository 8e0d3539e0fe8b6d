/-- X2 -/
theorem k_X2_init (l : Launch) (dC : Nat → ClassId) (dI : Nat → Nat → Nat) (hN : Nat → Nat) (kN : Nat → ClassId) (sz : Nat) : Met l yX2_init wsX2_init ({ frames := 1, cells := 11, slots := 1464, locals := 12 }) (va_Pc [.ref (hN 0)] (fun U => U.heap.size = sz ∧ va_P (dC, dI) vwCl [(hN 0, .inr (2, [.int 0, .null, .null, .null, .null, .int 0, .null, .null, .null, .null, .null, .int 0, .null, .null]))] U.heap ∧ va_K (dC, dI) vwCl (tN kN) U ∧ va_D (fun _ => True) [(hN 0, .inr (2, [.int 0, .null, .null, .null, .null, .int 0, .null, .null, .null, .null, .null, .int 0, .null, .null]))])) (va_Qv (fun _ : Nat → Nat => True) (fun u t => va_P (dC, dI) vwCl (WN hN u kN 0 (fun _ => 0) (fun _ => 0) (fun _ => 0) (fun _ => 0) 0 (fun _ => 0) (fun _ => 0) (fun _ => 0) (fun _ => 0) (fun _ => 0) 0 (fun _ => 0) (fun _ => 0)) t.heap ∧ va_D (va_A [(hN 0, .inr (2, [.int 0, .null, .null, .null, .null, .int 0, .null, .null, .null, .null, .null, .int 0, .null, .null]))] sz) (WN hN u kN 0 (fun _ => 0) (fun _ => 0) (fun _ => 0) (fun _ => 0) 0 (fun _ => 0) (fun _ => 0) (fun _ => 0) (fun _ => 0) (fun _ => 0) 0 (fun _ => 0) (fun _ => 0))) (va_A [(hN 0, .inr (2, [.int 0, .null, .null, .null, .null, .int 0, .null, .null, .null, .null, .null, .int 0, .null, .null]))] sz)) 11 1464 (va_A [(hN 0, .inr (2, [.int 0, .null, .null, .null, .null, .int 0, .null, .null, .null, .null, .null, .int 0, .null, .null]))] sz) := by
  refine Met.ad (c_X2_init l dC dI (hN 0) sz) (fun _ h => h) ⟨Nat.le_refl _, Nat.le_refl _, Nat.le_refl _, Nat.le_refl _⟩ (Nat.le_refl _) (Nat.le_refl _) (fun a U h => ⟨h.1, h.2.1, h.2.2.1, h.2.2.2.1.sub [] rfl, h.2.2.2.2⟩) (fun a st o t hP0 hvm _ _ hQ => ?_) (fun _ h => h)
  obtain ⟨⟨⟨u, k⟩, e1, _, hP1, hK1, hD1⟩, hF⟩ := hQ
  have hK0 := va_K.moved hvm hP0.2.2.2.1
  dsimp only at hP1 hK1 hD1
  have e_0 : k 0 = kN 0 := va_K.cl2 hK1 hK0 (i := 0) (j := 0) rfl rfl
  have e_1 : k 1 = kN 1 := va_K.cl2 hK1 hK0 (i := 1) (j := 1) rfl rfl
  have e_2 : k 2 = kN 2 := va_K.cl2 hK1 hK0 (i := 2) (j := 2) rfl rfl
  have e_3 : k 3 = kN 3 := va_K.cl2 hK1 hK0 (i := 3) (j := 3) rfl rfl
  have e_4 : k 4 = kN 4 := va_K.cl2 hK1 hK0 (i := 4) (j := 4) rfl rfl
  have e_5 : k 5 = kN 5 := va_K.cl2 hK1 hK0 (i := 5) (j := 5) rfl rfl
  have e_6 : k 6 = kN 6 := va_K.cl2 hK1 hK0 (i := 6) (j := 6) rfl rfl
  have e_7 : k 7 = kN 7 := va_K.cl2 hK1 hK0 (i := 7) (j := 7) rfl rfl
  have e_8 : k 8 = kN 8 := va_K.cl2 hK1 hK0 (i := 8) (j := 8) rfl rfl
  have e_9 : k 9 = kN 9 := va_K.cl2 hK1 hK0 (i := 9) (j := 9) rfl rfl
  have e_10 : k 10 = kN 10 := va_K.cl2 hK1 hK0 (i := 10) (j := 10) rfl rfl
  have ew : wX2 u k (hN 0) = WN hN u kN 0 (fun _ => 0) (fun _ => 0) (fun _ => 0) (fun _ => 0) 0 (fun _ => 0) (fun _ => 0) (fun _ => 0) (fun _ => 0) (fun _ => 0) 0 (fun _ => 0) (fun _ => 0) := by simp only [wX2, WN, e_0, e_1, e_2, e_3, e_4, e_5, e_6, e_7, e_8, e_9, e_10]
  rw [ew] at hP1 hD1
  exact ⟨⟨u, e1, trivial, hP1, hD1⟩, hF⟩
/-- X0 -/
theorem k_X0_init (l : Launch) (dC : Nat → ClassId) (dI : Nat → Nat → Nat) (hC : Nat → Nat) (kC : Nat → ClassId) (sz : Nat) : Met l yX0_init wsX0_init ({ frames := 1, cells := 5, slots := 8264, locals := 12 }) (va_Pc [.ref (hC 0)] (fun U => U.heap.size = sz ∧ va_P (dC, dI) vwCl [(hC 0, .inr (0, [.int 0, .null, .null, .null, .null, .null, .int 0]))] U.heap ∧ va_K (dC, dI) vwCl (tC kC) U ∧ va_D (fun _ => True) [(hC 0, .inr (0, [.int 0, .null, .null, .null, .null, .null, .int 0]))])) (va_Qv (fun _ : Nat → Nat => True) (fun u t => va_P (dC, dI) vwCl (WC hC u kC 0 (fun _ => 0) (fun _ => 0) (fun _ => 0) (fun _ => 0) (fun _ => 0) 0) t.heap ∧ va_D (va_A [(hC 0, .inr (0, [.int 0, .null, .null, .null, .null, .null, .int 0]))] sz) (WC hC u kC 0 (fun _ => 0) (fun _ => 0) (fun _ => 0) (fun _ => 0) (fun _ => 0) 0)) (va_A [(hC 0, .inr (0, [.int 0, .null, .null, .null, .null, .null, .int 0]))] sz)) 5 8264 (va_A [(hC 0, .inr (0, [.int 0, .null, .null, .null, .null, .null, .int 0]))] sz) := by
  refine Met.ad (c_X0_init l dC dI (hC 0) sz) (fun _ h => h) ⟨Nat.le_refl _, Nat.le_refl _, Nat.le_refl _, Nat.le_refl _⟩ (Nat.le_refl _) (Nat.le_refl _) (fun a U h => ⟨h.1, h.2.1, h.2.2.1, h.2.2.2.1.sub [] rfl, h.2.2.2.2⟩) (fun a st o t hP0 hvm _ _ hQ => ?_) (fun _ h => h)
  obtain ⟨⟨⟨u, k⟩, e1, _, hP1, hK1, hD1⟩, hF⟩ := hQ
  have hK0 := va_K.moved hvm hP0.2.2.2.1
  dsimp only at hP1 hK1 hD1
  have e_0 : k 0 = kC 0 := va_K.cl2 hK1 hK0 (i := 0) (j := 0) rfl rfl
  have e_1 : k 1 = kC 1 := va_K.cl2 hK1 hK0 (i := 1) (j := 1) rfl rfl
  have e_2 : k 2 = kC 2 := va_K.cl2 hK1 hK0 (i := 2) (j := 2) rfl rfl
  have e_3 : k 3 = kC 3 := va_K.cl2 hK1 hK0 (i := 3) (j := 3) rfl rfl
  have e_4 : k 4 = kC 4 := va_K.cl2 hK1 hK0 (i := 4) (j := 4) rfl rfl
  have ew : wX0 u k (hC 0) = WC hC u kC 0 (fun _ => 0) (fun _ => 0) (fun _ => 0) (fun _ => 0) (fun _ => 0) 0 := by simp only [wX0, WC, e_0, e_1, e_2, e_3, e_4]
  rw [ew] at hP1 hD1
  exact ⟨⟨u, e1, trivial, hP1, hD1⟩, hF⟩
/-- X7 -/
theorem k_X7_init (l : Launch) (dC : Nat → ClassId) (dI : Nat → Nat → Nat) (hV : Nat → Nat) (kV : Nat → ClassId) (sz : Nat) : Met l yX7_init wsX7_init ({ frames := 1, cells := 14, slots := 1388, locals := 12 }) (va_Pc [.ref (hV 0)] (fun U => U.heap.size = sz ∧ va_P (dC, dI) vwCl [(hV 0, .inr (7, [.int 0, .int 0, .null, .null, .null, .null, .null, .null, .null, .null, .null, .int 0, .int 0, .null, .null, .null, .null, .null, .int 0, .int 0]))] U.heap ∧ va_K (dC, dI) vwCl (tV kV) U ∧ va_D (fun _ => True) [(hV 0, .inr (7, [.int 0, .int 0, .null, .null, .null, .null, .null, .null, .null, .null, .null, .int 0, .int 0, .null, .null, .null, .null, .null, .int 0, .int 0]))])) (va_Qv (fun _ : Nat → Nat => True) (fun u t => va_P (dC, dI) vwCl (WV hV u kV 0 0 (fun _ => 0) (fun _ => 0) (fun _ => 0) (fun _ => 0) (fun _ => 0) (fun _ => 0) (fun _ => 0) (fun _ => 0) (fun _ => 0) (-1) 0 (fun _ => 0) (fun _ => 0) (fun _ => 0) (fun _ => 0) (fun _ => 0) (u 13) 0 0 0) t.heap ∧ va_D (va_A [(hV 0, .inr (7, [.int 0, .int 0, .null, .null, .null, .null, .null, .null, .null, .null, .null, .int 0, .int 0, .null, .null, .null, .null, .null, .int 0, .int 0]))] sz) (WV hV u kV 0 0 (fun _ => 0) (fun _ => 0) (fun _ => 0) (fun _ => 0) (fun _ => 0) (fun _ => 0) (fun _ => 0) (fun _ => 0) (fun _ => 0) (-1) 0 (fun _ => 0) (fun _ => 0) (fun _ => 0) (fun _ => 0) (fun _ => 0) (u 13) 0 0 0)) (va_A [(hV 0, .inr (7, [.int 0, .int 0, .null, .null, .null, .null, .null, .null, .null, .null, .null, .int 0, .int 0, .null, .null, .null, .null, .null, .int 0, .int 0]))] sz)) 14 1388 (va_A [(hV 0, .inr (7, [.int 0, .int 0, .null, .null, .null, .null, .null, .null, .null, .null, .null, .int 0, .int 0, .null, .null, .null, .null, .null, .int 0, .int 0]))] sz) := by
  refine Met.ad (c_X7_init l dC dI (hV 0) sz) (fun _ h => h) ⟨Nat.le_refl _, Nat.le_refl _, Nat.le_refl _, Nat.le_refl _⟩ (Nat.le_refl _) (Nat.le_refl _) (fun a U h => ⟨h.1, h.2.1, h.2.2.1, h.2.2.2.1.sub [] rfl, h.2.2.2.2⟩) (fun a st o t hP0 hvm _ _ hQ => ?_) (fun _ h => h)
  obtain ⟨⟨⟨u, k⟩, e1, _, hP1, hK1, hD1⟩, hF⟩ := hQ
  have hK0 := va_K.moved hvm hP0.2.2.2.1
  dsimp only at hP1 hK1 hD1
  have e_0 : k 0 = kV 0 := va_K.cl2 hK1 hK0 (i := 0) (j := 0) rfl rfl
  have e_1 : k 1 = kV 1 := va_K.cl2 hK1 hK0 (i := 1) (j := 1) rfl rfl
  have e_2 : k 2 = kV 2 := va_K.cl2 hK1 hK0 (i := 2) (j := 2) rfl rfl
  have e_3 : k 3 = kV 3 := va_K.cl2 hK1 hK0 (i := 3) (j := 3) rfl rfl
  have e_4 : k 4 = kV 4 := va_K.cl2 hK1 hK0 (i := 4) (j := 4) rfl rfl
  have e_5 : k 5 = kV 5 := va_K.cl2 hK1 hK0 (i := 5) (j := 5) rfl rfl
  have e_6 : k 6 = kV 6 := va_K.cl2 hK1 hK0 (i := 6) (j := 6) rfl rfl
  have e_7 : k 7 = kV 7 := va_K.cl2 hK1 hK0 (i := 7) (j := 7) rfl rfl
  have e_8 : k 8 = kV 8 := va_K.cl2 hK1 hK0 (i := 8) (j := 8) rfl rfl
  have e_9 : k 9 = kV 9 := va_K.cl2 hK1 hK0 (i := 9) (j := 9) rfl rfl
  have e_10 : k 10 = kV 10 := va_K.cl2 hK1 hK0 (i := 10) (j := 10) rfl rfl
  have e_11 : k 11 = kV 11 := va_K.cl2 hK1 hK0 (i := 11) (j := 11) rfl rfl
  have e_12 : k 12 = kV 12 := va_K.cl2 hK1 hK0 (i := 12) (j := 12) rfl rfl
  have e_13 : k 13 = kV 13 := va_K.cl2 hK1 hK0 (i := 13) (j := 13) rfl rfl
  have ew : wX7 u k (hV 0) = WV hV u kV 0 0 (fun _ => 0) (fun _ => 0) (fun _ => 0) (fun _ => 0) (fun _ => 0) (fun _ => 0) (fun _ => 0) (fun _ => 0) (fun _ => 0) (-1) 0 (fun _ => 0) (fun _ => 0) (fun _ => 0) (fun _ => 0) (fun _ => 0) (u 13) 0 0 0 := by simp only [wX7, WV, e_0, e_1, e_2, e_3, e_4, e_5, e_6, e_7, e_8, e_9, e_10, e_11, e_12, e_13]
  rw [ew] at hP1 hD1
  exact ⟨⟨u, e1, trivial, hP1, hD1⟩, hF⟩
set_option maxHeartbeats 4000000 in
set_option maxRecDepth 100000 in
/-- a reader, its worker, its tree -/
theorem k_X4_init (l : Launch) (dC : Nat → ClassId) (dI : Nat → Nat → Nat) (hJ : Nat → Nat) (kJ kL kF : Nat → ClassId) (hT hM hF aF : Nat → Nat) (sz : Nat) : Met l yX4_init wsPX4_init ({ frames := 2, cells := 13, slots := 1075, locals := 34 }) (va_Pc [.ref (hJ 0), .ref (hT 0), .ref (hM 0)] (fun U => U.heap.size = sz ∧ va_P (dC, dI) vwCl [(hJ 0, .inr (4, [.null, .null, .null, .null, .int 0, .int 0, .long 0, .null, .int 0, .int 0, .int 0]))] U.heap ∧ va_K (dC, dI) vwCl (tJ kJ ++ (tL kL ++ (tF kF))) U ∧ va_D (fun _ => True) [(hJ 0, .inr (4, [.null, .null, .null, .null, .int 0, .int 0, .long 0, .null, .int 0, .int 0, .int 0]))])) (va_Qv (fun _ : (Nat → Nat) × (Nat → Nat) × (Nat → Nat) × Nat × Nat × Nat => True) (fun u t => va_P (dC, dI) vwCl (WJ hJ (u.2.1) kJ hT hM (u.1) (.ref (u.2.2.2.1)) 0 0 0 (fun _ => 0) 0 0 0 ++ (WL (u.1) (u.2.2.1) kL hT hM .null 0 (fun _ => 0) (fun _ => 0) (fun _ => 0) (fun _ => 0) (fun _ => 0) 0 (fun _ => 0) (u.2.2.2.2.1) 0 (fun _ => 0) (u.2.2.2.2.2) 0 (fun _ => 0) (fun _ => 0) (fun _ => 0) 0 0 0 0 0 ++ (WF hF aF kF (u.2.2.2.1) 7 (fun _ => 0)))) t.heap ∧ va_D (va_A [(hJ 0, .inr (4, [.null, .null, .null, .null, .int 0, .int 0, .long 0, .null, .int 0, .int 0, .int 0]))] sz) (WJ hJ (u.2.1) kJ hT hM (u.1) (.ref (u.2.2.2.1)) 0 0 0 (fun _ => 0) 0 0 0 ++ (WL (u.1) (u.2.2.1) kL hT hM .null 0 (fun _ => 0) (fun _ => 0) (fun _ => 0) (fun _ => 0) (fun _ => 0) 0 (fun _ => 0) (u.2.2.2.2.1) 0 (fun _ => 0) (u.2.2.2.2.2) 0 (fun _ => 0) (fun _ => 0) (fun _ => 0) 0 0 0 0 0 ++ (WF hF aF kF (u.2.2.2.1) 7 (fun _ => 0))))) (va_A [(hJ 0, .inr (4, [.null, .null, .null, .null, .int 0, .int 0, .long 0, .null, .int 0, .int 0, .int 0]))] sz)) 13 1075 (va_A [(hJ 0, .inr (4, [.null, .null, .null, .null, .int 0, .int 0, .long 0, .null, .int 0, .int 0, .int 0]))] sz) := by
  refine Met.ad (p_X4_init l dC dI (hJ 0) (hT 0) (hM 0) sz) (fun _ h => h) ⟨Nat.le_refl _, Nat.le_refl _, Nat.le_refl _, Nat.le_refl _⟩ (Nat.le_refl _) (Nat.le_refl _) (fun a U h => ⟨h.1, h.2.1, h.2.2.1, h.2.2.2.1.sub [] rfl, h.2.2.2.2⟩) (fun a st o t hP0 hvm _ _ hQ => ?_) (fun _ h => h)
  obtain ⟨⟨⟨wk, tr, bi, kt, kb, y0, y1, y2, y3, y4, y5, y6, y7, y8, y9, k0, k1, k2, k3, k4, k5, k6, k7, k8, k9⟩, e1, _, hP1, hK1, hD1⟩, hF9⟩ := hQ
  have hK0 := va_K.moved hvm hP0.2.2.2.1
  dsimp only at hP1 hK1 hD1
  obtain rfl : kt = kF 0 := va_K.cl2 hK1 hK0 (i := 0) (j := 11) rfl rfl
  obtain rfl : kb = kJ 0 := va_K.cl2 hK1 hK0 (i := 1) (j := 0) rfl rfl
  obtain rfl : k0 = kL 0 := va_K.cl2 hK1 hK0 (i := 2) (j := 1) rfl rfl
  obtain rfl : k1 = kL 1 := va_K.cl2 hK1 hK0 (i := 3) (j := 2) rfl rfl
  obtain rfl : k2 = kL 2 := va_K.cl2 hK1 hK0 (i := 4) (j := 3) rfl rfl
  obtain rfl : k3 = kL 3 := va_K.cl2 hK1 hK0 (i := 5) (j := 4) rfl rfl
  obtain rfl : k4 = kL 4 := va_K.cl2 hK1 hK0 (i := 6) (j := 5) rfl rfl
  obtain rfl : k5 = kL 5 := va_K.cl2 hK1 hK0 (i := 7) (j := 6) rfl rfl
  obtain rfl : k6 = kL 6 := va_K.cl2 hK1 hK0 (i := 8) (j := 7) rfl rfl
  obtain rfl : k7 = kL 7 := va_K.cl2 hK1 hK0 (i := 9) (j := 8) rfl rfl
  obtain rfl : k8 = kL 8 := va_K.cl2 hK1 hK0 (i := 10) (j := 9) rfl rfl
  obtain rfl : k9 = kL 9 := va_K.cl2 hK1 hK0 (i := 11) (j := 10) rfl rfl
  have hP2 := hP1.sub (ws' := WJ hJ (fun _ => bi) kJ hT hM (fun _ => wk) (.ref tr) 0 0 0 (fun _ => 0) 0 0 0 ++ (WL (fun _ => wk) (fun j => ([y0, y1, y2, y3, y4, y5, y6, y7, y8, y9] : List Nat).getD j 0) kL hT hM .null 0 (fun _ => 0) (fun _ => 0) (fun _ => 0) (fun _ => 0) (fun _ => 0) 0 (fun _ => 0) y5 0 (fun _ => 0) y6 0 (fun _ => 0) (fun _ => 0) (fun _ => 0) 0 0 0 0 0 ++ (WF hF aF kF tr 7 (fun _ => 0)))) [0, 2, 3, 4, 5, 6, 7, 8, 9, 10, 11, 12, 13, 1] rfl
  have hD2 := hD1.sub (ws' := WJ hJ (fun _ => bi) kJ hT hM (fun _ => wk) (.ref tr) 0 0 0 (fun _ => 0) 0 0 0 ++ (WL (fun _ => wk) (fun j => ([y0, y1, y2, y3, y4, y5, y6, y7, y8, y9] : List Nat).getD j 0) kL hT hM .null 0 (fun _ => 0) (fun _ => 0) (fun _ => 0) (fun _ => 0) (fun _ => 0) 0 (fun _ => 0) y5 0 (fun _ => 0) y6 0 (fun _ => 0) (fun _ => 0) (fun _ => 0) 0 0 0 0 0 ++ (WF hF aF kF tr 7 (fun _ => 0)))) [0, 2, 3, 4, 5, 6, 7, 8, 9, 10, 11, 12, 13, 1] (by decide) rfl
  exact ⟨⟨((fun _ => wk), (fun _ => bi), (fun j => ([y0, y1, y2, y3, y4, y5, y6, y7, y8, y9] : List Nat).getD j 0), tr, y5, y6), e1, trivial, hP2, hD2⟩, hF9⟩

theorem dX5_wholes_0 : decode cX5_wholes 0 = .ok (.iload_n 0, 1) := dk_26 (by decide +kernel)
theorem dX5_wholes_1 : decode cX5_wholes 1 = .ok (.anewarray 55, 3) := dk_189 (by decide +kernel)
theorem dX5_wholes_4 : decode cX5_wholes 4 = .ok (.astore_n 1, 1) := dk_76 (by decide +kernel)
theorem dX5_wholes_5 : decode cX5_wholes 5 = .ok (.iconst 0, 1) := dk_3 (by decide +kernel)
theorem dX5_wholes_6 : decode cX5_wholes 6 = .ok (.istore_n 2, 1) := dk_61 (by decide +kernel)
theorem dX5_wholes_7 : decode cX5_wholes 7 = .ok (.iload_n 2, 1) := dk_28 (by decide +kernel)
theorem dX5_wholes_8 : decode cX5_wholes 8 = .ok (.iload_n 0, 1) := dk_26 (by decide +kernel)
theorem dX5_wholes_9 : decode cX5_wholes 9 = .ok (.if_icmp .ge 19, 3) := dk_162 (by decide +kernel)
theorem dX5_wholes_12 : decode cX5_wholes 12 = .ok (.aload_n 1, 1) := dk_43 (by decide +kernel)
theorem dX5_wholes_13 : decode cX5_wholes 13 = .ok (.iload_n 2, 1) := dk_28 (by decide +kernel)
theorem dX5_wholes_14 : decode cX5_wholes 14 = .ok (.new 55, 3) := dk_187 (by decide +kernel)
theorem dX5_wholes_17 : decode cX5_wholes 17 = .ok (.dup, 1) := dk_89 (by decide +kernel)
theorem dX5_wholes_18 : decode cX5_wholes 18 = .ok (.invokespecial 57, 3) := dk_183 (by decide +kernel)
theorem dX5_wholes_21 : decode cX5_wholes 21 = .ok (.aastore, 1) := dk_83 (by decide +kernel)
theorem dX5_wholes_22 : decode cX5_wholes 22 = .ok (.iinc 2 1, 3) := dk_132 (by decide +kernel)
theorem dX5_wholes_25 : decode cX5_wholes 25 = .ok (.goto (-18), 3) := dk_167 (by decide +kernel)
theorem dX5_wholes_28 : decode cX5_wholes 28 = .ok (.aload_n 1, 1) := dk_43 (by decide +kernel)
theorem dX5_wholes_29 : decode cX5_wholes 29 = .ok (.areturn, 1) := dk_176 (by decide +kernel)
def wsKX5_wholes : List Cond := .code yX5_wholes cX5_wholes 3 (some (.array (.object "OptimaWorks$Whole"))) :: ([.classLink RX5 55 RX8, .instantiable RX8 3, .initialized RX8, .instanceMethod yX8_init] ++ wsX80 ++ (wsPX8_init))
theorem iwsKX5_wholes_in8 : ∀ w ∈ wsX80, w ∈ wsKX5_wholes := fun _ h => List.mem_cons_of_mem _ (List.mem_append_left _ (List.mem_append_right _ h))
theorem gwsKX5_wholes_0 : GoodIn wsKX5_wholes (wsPX8_init) := goodIn_sub (fun _ h => List.mem_cons_of_mem _ (List.mem_append_right _ h)) (by decide +kernel)
set_option maxHeartbeats 4000000 in
set_option maxRecDepth 100000 in
/-- whole numbers in a row -/
theorem k_X5_wholes (l : Launch) (dC : Nat → ClassId) (dI : Nat → Nat → Nat) (kb kw : ClassId) (p1 : Int32) (n : Nat) (hp : p1.toInt = ((n : Nat) : Int)) (hn : n ≤ 28) (sz : Nat) : Met l yX5_wholes wsKX5_wholes ({ frames := 3, cells := (1 + 2 * n), slots := (18 * n), locals := 40 }) (va_Pc [.int p1] (fun U => U.heap.size = sz ∧ va_P (dC, dI) vwCl ([]) U.heap ∧ va_K (dC, dI) vwCl [(kb, .object "OptimaWorks$Whole"), (kw, .long)] U ∧ va_D (fun _ => True) ([]) ∧ CE (va_A ([]) sz) U U.heap)) (va_Qr (fun (u : (Nat → Nat) × (Nat → Nat)) => True) (fun u ra t => va_P (dC, dI) vwCl ([(ra, .inl (kb, n, .inr (.inr (.inr (.inr (fW n u.1))))))] ++ WW n u.1 u.2 kw (fun _ => 0) (fun _ => 0) (fun _ _ => 0)) t.heap ∧ va_D (va_A ([]) sz) ([(ra, .inl (kb, n, .inr (.inr (.inr (.inr (fW n u.1))))))] ++ WW n u.1 u.2 kw (fun _ => 0) (fun _ => 0) (fun _ _ => 0))) (va_A ([]) sz)) (1 + 2 * n) (18 * n) (va_A ([]) sz) := by
  refine Met.ofW (cc := cX5_wholes) (maxL := 3) (ret := (some (.array (.object "OptimaWorks$Whole")))) (by decide) rfl ?_
  intro p e s m args below meth c s₁ B hml hv
  obtain ⟨rfl, hsz, hP, hK, hD0, hE⟩ := hv
  have hx := B.exec
  have hb := B.bytes
  have hr := B.returns
  have hts := atoms_spec (ws := wsKX5_wholes) B.pre
  have hown : s.vm.findClass RX5 = some m.cls := findClass_of_methodNamed B.named
  subst hsz
  have hD := hD0.self (sz := s.heap.size)
  generalize hAe : va_A ([]) s.heap.size = A at hD hE ⊢
  have hA : ∀ q : Nat, s.heap.size ≤ q → A q := fun q h => by rw [← hAe]; exact Or.inr h
  have hS : va_S A s.heap s.heap [] := va_S.rf
  have hl := lv_entry ([.int p1]) (n := 3) (Nat.le_of_ble_eq_true rfl)
  rw [lg_entry_eq]
  generalize (lg_sl ([.int p1]) ++ List.replicate (3 - (lg_sl ([.int p1])).length) Slot.unset).toArray = ls at hl ⊢
  have hl : lv_has ls 3 [(0, .int p1)] := hl
  refine lv_iload_n hx hb dX5_wholes_0 rfl (lv_at hl 0 rfl) ?_
  refine va_newq (C := "OptimaWorks$Whole") (N' := n) hx hb hown (hts (.classLink RX5 55 RX8) (by decide +kernel)) hE.2.2.1.2.2.2.2.2 hK hP hD hS hA (nn_i hp (by omega)) (clampN hp rfl) (by omega) (by (dsimp only [headSpec] <;> omega)) (by (dsimp only [headSpec] <;> omega)) dX5_wholes_1 (fun ra cA H hKn hP hD hS => ?_)
  obtain rfl : kb = cA := (va_K.cl2 hKn hK (i := 2) (j := 0) rfl rfl).symm
  clear hKn
  have hP : va_P (dC, dI) vwCl ([(ra, .inl (kb, n, .inr (.inr (.inr (.inr (fun _ => none))))))]) H := hP
  have hD : va_D A ([(ra, .inl (kb, n, .inr (.inr (.inr (.inr (fun _ => none))))))]) := hD
  refine W.widen (k := 1) (n := n) (by omega) (by omega) ?_
  refine lv_astore_n hx hb dX5_wholes_4 rfl hl (by decide) rfl (fun ls (hl : lv_has ls _ ([(1, .ref ra), (0, .int p1)])) => ?_)
  refine lv_iconst (v := 0) hx hb dX5_wholes_5 (by decide) ?_
  refine lv_istore_n hx hb dX5_wholes_6 rfl hl (by decide) rfl (fun ls (hl : lv_has ls _ ([(2, .int 0), (1, .ref ra), (0, .int p1)])) => ?_)
  have ez : [(ra, .inl (kb, n, .inr (.inr (.inr (.inr (fW 0 (fun _ => 0)))))))] ++ (WW 0 (fun _ => 0) (fun _ => 0) kw (fun _ => 0) (fun _ => 0) (fun _ _ => 0) ++ ([])) = [(ra, .inl (kb, n, .inr (.inr (.inr (.inr (fun _ => none))))))] ++ [] := by rw [fW_0]; rfl
  have hP : va_P (dC, dI) vwCl ([(ra, .inl (kb, n, .inr (.inr (.inr (.inr (fW 0 (fun _ => 0)))))))] ++ (WW 0 (fun _ => 0) (fun _ => 0) kw (fun _ => 0) (fun _ => 0) (fun _ _ => 0) ++ ([]))) H := by rw [ez]; rw [List.append_nil]; exact hP
  have hD : va_D A ([(ra, .inl (kb, n, .inr (.inr (.inr (.inr (fW 0 (fun _ => 0)))))))] ++ (WW 0 (fun _ => 0) (fun _ => 0) kw (fun _ => 0) (fun _ => 0) (fun _ _ => 0) ++ ([]))) := by rw [ez]; rw [List.append_nil]; exact hD
  clear ez
  have hl : lv_has ls 3 [(2, .int (nI 0)), (1, .ref ra), (0, .int p1)] := hl
  refine (fun (loop : ∀ (n9 i9 : Nat) (hw lw : Nat → Nat) (H : Heap) (locs : List Loc) (ls : Array Slot), n < n9 + i9 → i9 ≤ n → va_P (dC, dI) vwCl ([(ra, .inl (kb, n, .inr (.inr (.inr (.inr (fW i9 hw))))))] ++ (WW i9 hw lw kw (fun _ => 0) (fun _ => 0) (fun _ _ => 0) ++ ([]))) H → va_D A ([(ra, .inl (kb, n, .inr (.inr (.inr (.inr (fW i9 hw))))))] ++ (WW i9 hw lw kw (fun _ => 0) (fun _ => 0) (fun _ _ => 0) ++ ([]))) → va_S A s.heap H locs → lv_has ls 3 [(2, .int (nI i9)), (1, .ref ra), (0, .int p1)] → W p l e _ s m _ below meth c H locs (1 + 2 * i9) (n + 17 * i9) _ (F0 m 7 ls [])) => loop (n + 1) 0 _ _ _ _ _ (by omega) (Nat.zero_le _) hP hD hS hl) ?_
  intro n9
  induction n9 with
  | zero => intro i9 hw lw H locs ls h1 h2; exact False.elim (by omega)
  | succ n9 ih =>
    intro i9 hw lw H locs ls hf hi hP hD hS hl
    have ti := nI_toInt (n := i9) (by omega)
    refine lv_iload_n hx hb dX5_wholes_7 rfl (lv_at hl 0 rfl) ?_
    refine lv_iload_n hx hb dX5_wholes_8 rfl (lv_at hl 2 rfl) ?_
    refine lv_icmp_ge (tgt := 28) hx hb dX5_wholes_9 (by decide) (fun c9 => ?_) (fun c9 => ?_)
    · have t9 := toI_ge c9 ti hp
      obtain rfl : n = i9 := by omega
      refine lv_aload_n hx hb dX5_wholes_28 rfl (lv_at hl 1 rfl) ?_
      rw [List.append_nil] at hP hD
      refine W.widen (k := 1 + 2 * n) (n := 18 * n) (by omega) (by omega) ?_
      exact W.aret hx hb hr (Or.inr ⟨_, rfl⟩) (Or.inr ⟨_, rfl⟩) (fun t ht hW => ⟨⟨(hw, lw), _, rfl, trivial, by rw [ht]; exact hP, hD⟩, hS.F ht⟩) hS.2.2 dX5_wholes_29
    · have t9 := toI_nge c9 ti hp
      refine lv_aload_n hx hb dX5_wholes_12 rfl (lv_at hl 1 rfl) ?_
      refine lv_iload_n hx hb dX5_wholes_13 rfl (lv_at hl 0 rfl) ?_
      refine va_new (ci := 8) (fs := [.null, .int 0, .int 0]) (C := RX8) (T := TX8) (N := 3) hx hb hts iwsKX5_wholes_in8 tyX8 tyX8_ok hown (hts (.classLink RX5 55 RX8) (by decide +kernel)) (hts (.instantiable RX8 3) (by decide +kernel)) (hts (.initialized RX8) (by decide +kernel)) hK hP hD hS hA rfl (by decide +kernel) (by (dsimp only [headSpec] <;> omega)) (by (dsimp only [headSpec] <;> omega)) dX5_wholes_14 (fun q9 H hP hD hS => ?_)
      refine lv_dup hx hb dX5_wholes_17 rfl ?_
      have p9 : List.Perm (α := Nat × va_E) (([(ra, .inl (kb, n, .inr (.inr (.inr (.inr (fW i9 hw))))))] ++ (WW i9 hw lw kw (fun _ => 0) (fun _ => 0) (fun _ _ => 0) ++ ([]))) ++ [(q9, .inr (8, [.null, .int 0, .int 0]))]) ([(q9, .inr (8, [.null, .int 0, .int 0]))] ++ ([(ra, .inl (kb, n, .inr (.inr (.inr (.inr (fW i9 hw))))))] ++ (WW i9 hw lw kw (fun _ => 0) (fun _ => 0) (fun _ _ => 0) ++ ([])))) := List.perm_append_comm
      have hPc := hP.mem (fun q h => p9.mem_iff.mpr (List.mem_append_left _ h))
      have hDc := (hD.perm p9).left
      have hKc : va_K (dC, dI) vwCl ([]) _ := hK.sub [] rfl
      have hFc := freeG p9 hD hS hA
      refine va_callv (va_runIN (As := []) (rest := [.ref q9, .int (nI i9), .ref ra]) ⟨hx, hb, hml, hown, hts⟩ (p_X8_init l dC dI q9 H.size) ⟨va_cnB 0 hts gwsKX5_wholes_0 rfl rfl rfl (hE.2.2.1.2.2.2.2.1 (.methodLinkNest RX5 57 yX8_init RX11) (by decide +kernel)) (hts (.initialized RX8) (by decide +kernel)) (by decide +kernel) ⟨by (dsimp only [headSpec] <;> omega), by (dsimp only [headSpec] <;> omega)⟩, rfl, (hts (.instanceMethod yX8_init) (by decide +kernel))⟩ ⟨fun a U g mk q => by obtain ⟨q0, q1, qP, qK, qD⟩ := q; exact ⟨q0, q1, qP, va_K.moved (u := U) (U := U.calling g mk a) (Vm.Alike.refl U.vm) qK, qD⟩, fun U hU hW => ⟨rfl, by rw [hU], by rw [hU]; exact hPc, va_K.moved hW.alike hKc, hDc.weaken (fun _ _ _ _ => trivial)⟩⟩ rfl rfl hl.1 rfl (lv_room (Nat.le_of_ble_eq_true rfl)) dX5_wholes_18 ⟨by (dsimp only [headSpec] <;> omega), by (dsimp only [headSpec] <;> omega)⟩) hS (fun q _ h => hFc q h) hFc (fun u t H1 locs ht hvm hw hB hz1 hk1 hS => ?_)
      obtain ⟨y9, k9⟩ := u
      obtain ⟨hP1, hK1, hD1⟩ := hB
      dsimp only at hP1 hK1 hD1
      rw [ht] at hP1
      have hK1 := va_K.moved hvm.symm hK1
      obtain rfl : kw = k9 := (va_K.cl2 hK1 hK (i := 0) (j := 1) rfl rfl).symm
      clear hK1 hw
      have p8 : List.Perm (α := Nat × va_E) ([(ra, .inl (kb, n, .inr (.inr (.inr (.inr (fW i9 hw))))))] ++ ([(q9, .inr (8, [.ref y9, .int 0, .int 0])), (y9, .inl (kw, 14, .inr (.inl (fun _ => 0))))] ++ (WW i9 hw lw kw (fun _ => 0) (fun _ => 0) (fun _ _ => 0) ++ ([])))) ([(q9, .inr (8, [.ref y9, .int 0, .int 0])), (y9, .inl (kw, 14, .inr (.inl (fun _ => 0))))] ++ ([(ra, .inl (kb, n, .inr (.inr (.inr (.inr (fW i9 hw))))))] ++ (WW i9 hw lw kw (fun _ => 0) (fun _ => 0) (fun _ _ => 0) ++ ([])))) := List.perm_append_comm_assoc _ _ _
      obtain ⟨hP, hD⟩ := frameG p9 p8 hP hD hk1 hFc hP1 hD1
      generalize H1 = H at hP hS ⊢
      clear p9 p8 hPc hDc hKc hFc hP1 hD1 hk1 hz1
      refine va_astq hx hb hK hP hD hS 0 0 1 8 rfl rfl rfl rfl (vp_in_iff.mpr ⟨by omega, by omega⟩) dX5_wholes_21 (fun H locs hP hD hS => ?_)
      have ef := fW_s (i := i9) (q := q9) (hw := hw) (x := nI i9) (nI_cl (by omega))
      have hP : va_P (dC, dI) vwCl ([(ra, .inl (kb, n, .inr (.inr (.inr (.inr (fW (i9 + 1) (jn i9 hw (fun _ => q9))))))))] ++ ([(q9, .inr (8, [.ref y9, .int 0, .int 0])), (y9, .inl (kw, 14, .inr (.inl (fun _ => 0))))] ++ (WW i9 hw lw kw (fun _ => 0) (fun _ => 0) (fun _ _ => 0) ++ ([])))) H := by rw [← ef]; exact hP
      have hD : va_D A ([(ra, .inl (kb, n, .inr (.inr (.inr (.inr (fW (i9 + 1) (jn i9 hw (fun _ => q9))))))))] ++ ([(q9, .inr (8, [.ref y9, .int 0, .int 0])), (y9, .inl (kw, 14, .inr (.inl (fun _ => 0))))] ++ (WW i9 hw lw kw (fun _ => 0) (fun _ => 0) (fun _ _ => 0) ++ ([])))) := by rw [← ef]; exact hD
      have p8 := List.Perm.append_left ([(ra, .inl (kb, n, .inr (.inr (.inr (.inr (fW (i9 + 1) (jn i9 hw (fun _ => q9))))))))] : va_W) (WW_in (i := i9) (q := q9) (y := y9) (hw := hw) (lw := lw) (kw := kw) (T := []))
      have hP := hP.mem (fun q h => p8.mem_iff.mpr h)
      have hD := hD.perm p8
      refine lv_iinc (v := nI (i9 + 1)) hx hb dX5_wholes_22 hl (k := 0) rfl (by rw [nI_succ]; rfl) (by decide) rfl (fun ls (hl : lv_has ls _ ([(2, .int (nI (i9 + 1))), (1, .ref ra), (0, .int p1)])) => ?_)
      refine lv_goto (tgt := 7) hx hb dX5_wholes_25 (by decide) ?_
      have hl : lv_has _ _ ([(2, .int (nI (i9 + 1))), (1, .ref ra), (0, .int p1)]) := lv_sub hl [0, 1, 2] rfl
      refine W.widen (k := 1 + 2 * (i9 + 1)) (n := n + 17 * (i9 + 1)) (by omega) (by omega) ?_
      exact ih (i9 + 1) _ _ _ _ _ (by omega) (by omega) hP hD hS hl

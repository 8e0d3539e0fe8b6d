theorem dJ7_fill_53178_0 : decode cJ7_fill_53178 0 = .ok (.iconst 0, 1) := by decide +kernel
theorem dJ7_fill_53178_1 : decode cJ7_fill_53178 1 = .ok (.istore_n 2, 1) := by decide +kernel
theorem dJ7_fill_53178_2 : decode cJ7_fill_53178 2 = .ok (.aload_n 0, 1) := by decide +kernel
theorem dJ7_fill_53178_3 : decode cJ7_fill_53178 3 = .ok (.arraylength, 1) := by decide +kernel
theorem dJ7_fill_53178_4 : decode cJ7_fill_53178 4 = .ok (.istore_n 3, 1) := by decide +kernel
theorem dJ7_fill_53178_5 : decode cJ7_fill_53178 5 = .ok (.iload_n 2, 1) := by decide +kernel
theorem dJ7_fill_53178_6 : decode cJ7_fill_53178 6 = .ok (.iload_n 3, 1) := by decide +kernel
theorem dJ7_fill_53178_7 : decode cJ7_fill_53178 7 = .ok (.if_icmp .ge 13, 3) := by decide +kernel
theorem dJ7_fill_53178_10 : decode cJ7_fill_53178 10 = .ok (.aload_n 0, 1) := by decide +kernel
theorem dJ7_fill_53178_11 : decode cJ7_fill_53178 11 = .ok (.iload_n 2, 1) := by decide +kernel
theorem dJ7_fill_53178_12 : decode cJ7_fill_53178 12 = .ok (.iload_n 1, 1) := by decide +kernel
theorem dJ7_fill_53178_13 : decode cJ7_fill_53178 13 = .ok (.iastore, 1) := by decide +kernel
theorem dJ7_fill_53178_14 : decode cJ7_fill_53178 14 = .ok (.iinc 2 1, 3) := by decide +kernel
theorem dJ7_fill_53178_17 : decode cJ7_fill_53178 17 = .ok (.goto (-12), 3) := by decide +kernel
theorem dJ7_fill_53178_20 : decode cJ7_fill_53178 20 = .ok (.return_, 1) := by decide +kernel
def wsPJ7_fill_53178 : List Cond := .code yJ7_fill_53178 cJ7_fill_53178 4 none :: ([])
set_option maxHeartbeats 4000000 in
set_option maxRecDepth 100000 in
/-- Arrays.fill(row, x) -/
theorem p_J7_fill_53178 (l : Launch) (dC : Nat → ClassId) (dI : Nat → Nat → Nat) (b : Nat) (kA : ClassId) (n : Nat) (hn : n < 2147483648) (f : Nat → Int32) (x : Int32) (sz : Nat) : Met l yJ7_fill_53178 wsPJ7_fill_53178 ({ frames := 0, cells := 0, slots := 0, locals := 0 }) (va_Pc [.ref b, .int x] (fun U => U.heap.size = sz ∧ va_P (dC, dI) vwCl [(b, .inl (kA, n, .inl f))] U.heap ∧ va_K (dC, dI) vwCl [(kA, .int)] U ∧ va_D (fun _ => True) [(b, .inl (kA, n, .inl f))])) (va_Qv (fun (u : Nat → Int32) => (∀ j, j < n → u j = x)) (fun (u : Nat → Int32) t => va_P (dC, dI) vwCl [(b, .inl (kA, n, .inl u))] t.heap ∧ va_K (dC, dI) vwCl [] t ∧ va_D (va_A [(b, .inl (kA, n, .inl f))] sz) [(b, .inl (kA, n, .inl u))]) (va_A [(b, .inl (kA, n, .inl f))] sz)) 0 0 (va_A [(b, .inl (kA, n, .inl f))] sz) := by
  refine Met.ofW (cc := cJ7_fill_53178) (maxL := 4) (ret := none) (by decide) rfl ?_
  intro p e s m args below meth c s₁ B hml hv
  obtain ⟨rfl, hsz, hP, hK, hD0⟩ := hv
  have hx := B.exec
  have hb := B.bytes
  have hr := B.returns
  have hts := atoms_spec (ws := wsPJ7_fill_53178) B.pre
  have hown : s.vm.findClass RJ7 = some m.cls := findClass_of_methodNamed B.named
  have hlocks := B.notSynchronized
  subst hsz
  have hD := hD0.self (sz := s.heap.size)
  generalize hAe : va_A [(b, .inl (kA, n, .inl f))] s.heap.size = A at hD ⊢
  have hA : ∀ q : Nat, s.heap.size ≤ q → A q := fun q h => by rw [← hAe]; exact Or.inr h
  have hS : va_S A s.heap s.heap [] := va_S.rf
  have hP : va_P (dC, dI) vwCl [(b, .inl (kA, n, .inl f))] s.heap := hP
  have hl := lv_entry ([.ref b, .int x]) (n := 4) (Nat.le_of_ble_eq_true rfl)
  rw [lg_entry_eq]
  generalize (lg_sl ([.ref b, .int x]) ++ List.replicate (4 - (lg_sl ([.ref b, .int x])).length) Slot.unset).toArray = ls at hl ⊢
  have hl : lv_has ls 4 [(0, .ref b), (1, .int x)] := hl
  refine lv_iconst (v := 0) hx hb dJ7_fill_53178_0 (by decide) ?_
  refine lv_istore_n (lv' := [(2, .int 0), (0, .ref b), (1, .int x)]) hx hb dJ7_fill_53178_1 rfl hl (by decide) rfl (fun ls hl => ?_)
  refine lv_aload_n hx hb dJ7_fill_53178_2 rfl (lv_at hl 1 rfl) ?_
  refine va_alen hx hb hK hP 0 0 rfl rfl (v := (nI n)) rfl dJ7_fill_53178_3 ?_
  refine lv_istore_n (lv' := [(3, .int (nI n)), (2, .int 0), (0, .ref b), (1, .int x)]) hx hb dJ7_fill_53178_4 rfl hl (by decide) rfl (fun ls hl => ?_)
  have hl := lv_sub hl [1, 0, 2, 3] (l' := [(2, .int (nI 0)), (3, .int (nI n)), (0, .ref b), (1, .int x)]) rfl
  refine (fun (loop : ∀ (n9 : Nat) (i : Nat) (g : Nat → Int32) (H : Heap) (locs : List Loc) (ls : Array Slot), (i ≤ n) → (∀ j, j < i → g j = x) →  (n < i + n9) → va_P (dC, dI) vwCl [(b, .inl (kA, n, .inl g))] H → va_D A [(b, .inl (kA, n, .inl g))] → va_S A s.heap H locs → lv_has ls 4 [(2, .int (nI i)), (3, .int (nI n)), (0, .ref b), (1, .int x)] → W p l e _ s m _ below meth c H locs 0 0 _ (F0 m 5 ls [])) => loop (n + 1) 0 f _ _ _ (by omega) (fun j h => absurd h (by omega)) (by omega) hP hD hS hl) ?_
  intro n9
  induction n9 with
  | zero => intro i g H locs ls hi hg hf9; exact False.elim (by omega)
  | succ n9 ih5 =>
    intro i g H locs ls hi hg hf5 hP hD hS hl
    refine lv_iload_n hx hb dJ7_fill_53178_5 rfl (lv_at hl 0 rfl) ?_
    refine lv_iload_n hx hb dJ7_fill_53178_6 rfl (lv_at hl 1 rfl) ?_
    refine lv_icmp_ge (tgt := 20) hx hb dJ7_fill_53178_7 (by decide) (fun c_7 => ?_) (fun c_7 => ?_)
    · have t_7 : ((i : Nat) : Int) ≥ ((n : Nat) : Int) := toI_ge c_7 (nI_toInt (by omega)) (nI_toInt (by omega))
      refine W.widen (k := 0) (n := 0) (by decide +kernel) (by decide +kernel) ?_
      exact W.vret hx hb hr (fun t ht hW => ⟨⟨g, rfl, fun j h => hg j (by omega), by rw [ht]; exact hP.sub [0] rfl, va_K.moved hW.alike (hK.sub [] rfl), hD.sub [0] (by decide) rfl⟩, hS.F ht⟩) hS.2.2 dJ7_fill_53178_20
    · have t_7 : ¬ ((i : Nat) : Int) ≥ ((n : Nat) : Int) := toI_nge c_7 (nI_toInt (by omega)) (nI_toInt (by omega))
      refine lv_aload_n hx hb dJ7_fill_53178_10 rfl (lv_at hl 2 rfl) ?_
      refine lv_iload_n hx hb dJ7_fill_53178_11 rfl (lv_at hl 0 rfl) ?_
      refine lv_iload_n hx hb dJ7_fill_53178_12 rfl (lv_at hl 3 rfl) ?_
      refine va_iast hx hb hK hP hD hS 0 0 rfl rfl (vp_in_nI (show i < n by omega) (by omega)) dJ7_fill_53178_13 (fun H locs hP hD hS => ?_)
      have hP : va_P (dC, dI) vwCl [(b, .inl (kA, n, .inl (upd g ((nI i)).toNatClampNeg x)))] H := hP
      have hD : va_D A [(b, .inl (kA, n, .inl (upd g ((nI i)).toNatClampNeg x)))] := hD
      refine lv_iinc (v := (nI (i + 1))) (lv' := [(2, .int (nI (i + 1))), (3, .int (nI n)), (0, .ref b), (1, .int x)]) hx hb dJ7_fill_53178_14 hl (k := 0) rfl (nI_add i 1) (by decide) rfl (fun ls hl => ?_)
      refine lv_goto (tgt := 5) hx hb dJ7_fill_53178_17 (by decide) ?_
      have hl := lv_sub hl [0, 1, 2, 3] (l' := [(2, .int (nI (i + 1))), (3, .int (nI n)), (0, .ref b), (1, .int x)]) rfl
      exact ih5 (i + 1) (upd g ((nI i)).toNatClampNeg x) _ _ _ (by omega) (fun j hj => by rw [upd_at (by omega)]; by_cases e9 : j = i; (simp [e9]); (simp [e9]; exact hg j (by omega))) (by omega) hP hD hS hl

theorem dX12_firstWays_0 : decode cX12_firstWays 0 = .ok (.iconst 0, 1) := by decide +kernel
theorem dX12_firstWays_1 : decode cX12_firstWays 1 = .ok (.istore_n 1, 1) := by decide +kernel
theorem dX12_firstWays_2 : decode cX12_firstWays 2 = .ok (.iload_n 1, 1) := by decide +kernel
theorem dX12_firstWays_3 : decode cX12_firstWays 3 = .ok (.aload_n 0, 1) := by decide +kernel
theorem dX12_firstWays_4 : decode cX12_firstWays 4 = .ok (.getfield 786, 3) := by decide +kernel
theorem dX12_firstWays_7 : decode cX12_firstWays 7 = .ok (.if_icmp .ge 16, 3) := by decide +kernel
theorem dX12_firstWays_10 : decode cX12_firstWays 10 = .ok (.aload_n 0, 1) := by decide +kernel
theorem dX12_firstWays_11 : decode cX12_firstWays 11 = .ok (.getfield 230, 3) := by decide +kernel
theorem dX12_firstWays_14 : decode cX12_firstWays 14 = .ok (.iload_n 1, 1) := by decide +kernel
theorem dX12_firstWays_15 : decode cX12_firstWays 15 = .ok (.iconst 0, 1) := by decide +kernel
theorem dX12_firstWays_16 : decode cX12_firstWays 16 = .ok (.iastore, 1) := by decide +kernel
theorem dX12_firstWays_17 : decode cX12_firstWays 17 = .ok (.iinc 1 1, 3) := by decide +kernel
theorem dX12_firstWays_20 : decode cX12_firstWays 20 = .ok (.goto (-18), 3) := by decide +kernel
theorem dX12_firstWays_23 : decode cX12_firstWays 23 = .ok (.return_, 1) := by decide +kernel
def wsFX12_firstWays : List Cond := .code yX12_firstWays cX12_firstWays 2 none :: ([.fieldLink RX12 786 "OptimaWorksModel" "modelRows" "I", .fieldLink RX12 230 "OptimaWorksModel" "chosen" "[I"] ++ wsX120)
theorem iwsFX12_firstWays_in12 : ∀ w ∈ wsX120, w ∈ wsFX12_firstWays := fun _ h => List.mem_cons_of_mem _ (List.mem_append_right _ h)
set_option maxHeartbeats 4000000 in
set_option maxRecDepth 100000 in
/-- firstWays(): zeros -/
theorem c_X12_firstWays (l : Launch) (dC : Nat → ClassId) (dI : Nat → Nat → Nat) (h0 : Nat) (v : Nat → Value) (R : Nat) (hR : R ≤ 13) (h_rows : v 91 = .int (nI R)) (b : Nat) (h_chosen : v 114 = .ref b) (kb : ClassId) (r0 : Nat → Int32) (sz : Nat) : Met l yX12_firstWays wsFX12_firstWays ({ frames := 0, cells := 0, slots := 0, locals := 0 }) (va_Pc [.ref h0] (fun U => U.heap.size = sz ∧ va_P (dC, dI) vwCl [(h0, .inr (12, fM v)), (b, .inl (kb, 13, .inl r0))] U.heap ∧ va_K (dC, dI) vwCl [(kb, .int)] U ∧ va_D (fun _ => True) [(h0, .inr (12, fM v)), (b, .inl (kb, 13, .inl r0))])) (va_Qv (fun rd : Nat → Int32 => ∀ j, j < R → rd j = 0) (fun rd t => va_P (dC, dI) vwCl [(h0, .inr (12, fM v)), (b, .inl (kb, 13, .inl rd))] t.heap ∧ va_K (dC, dI) vwCl [(kb, .int)] t ∧ va_D (va_A [(h0, .inr (12, fM v)), (b, .inl (kb, 13, .inl r0))] sz) [(h0, .inr (12, fM v)), (b, .inl (kb, 13, .inl rd))]) (va_A [(h0, .inr (12, fM v)), (b, .inl (kb, 13, .inl r0))] sz)) 0 0 (va_A [(h0, .inr (12, fM v)), (b, .inl (kb, 13, .inl r0))] sz) := by
  refine Met.ofW (cc := cX12_firstWays) (maxL := 2) (ret := none) (by decide) rfl ?_
  intro p e s m args below meth c s₁ B hml hv
  obtain ⟨rfl, hsz, hP, hK, hD0⟩ := hv
  have hx := B.exec
  have hb := B.bytes
  have hr := B.returns
  have hts := atoms_spec (ws := wsFX12_firstWays) B.pre
  have hown : s.vm.findClass RX12 = some m.cls := findClass_of_methodNamed B.named
  have hlocks := B.notSynchronized
  subst hsz
  have hD := hD0.self (sz := s.heap.size)
  generalize hAe : va_A [(h0, .inr (12, fM v)), (b, .inl (kb, 13, .inl r0))] s.heap.size = A at hD ⊢
  have hA : ∀ q : Nat, s.heap.size ≤ q → A q := fun q h => by rw [← hAe]; exact Or.inr h
  have hS : va_S A s.heap s.heap [] := va_S.rf
  have hP : va_P (dC, dI) vwCl [(h0, .inr (12, fM v)), (b, .inl (kb, 13, .inl r0))] s.heap := hP
  have hl := lv_entry ([.ref h0]) (n := 2) (Nat.le_of_ble_eq_true rfl)
  rw [lg_entry_eq]
  generalize (lg_sl ([.ref h0]) ++ List.replicate (2 - (lg_sl ([.ref h0])).length) Slot.unset).toArray = ls at hl ⊢
  have hl : lv_has ls 2 [(0, .ref h0)] := hl
  refine lv_iconst (v := 0) hx hb dX12_firstWays_0 (by decide) ?_
  refine lv_istore_n (lv' := [(1, .int 0), (0, .ref h0)]) hx hb dX12_firstWays_1 rfl hl (by decide) rfl (fun ls hl => ?_)
  refine (fun (loop : ∀ (n i : Nat) (rd : Nat → Int32) (H : Heap) (locs : List Loc) (ls : Array Slot), i ≤ R → R < i + n → (∀ j, j < i → rd j = 0) → va_P (dC, dI) vwCl [(h0, .inr (12, fM v)), (b, .inl (kb, 13, .inl rd))] H → va_D A [(h0, .inr (12, fM v)), (b, .inl (kb, 13, .inl rd))] → va_S A s.heap H locs → lv_has ls 2 [(1, .int (nI i)), (0, .ref h0)] → W p l e _ s m _ below meth c H locs 0 0 _ (F0 m 2 ls [])) => loop (R + 1) 0 r0 _ _ ls (by omega) (by omega) (fun j h => absurd h (by omega)) hP hD hS (by rw [nI_0]; exact hl)) ?_
  intro n
  induction n with
  | zero => intro i rd H locs ls h1 h2; exact absurd h2 (by omega)
  | succ n ih =>
    intro i rd H locs ls hi hn hv9 hP hD hS hl
    refine lv_iload_n hx hb dX12_firstWays_2 rfl (lv_at hl 0 rfl) ?_
    refine lv_aload_n hx hb dX12_firstWays_3 rfl (lv_at hl 1 rfl) ?_
    refine va_get (D := (dC, dI)) (ci := 12) (v := .int (nI R)) (C := RX12) (T := TX12) (N := 163) hx hb hts iwsFX12_firstWays_in12 hown hK hP 0 rfl rfl 91 (by decide) (hts (.fieldLink RX12 786 "OptimaWorksModel" "modelRows" "I") (by decide +kernel)) (fun _ h9 => h9) (congrArg some h_rows) dX12_firstWays_4 ?_
    refine lv_icmp_ge (tgt := 23) hx hb dX12_firstWays_7 (by decide) (fun c_7 => ?_) (fun c_7 => ?_)
    · refine W.widen (k := 0) (n := 0) (by decide +kernel) (by decide +kernel) ?_
      exact W.vret hx hb hr (fun t ht hW => ⟨⟨rd, rfl, fun j h => hv9 j (by have := (nI_leI (by omega) (by omega)).mp c_7; omega), by rw [ht]; exact hP, va_K.moved hW.alike hK, hD⟩, hS.F ht⟩) hS.2.2 dX12_firstWays_23
    · refine lv_aload_n hx hb dX12_firstWays_10 rfl (lv_at hl 1 rfl) ?_
      refine va_get (D := (dC, dI)) (ci := 12) (v := .ref b) (C := RX12) (T := TX12) (N := 163) hx hb hts iwsFX12_firstWays_in12 hown hK hP 0 rfl rfl 114 (by decide) (hts (.fieldLink RX12 230 "OptimaWorksModel" "chosen" "[I") (by decide +kernel)) (fun _ h9 => h9) (congrArg some h_chosen) dX12_firstWays_11 ?_
      refine lv_iload_n hx hb dX12_firstWays_14 rfl (lv_at hl 0 rfl) ?_
      refine lv_iconst (v := 0) hx hb dX12_firstWays_15 (by decide) ?_
      refine va_iast hx hb hK hP hD hS 1 0 rfl rfl (vp_in_nI (by have hc := mt (nI_leI (by omega) (by omega)).mpr c_7; omega) (by omega)) dX12_firstWays_16 (fun H locs hP hD hS => ?_)
      have hP : va_P (dC, dI) vwCl [(h0, .inr (12, fM v)), (b, .inl (kb, 13, .inl (upd rd (nI i).toNatClampNeg 0)))] H := hP
      have hD : va_D A [(h0, .inr (12, fM v)), (b, .inl (kb, 13, .inl (upd rd (nI i).toNatClampNeg 0)))] := hD
      refine lv_iinc (v := (nI (i + 1))) (lv' := [(1, .int (nI (i + 1))), (0, .ref h0)]) hx hb dX12_firstWays_17 hl (k := 0) rfl (nI_1 i) (by decide) rfl (fun ls hl => ?_)
      refine lv_goto (tgt := 2) hx hb dX12_firstWays_20 (by decide) ?_
      have hc := mt (nI_leI (by omega) (by omega)).mpr c_7
      exact ih (i + 1) _ _ _ ls (by omega) (by omega) (fun j hj => by rw [nI_clamp (by omega)]; by_cases e9 : j = i; (rw [e9]; exact pk_us); (rw [pk_un e9]; exact hv9 j (by omega))) hP hD hS hl

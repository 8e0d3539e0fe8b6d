theorem dX12_byteAt_0 : decode cX12_byteAt 0 = .ok (.iload_n 1, 1) := dk_27 (by decide +kernel)
theorem dX12_byteAt_1 : decode cX12_byteAt 1 = .ok (.aload_n 0, 1) := dk_42 (by decide +kernel)
theorem dX12_byteAt_2 : decode cX12_byteAt 2 = .ok (.getfield 468, 3) := dk_180 (by decide +kernel)
theorem dX12_byteAt_5 : decode cX12_byteAt 5 = .ok (.if_icmp .ge 16, 3) := dk_162 (by decide +kernel)
theorem dX12_byteAt_8 : decode cX12_byteAt 8 = .ok (.aload_n 0, 1) := dk_42 (by decide +kernel)
theorem dX12_byteAt_9 : decode cX12_byteAt 9 = .ok (.getfield 39, 3) := dk_180 (by decide +kernel)
theorem dX12_byteAt_12 : decode cX12_byteAt 12 = .ok (.iload_n 1, 1) := dk_27 (by decide +kernel)
theorem dX12_byteAt_13 : decode cX12_byteAt 13 = .ok (.baload, 1) := dk_51 (by decide +kernel)
theorem dX12_byteAt_14 : decode cX12_byteAt 14 = .ok (.sipush 255, 3) := dk_17 (by decide +kernel)
theorem dX12_byteAt_17 : decode cX12_byteAt 17 = .ok (.iand, 1) := dk_126 (by decide +kernel)
theorem dX12_byteAt_18 : decode cX12_byteAt 18 = .ok (.goto 4, 3) := dk_167 (by decide +kernel)
theorem dX12_byteAt_21 : decode cX12_byteAt 21 = .ok (.iconst (-1), 1) := dk_2 (by decide +kernel)
theorem dX12_byteAt_22 : decode cX12_byteAt 22 = .ok (.ireturn, 1) := dk_172 (by decide +kernel)
def wsRX12_byteAt : List Cond := .code yX12_byteAt cX12_byteAt 2 (some .int) :: ([.fieldLink RX12 468 "OptimaWorksModel" "taped" "I", .fieldLink RX12 39 "OptimaWorksModel" "tape" "[B"] ++ wsX120)
theorem iwsRX12_byteAt_in12 : ∀ w ∈ wsX120, w ∈ wsRX12_byteAt := fun _ h => List.mem_cons_of_mem _ (List.mem_append_right _ h)
theorem gdwsRX12_byteAt : wsRX12_byteAt.all goodWord = true := gdC rfl (gdA (by decide +kernel : ([.fieldLink RX12 468 "OptimaWorksModel" "taped" "I", .fieldLink RX12 39 "OptimaWorksModel" "tape" "[B"] : List Cond).all goodWord = true) gdwsX120)
set_option maxHeartbeats 4000000 in
set_option maxRecDepth 100000 in
/-- byteAt(k) -/
theorem r_X12_byteAt (l : Launch) (dC : Nat → ClassId) (dI : Nat → Nat → Nat) (a : Nat → Nat) (k : Nat → ClassId) (h0 : Nat) (vi : Nat → Int32) (vj : Nat → Int64) (vF : Nat → Nat → Int32) (vG : Nat → Nat → Int64) (kn : Nat) (tp : Nat) (hTp : vi 16 = nI tp) (htp : tp ≤ 4000) (hkn : kn ≤ 8000) (sz : Nat) : Met l yX12_byteAt wsRX12_byteAt ({ frames := 0, cells := 0, slots := 0, locals := 0 }) (va_Pc [.ref h0, .int (nI kn)] (fun U => U.heap.size = sz ∧ va_P (dC, dI) vwCl (WR a k h0 vi vj vF vG) U.heap ∧ va_K (dC, dI) vwCl (tX12 k) U ∧ va_D (fun _ => True) (WR a k h0 vi vj vF vG))) (va_Qi (fun (r : Int32) (u : Unit) => r = (bA tp (vF 9) kn)) (fun (u : Unit) t => va_P (dC, dI) vwCl (WR a k h0 vi vj vF vG) t.heap ∧ va_D (va_A (WR a k h0 vi vj vF vG) sz) (WR a k h0 vi vj vF vG)) (va_A (WR a k h0 vi vj vF vG) sz)) 0 0 (va_A (WR a k h0 vi vj vF vG) sz) := by
  refine Met.ofW (cc := cX12_byteAt) (maxL := 2) (ret := (some .int)) (by decide) rfl ?_
  intro p e s m args below meth c s₁ B hml hv
  obtain ⟨rfl, hsz, hP, hK, hD0⟩ := hv
  have hx := B.exec
  have hb := B.bytes
  have hr := B.returns
  have hts := atoms_spec (ws := wsRX12_byteAt) B.pre
  have hown : s.vm.findClass RX12 = some m.cls := findClass_of_methodNamed B.named
  have hlocks := B.notSynchronized
  subst hsz
  have hD := hD0.self (sz := s.heap.size)
  generalize hAe : va_A (WR a k h0 vi vj vF vG) s.heap.size = A at hD ⊢
  have hA : ∀ q : Nat, s.heap.size ≤ q → A q := fun q h => by rw [← hAe]; exact Or.inr h
  have hS : va_S A s.heap s.heap [] := va_S.rf
  have hl := lv_entry ([.ref h0, .int (nI kn)]) (n := 2) (Nat.le_of_ble_eq_true rfl)
  rw [lg_entry_eq]
  generalize (lg_sl ([.ref h0, .int (nI kn)]) ++ List.replicate (2 - (lg_sl ([.ref h0, .int (nI kn)])).length) Slot.unset).toArray = ls at hl ⊢
  have hl : lv_has ls 2 [(0, .ref h0), (1, .int (nI kn))] := hl
  refine lv_iload_n hx hb dX12_byteAt_0 rfl (lv_at hl 1 rfl) ?_
  refine lv_aload_n hx hb dX12_byteAt_1 rfl (lv_at hl 0 rfl) ?_
  refine va_get (D := (dC, dI)) (ci := 12) (v := .int (vi 16)) (C := RX12) (T := TX12) (N := 163) (fs := fM (vS a vi vj)) hx hb hts iwsRX12_byteAt_in12 hown hK hP 0 rfl rfl 16 (by decide) (hts (.fieldLink RX12 468 "OptimaWorksModel" "taped" "I") (by decide +kernel)) (fun _ h9 => h9) rfl dX12_byteAt_2 ?_
  refine lv_topi (fun y1 hy1 => ?_)
  obtain rfl : (nI tp) = y1 := (hy1.trans (hTp)).symm
  refine lv_icmp_ge (tgt := 21) hx hb dX12_byteAt_5 (by decide) (fun c_5 => ?_) (fun c_5 => ?_)
  · have t_5 : ((kn : Nat) : Int) ≥ ((tp : Nat) : Int) := toI_ge c_5 (nI_toInt (by omega)) (nI_toInt (by omega))
    refine lv_iconst (v := (-1)) hx hb dX12_byteAt_21 (by decide) ?_
    refine W.widen (k := 0) (n := 0) (by decide +kernel) (by decide +kernel) ?_
    exact W.iret (v := (-1)) hx hb hr (fun t9_ ht hW => ⟨⟨(-1), (), rfl, by (try dsimp only); unfold bA; rw [if_neg (by omega)], by rw [ht]; exact hP, hD⟩, hS.F ht⟩) hS.2.2 dX12_byteAt_22
  · have t_5 : ¬ ((kn : Nat) : Int) ≥ ((tp : Nat) : Int) := toI_nge c_5 (nI_toInt (by omega)) (nI_toInt (by omega))
    refine lv_aload_n hx hb dX12_byteAt_8 rfl (lv_at hl 0 rfl) ?_
    refine va_get (D := (dC, dI)) (ci := 12) (v := .ref (a 9)) (C := RX12) (T := TX12) (N := 163) (fs := fM (vS a vi vj)) hx hb hts iwsRX12_byteAt_in12 hown hK hP 0 rfl rfl 15 (by decide) (hts (.fieldLink RX12 39 "OptimaWorksModel" "tape" "[B") (by decide +kernel)) (fun _ h9 => h9) rfl dX12_byteAt_9 ?_
    refine lv_iload_n hx hb dX12_byteAt_12 rfl (lv_at hl 1 rfl) ?_
    refine va_bald (cA := k 9) (n := 4000) (f := (vF 9)) hx hb hK hP 10 9 (WR_get 9 (by decide)) (TR_get 9 (by decide)) (vp_in_nI (show kn < 4000 by omega) (by omega)) dX12_byteAt_13 ?_
    refine lv_topi (fun y2 hy2 => ?_)
    obtain rfl : ((vF 9) kn) = y2 := (hy2.trans (by rw [nI_clamp (by omega)])).symm
    refine lv_sipush (v := 255) hx hb dX12_byteAt_14 (by decide) ?_
    refine lv_iand hx hb dX12_byteAt_17 ?_
    refine lv_goto (tgt := 22) hx hb dX12_byteAt_18 (by decide) ?_
    refine W.widen (k := 0) (n := 0) (by decide +kernel) (by decide +kernel) ?_
    exact W.iret (v := (((vF 9) kn) &&& 255)) hx hb hr (fun t9_ ht hW => ⟨⟨(((vF 9) kn) &&& 255), (), rfl, by (try dsimp only); unfold bA; rw [if_pos (by omega)], by rw [ht]; exact hP, hD⟩, hS.F ht⟩) hS.2.2 dX12_byteAt_22
theorem dX12_isLetter_0 : decode cX12_isLetter 0 = .ok (.iload_n 0, 1) := dk_26 (by decide +kernel)
theorem dX12_isLetter_1 : decode cX12_isLetter 1 = .ok (.bipush 65, 2) := dk_16 (by decide +kernel)
theorem dX12_isLetter_3 : decode cX12_isLetter 3 = .ok (.if_icmp .lt 9, 3) := dk_161 (by decide +kernel)
theorem dX12_isLetter_6 : decode cX12_isLetter 6 = .ok (.iload_n 0, 1) := dk_26 (by decide +kernel)
theorem dX12_isLetter_7 : decode cX12_isLetter 7 = .ok (.bipush 90, 2) := dk_16 (by decide +kernel)
theorem dX12_isLetter_9 : decode cX12_isLetter 9 = .ok (.if_icmp .le 15, 3) := dk_164 (by decide +kernel)
theorem dX12_isLetter_12 : decode cX12_isLetter 12 = .ok (.iload_n 0, 1) := dk_26 (by decide +kernel)
theorem dX12_isLetter_13 : decode cX12_isLetter 13 = .ok (.bipush 97, 2) := dk_16 (by decide +kernel)
theorem dX12_isLetter_15 : decode cX12_isLetter 15 = .ok (.if_icmp .lt 13, 3) := dk_161 (by decide +kernel)
theorem dX12_isLetter_18 : decode cX12_isLetter 18 = .ok (.iload_n 0, 1) := dk_26 (by decide +kernel)
theorem dX12_isLetter_19 : decode cX12_isLetter 19 = .ok (.bipush 122, 2) := dk_16 (by decide +kernel)
theorem dX12_isLetter_21 : decode cX12_isLetter 21 = .ok (.if_icmp .gt 7, 3) := dk_163 (by decide +kernel)
theorem dX12_isLetter_24 : decode cX12_isLetter 24 = .ok (.iconst 1, 1) := dk_4 (by decide +kernel)
theorem dX12_isLetter_25 : decode cX12_isLetter 25 = .ok (.goto 4, 3) := dk_167 (by decide +kernel)
theorem dX12_isLetter_28 : decode cX12_isLetter 28 = .ok (.iconst 0, 1) := dk_3 (by decide +kernel)
theorem dX12_isLetter_29 : decode cX12_isLetter 29 = .ok (.ireturn, 1) := dk_172 (by decide +kernel)
def wsRX12_isLetter : List Cond := .code yX12_isLetter cX12_isLetter 1 (some .boolean) :: ([])
theorem gdwsRX12_isLetter : wsRX12_isLetter.all goodWord = true := gdC rfl (by decide +kernel : ([] : List Cond).all goodWord = true)
set_option maxHeartbeats 4000000 in
set_option maxRecDepth 100000 in
/-- isLetter(c) -/
theorem r_X12_isLetter (l : Launch) (dC : Nat → ClassId) (dI : Nat → Nat → Nat) (cv : Int32) (sz : Nat) : Met l yX12_isLetter wsRX12_isLetter ({ frames := 0, cells := 0, slots := 0, locals := 0 }) (va_Pc [.int cv] (fun U => U.heap.size = sz ∧ va_P (dC, dI) vwCl [] U.heap ∧ va_K (dC, dI) vwCl [] U ∧ va_D (fun _ => True) [])) (va_Qi (fun (r : Int32) (u : Unit) => (r = 1 ∧ ((65 ≤ (cv).toInt ∧ (cv).toInt ≤ 90) ∨ (97 ≤ (cv).toInt ∧ (cv).toInt ≤ 122))) ∨ (r = 0 ∧ (¬ ((65 ≤ (cv).toInt ∧ (cv).toInt ≤ 90) ∨ (97 ≤ (cv).toInt ∧ (cv).toInt ≤ 122))))) (fun (u : Unit) t => True) (va_A [] sz)) 0 0 (va_A [] sz) := by
  refine Met.ofW (cc := cX12_isLetter) (maxL := 1) (ret := (some .boolean)) (by decide) rfl ?_
  intro p e s m args below meth c s₁ B hml hv
  obtain ⟨rfl, hsz, hP, hK, hD0⟩ := hv
  have hx := B.exec
  have hb := B.bytes
  have hr := B.returns
  have hts := atoms_spec (ws := wsRX12_isLetter) B.pre
  have hown : s.vm.findClass RX12 = some m.cls := findClass_of_methodNamed B.named
  have hlocks := B.notSynchronized
  subst hsz
  have hD := hD0.self (sz := s.heap.size)
  generalize hAe : va_A [] s.heap.size = A at hD ⊢
  have hA : ∀ q : Nat, s.heap.size ≤ q → A q := fun q h => by rw [← hAe]; exact Or.inr h
  have hS : va_S A s.heap s.heap [] := va_S.rf
  have hl := lv_entry ([.int cv]) (n := 1) (Nat.le_of_ble_eq_true rfl)
  rw [lg_entry_eq]
  generalize (lg_sl ([.int cv]) ++ List.replicate (1 - (lg_sl ([.int cv])).length) Slot.unset).toArray = ls at hl ⊢
  have hl : lv_has ls 1 [(0, .int cv)] := hl
  refine lv_iload_n hx hb dX12_isLetter_0 rfl (lv_at hl 0 rfl) ?_
  refine lv_bipush (v := 65) hx hb dX12_isLetter_1 (by decide) ?_
  refine lv_icmp_lt (tgt := 12) hx hb dX12_isLetter_3 (by decide) (fun c_3 => ?_) (fun c_3 => ?_)
  · have t_3 : (cv).toInt < 65 := toI_lt c_3 rfl (by decide)
    refine lv_iload_n hx hb dX12_isLetter_12 rfl (lv_at hl 0 rfl) ?_
    refine lv_bipush (v := 97) hx hb dX12_isLetter_13 (by decide) ?_
    refine lv_icmp_lt (tgt := 28) hx hb dX12_isLetter_15 (by decide) (fun c_15 => ?_) (fun c_15 => ?_)
    · have t_15 : (cv).toInt < 97 := toI_lt c_15 rfl (by decide)
      refine lv_iconst (v := 0) hx hb dX12_isLetter_28 (by decide) ?_
      refine W.widen (k := 0) (n := 0) (by decide +kernel) (by decide +kernel) ?_
      exact W.zret (v := 0) hx hb hr rfl (fun t9_ ht hW => ⟨⟨0, (), rfl, by (try dsimp only); right; exact ⟨rfl, by omega⟩, trivial⟩, hS.F ht⟩) hS.2.2 dX12_isLetter_29
    · have t_15 : ¬ (cv).toInt < 97 := toI_nlt c_15 rfl (by decide)
      refine lv_iload_n hx hb dX12_isLetter_18 rfl (lv_at hl 0 rfl) ?_
      refine lv_bipush (v := 122) hx hb dX12_isLetter_19 (by decide) ?_
      refine lv_icmp_gt (tgt := 28) hx hb dX12_isLetter_21 (by decide) (fun c_21 => ?_) (fun c_21 => ?_)
      · have t_21 : (cv).toInt > 122 := toI_gt c_21 rfl (by decide)
        refine lv_iconst (v := 0) hx hb dX12_isLetter_28 (by decide) ?_
        refine W.widen (k := 0) (n := 0) (by decide +kernel) (by decide +kernel) ?_
        exact W.zret (v := 0) hx hb hr rfl (fun t9_ ht hW => ⟨⟨0, (), rfl, by (try dsimp only); right; exact ⟨rfl, by omega⟩, trivial⟩, hS.F ht⟩) hS.2.2 dX12_isLetter_29
      · have t_21 : ¬ (cv).toInt > 122 := toI_ngt c_21 rfl (by decide)
        refine lv_iconst (v := 1) hx hb dX12_isLetter_24 (by decide) ?_
        refine lv_goto (tgt := 29) hx hb dX12_isLetter_25 (by decide) ?_
        refine W.widen (k := 0) (n := 0) (by decide +kernel) (by decide +kernel) ?_
        exact W.zret (v := 1) hx hb hr rfl (fun t9_ ht hW => ⟨⟨1, (), rfl, by (try dsimp only); left; exact ⟨rfl, by omega⟩, trivial⟩, hS.F ht⟩) hS.2.2 dX12_isLetter_29
  · have t_3 : ¬ (cv).toInt < 65 := toI_nlt c_3 rfl (by decide)
    refine lv_iload_n hx hb dX12_isLetter_6 rfl (lv_at hl 0 rfl) ?_
    refine lv_bipush (v := 90) hx hb dX12_isLetter_7 (by decide) ?_
    refine lv_icmp_le (tgt := 24) hx hb dX12_isLetter_9 (by decide) (fun c_9 => ?_) (fun c_9 => ?_)
    · have t_9 : (cv).toInt ≤ 90 := toI_le c_9 rfl (by decide)
      refine lv_iconst (v := 1) hx hb dX12_isLetter_24 (by decide) ?_
      refine lv_goto (tgt := 29) hx hb dX12_isLetter_25 (by decide) ?_
      refine W.widen (k := 0) (n := 0) (by decide +kernel) (by decide +kernel) ?_
      exact W.zret (v := 1) hx hb hr rfl (fun t9_ ht hW => ⟨⟨1, (), rfl, by (try dsimp only); left; exact ⟨rfl, by omega⟩, trivial⟩, hS.F ht⟩) hS.2.2 dX12_isLetter_29
    · have t_9 : ¬ (cv).toInt ≤ 90 := toI_nle c_9 rfl (by decide)
      refine lv_iload_n hx hb dX12_isLetter_12 rfl (lv_at hl 0 rfl) ?_
      refine lv_bipush (v := 97) hx hb dX12_isLetter_13 (by decide) ?_
      refine lv_icmp_lt (tgt := 28) hx hb dX12_isLetter_15 (by decide) (fun c_15 => ?_) (fun c_15 => ?_)
      · have t_15 : (cv).toInt < 97 := toI_lt c_15 rfl (by decide)
        refine lv_iconst (v := 0) hx hb dX12_isLetter_28 (by decide) ?_
        refine W.widen (k := 0) (n := 0) (by decide +kernel) (by decide +kernel) ?_
        exact W.zret (v := 0) hx hb hr rfl (fun t9_ ht hW => ⟨⟨0, (), rfl, by (try dsimp only); right; exact ⟨rfl, by omega⟩, trivial⟩, hS.F ht⟩) hS.2.2 dX12_isLetter_29
      · have t_15 : ¬ (cv).toInt < 97 := toI_nlt c_15 rfl (by decide)
        refine lv_iload_n hx hb dX12_isLetter_18 rfl (lv_at hl 0 rfl) ?_
        refine lv_bipush (v := 122) hx hb dX12_isLetter_19 (by decide) ?_
        refine lv_icmp_gt (tgt := 28) hx hb dX12_isLetter_21 (by decide) (fun c_21 => ?_) (fun c_21 => ?_)
        · have t_21 : (cv).toInt > 122 := toI_gt c_21 rfl (by decide)
          refine lv_iconst (v := 0) hx hb dX12_isLetter_28 (by decide) ?_
          refine W.widen (k := 0) (n := 0) (by decide +kernel) (by decide +kernel) ?_
          exact W.zret (v := 0) hx hb hr rfl (fun t9_ ht hW => ⟨⟨0, (), rfl, by (try dsimp only); right; exact ⟨rfl, by omega⟩, trivial⟩, hS.F ht⟩) hS.2.2 dX12_isLetter_29
        · have t_21 : ¬ (cv).toInt > 122 := toI_ngt c_21 rfl (by decide)
          refine lv_iconst (v := 1) hx hb dX12_isLetter_24 (by decide) ?_
          refine lv_goto (tgt := 29) hx hb dX12_isLetter_25 (by decide) ?_
          refine W.widen (k := 0) (n := 0) (by decide +kernel) (by decide +kernel) ?_
          exact W.zret (v := 1) hx hb hr rfl (fun t9_ ht hW => ⟨⟨1, (), rfl, by (try dsimp only); left; exact ⟨rfl, by omega⟩, trivial⟩, hS.F ht⟩) hS.2.2 dX12_isLetter_29
theorem dX12_isDigit_0 : decode cX12_isDigit 0 = .ok (.iload_n 0, 1) := dk_26 (by decide +kernel)
theorem dX12_isDigit_1 : decode cX12_isDigit 1 = .ok (.bipush 48, 2) := dk_16 (by decide +kernel)
theorem dX12_isDigit_3 : decode cX12_isDigit 3 = .ok (.if_icmp .lt 13, 3) := dk_161 (by decide +kernel)
theorem dX12_isDigit_6 : decode cX12_isDigit 6 = .ok (.iload_n 0, 1) := dk_26 (by decide +kernel)
theorem dX12_isDigit_7 : decode cX12_isDigit 7 = .ok (.bipush 57, 2) := dk_16 (by decide +kernel)
theorem dX12_isDigit_9 : decode cX12_isDigit 9 = .ok (.if_icmp .gt 7, 3) := dk_163 (by decide +kernel)
theorem dX12_isDigit_12 : decode cX12_isDigit 12 = .ok (.iconst 1, 1) := dk_4 (by decide +kernel)
theorem dX12_isDigit_13 : decode cX12_isDigit 13 = .ok (.goto 4, 3) := dk_167 (by decide +kernel)
theorem dX12_isDigit_16 : decode cX12_isDigit 16 = .ok (.iconst 0, 1) := dk_3 (by decide +kernel)
theorem dX12_isDigit_17 : decode cX12_isDigit 17 = .ok (.ireturn, 1) := dk_172 (by decide +kernel)
def wsRX12_isDigit : List Cond := .code yX12_isDigit cX12_isDigit 1 (some .boolean) :: ([])
theorem gdwsRX12_isDigit : wsRX12_isDigit.all goodWord = true := gdC rfl (by decide +kernel : ([] : List Cond).all goodWord = true)
set_option maxHeartbeats 4000000 in
set_option maxRecDepth 100000 in
/-- isDigit(c) -/
theorem r_X12_isDigit (l : Launch) (dC : Nat → ClassId) (dI : Nat → Nat → Nat) (cv : Int32) (sz : Nat) : Met l yX12_isDigit wsRX12_isDigit ({ frames := 0, cells := 0, slots := 0, locals := 0 }) (va_Pc [.int cv] (fun U => U.heap.size = sz ∧ va_P (dC, dI) vwCl [] U.heap ∧ va_K (dC, dI) vwCl [] U ∧ va_D (fun _ => True) [])) (va_Qi (fun (r : Int32) (u : Unit) => (r = 1 ∧ (48 ≤ (cv).toInt ∧ (cv).toInt ≤ 57)) ∨ (r = 0 ∧ (¬ (48 ≤ (cv).toInt ∧ (cv).toInt ≤ 57)))) (fun (u : Unit) t => True) (va_A [] sz)) 0 0 (va_A [] sz) := by
  refine Met.ofW (cc := cX12_isDigit) (maxL := 1) (ret := (some .boolean)) (by decide) rfl ?_
  intro p e s m args below meth c s₁ B hml hv
  obtain ⟨rfl, hsz, hP, hK, hD0⟩ := hv
  have hx := B.exec
  have hb := B.bytes
  have hr := B.returns
  have hts := atoms_spec (ws := wsRX12_isDigit) B.pre
  have hown : s.vm.findClass RX12 = some m.cls := findClass_of_methodNamed B.named
  have hlocks := B.notSynchronized
  subst hsz
  have hD := hD0.self (sz := s.heap.size)
  generalize hAe : va_A [] s.heap.size = A at hD ⊢
  have hA : ∀ q : Nat, s.heap.size ≤ q → A q := fun q h => by rw [← hAe]; exact Or.inr h
  have hS : va_S A s.heap s.heap [] := va_S.rf
  have hl := lv_entry ([.int cv]) (n := 1) (Nat.le_of_ble_eq_true rfl)
  rw [lg_entry_eq]
  generalize (lg_sl ([.int cv]) ++ List.replicate (1 - (lg_sl ([.int cv])).length) Slot.unset).toArray = ls at hl ⊢
  have hl : lv_has ls 1 [(0, .int cv)] := hl
  refine lv_iload_n hx hb dX12_isDigit_0 rfl (lv_at hl 0 rfl) ?_
  refine lv_bipush (v := 48) hx hb dX12_isDigit_1 (by decide) ?_
  refine lv_icmp_lt (tgt := 16) hx hb dX12_isDigit_3 (by decide) (fun c_3 => ?_) (fun c_3 => ?_)
  · have t_3 : (cv).toInt < 48 := toI_lt c_3 rfl (by decide)
    refine lv_iconst (v := 0) hx hb dX12_isDigit_16 (by decide) ?_
    refine W.widen (k := 0) (n := 0) (by decide +kernel) (by decide +kernel) ?_
    exact W.zret (v := 0) hx hb hr rfl (fun t9_ ht hW => ⟨⟨0, (), rfl, by (try dsimp only); right; exact ⟨rfl, by omega⟩, trivial⟩, hS.F ht⟩) hS.2.2 dX12_isDigit_17
  · have t_3 : ¬ (cv).toInt < 48 := toI_nlt c_3 rfl (by decide)
    refine lv_iload_n hx hb dX12_isDigit_6 rfl (lv_at hl 0 rfl) ?_
    refine lv_bipush (v := 57) hx hb dX12_isDigit_7 (by decide) ?_
    refine lv_icmp_gt (tgt := 16) hx hb dX12_isDigit_9 (by decide) (fun c_9 => ?_) (fun c_9 => ?_)
    · have t_9 : (cv).toInt > 57 := toI_gt c_9 rfl (by decide)
      refine lv_iconst (v := 0) hx hb dX12_isDigit_16 (by decide) ?_
      refine W.widen (k := 0) (n := 0) (by decide +kernel) (by decide +kernel) ?_
      exact W.zret (v := 0) hx hb hr rfl (fun t9_ ht hW => ⟨⟨0, (), rfl, by (try dsimp only); right; exact ⟨rfl, by omega⟩, trivial⟩, hS.F ht⟩) hS.2.2 dX12_isDigit_17
    · have t_9 : ¬ (cv).toInt > 57 := toI_ngt c_9 rfl (by decide)
      refine lv_iconst (v := 1) hx hb dX12_isDigit_12 (by decide) ?_
      refine lv_goto (tgt := 17) hx hb dX12_isDigit_13 (by decide) ?_
      refine W.widen (k := 0) (n := 0) (by decide +kernel) (by decide +kernel) ?_
      exact W.zret (v := 1) hx hb hr rfl (fun t9_ ht hW => ⟨⟨1, (), rfl, by (try dsimp only); left; exact ⟨rfl, by omega⟩, trivial⟩, hS.F ht⟩) hS.2.2 dX12_isDigit_17
theorem dX12_faultAt_0 : decode cX12_faultAt 0 = .ok (.aload_n 0, 1) := dk_42 (by decide +kernel)
theorem dX12_faultAt_1 : decode cX12_faultAt 1 = .ok (.getfield 515, 3) := dk_180 (by decide +kernel)
theorem dX12_faultAt_4 : decode cX12_faultAt 4 = .ok (.ifCond .le 4, 3) := dk_158 (by decide +kernel)
theorem dX12_faultAt_7 : decode cX12_faultAt 7 = .ok (.return_, 1) := dk_177 (by decide +kernel)
theorem dX12_faultAt_8 : decode cX12_faultAt 8 = .ok (.aload_n 0, 1) := dk_42 (by decide +kernel)
theorem dX12_faultAt_9 : decode cX12_faultAt 9 = .ok (.iload_n 1, 1) := dk_27 (by decide +kernel)
theorem dX12_faultAt_10 : decode cX12_faultAt 10 = .ok (.putfield 515, 3) := dk_181 (by decide +kernel)
theorem dX12_faultAt_13 : decode cX12_faultAt 13 = .ok (.aload_n 0, 1) := dk_42 (by decide +kernel)
theorem dX12_faultAt_14 : decode cX12_faultAt 14 = .ok (.iload_n 2, 1) := dk_28 (by decide +kernel)
theorem dX12_faultAt_15 : decode cX12_faultAt 15 = .ok (.putfield 43, 3) := dk_181 (by decide +kernel)
theorem dX12_faultAt_18 : decode cX12_faultAt 18 = .ok (.return_, 1) := dk_177 (by decide +kernel)
def wsRX12_faultAt : List Cond := .code yX12_faultAt cX12_faultAt 3 none :: ([.fieldLink RX12 515 "OptimaWorksModel" "stop" "I", .fieldLink RX12 43 "OptimaWorksModel" "place" "I"] ++ wsX120)
theorem iwsRX12_faultAt_in12 : ∀ w ∈ wsX120, w ∈ wsRX12_faultAt := fun _ h => List.mem_cons_of_mem _ (List.mem_append_right _ h)
theorem gdwsRX12_faultAt : wsRX12_faultAt.all goodWord = true := gdC rfl (gdA (by decide +kernel : ([.fieldLink RX12 515 "OptimaWorksModel" "stop" "I", .fieldLink RX12 43 "OptimaWorksModel" "place" "I"] : List Cond).all goodWord = true) gdwsX120)
set_option maxHeartbeats 4000000 in
set_option maxRecDepth 100000 in
/-- faultAt(n, p) -/
theorem r_X12_faultAt (l : Launch) (dC : Nat → ClassId) (dI : Nat → Nat → Nat) (a : Nat → Nat) (k : Nat → ClassId) (h0 : Nat) (vi : Nat → Int32) (vj : Nat → Int64) (vF : Nat → Nat → Int32) (vG : Nat → Nat → Int64) (nv : Int32) (pv : Int32) (hnv : 0 < (nv).toInt) (sz : Nat) : Met l yX12_faultAt wsRX12_faultAt ({ frames := 0, cells := 0, slots := 0, locals := 0 }) (va_Pc [.ref h0, .int nv, .int pv] (fun U => U.heap.size = sz ∧ va_P (dC, dI) vwCl (WR a k h0 vi vj vF vG) U.heap ∧ va_K (dC, dI) vwCl (tX12 k) U ∧ va_D (fun _ => True) (WR a k h0 vi vj vF vG))) (va_Qv (fun (u : (Int32) × (Int32)) => ((0 < (vi 21).toInt ∧ (u.1) = vi 21 ∧ (u.2) = vi 22) ∨ (¬ 0 < (vi 21).toInt ∧ (u.1) = nv ∧ (u.2) = pv)) ∧ (0 < ((u.1)).toInt)) (fun (u : (Int32) × (Int32)) t => va_P (dC, dI) vwCl (WR a k h0 (fT (fT vi 21 (u.1)) 22 (u.2)) vj vF vG) t.heap ∧ va_D (va_A (WR a k h0 vi vj vF vG) sz) (WR a k h0 (fT (fT vi 21 (u.1)) 22 (u.2)) vj vF vG)) (va_A (WR a k h0 vi vj vF vG) sz)) 0 0 (va_A (WR a k h0 vi vj vF vG) sz) := by
  refine Met.ofW (cc := cX12_faultAt) (maxL := 3) (ret := none) (by decide) rfl ?_
  intro p e s m args below meth c s₁ B hml hv
  obtain ⟨rfl, hsz, hP, hK, hD0⟩ := hv
  have hx := B.exec
  have hb := B.bytes
  have hr := B.returns
  have hts := atoms_spec (ws := wsRX12_faultAt) B.pre
  have hown : s.vm.findClass RX12 = some m.cls := findClass_of_methodNamed B.named
  have hlocks := B.notSynchronized
  subst hsz
  have hD := hD0.self (sz := s.heap.size)
  generalize hAe : va_A (WR a k h0 vi vj vF vG) s.heap.size = A at hD ⊢
  have hA : ∀ q : Nat, s.heap.size ≤ q → A q := fun q h => by rw [← hAe]; exact Or.inr h
  have hS : va_S A s.heap s.heap [] := va_S.rf
  have hl := lv_entry ([.ref h0, .int nv, .int pv]) (n := 3) (Nat.le_of_ble_eq_true rfl)
  rw [lg_entry_eq]
  generalize (lg_sl ([.ref h0, .int nv, .int pv]) ++ List.replicate (3 - (lg_sl ([.ref h0, .int nv, .int pv])).length) Slot.unset).toArray = ls at hl ⊢
  have hl : lv_has ls 3 [(0, .ref h0), (1, .int nv), (2, .int pv)] := hl
  refine lv_aload_n hx hb dX12_faultAt_0 rfl (lv_at hl 0 rfl) ?_
  refine va_get (D := (dC, dI)) (ci := 12) (v := .int (vi 21)) (C := RX12) (T := TX12) (N := 163) (fs := fM (vS a vi vj)) hx hb hts iwsRX12_faultAt_in12 hown hK hP 0 rfl rfl 21 (by decide) (hts (.fieldLink RX12 515 "OptimaWorksModel" "stop" "I") (by decide +kernel)) (fun _ h9 => h9) rfl dX12_faultAt_1 ?_
  refine lv_if_le (tgt := 8) hx hb dX12_faultAt_4 (by decide) (fun c_4 => ?_) (fun c_4 => ?_)
  · have t_4 : ((vi 21)).toInt ≤ 0 := toI_le c_4 rfl (by decide)
    refine lv_aload_n hx hb dX12_faultAt_8 rfl (lv_at hl 0 rfl) ?_
    refine lv_iload_n hx hb dX12_faultAt_9 rfl (lv_at hl 1 rfl) ?_
    refine va_put (D := (dC, dI)) (ci := 12) (v := .int nv) (ty := .int) (C := RX12) (T := TX12) (N := 163) (fs := fM (vS a vi vj)) hx hb hts iwsRX12_faultAt_in12 tyX12 tyX12_ok nmX12 hown hK hP hD hS 0 rfl rfl 21 (by decide) (hts (.fieldLink RX12 515 "OptimaWorksModel" "stop" "I") (by decide +kernel)) (fun _ h9 => h9) rfl (by decide +kernel) rfl rfl (Nat.le_of_ble_eq_true rfl) dX12_faultAt_10 (fun H locs hP hD hS => ?_)
    have hP : va_P (dC, dI) vwCl (WR a k h0 (fT vi 21 nv) vj vF vG) H := by rw [← WR_i 21 _ rfl]; exact hP
    have hD : va_D A (WR a k h0 (fT vi 21 nv) vj vF vG) := by rw [← WR_i 21 _ rfl]; exact hD
    refine lv_aload_n hx hb dX12_faultAt_13 rfl (lv_at hl 0 rfl) ?_
    refine lv_iload_n hx hb dX12_faultAt_14 rfl (lv_at hl 2 rfl) ?_
    refine va_put (D := (dC, dI)) (ci := 12) (v := .int pv) (ty := .int) (C := RX12) (T := TX12) (N := 163) (fs := fM (vS a (fT vi 21 nv) vj)) hx hb hts iwsRX12_faultAt_in12 tyX12 tyX12_ok nmX12 hown hK hP hD hS 0 rfl rfl 22 (by decide) (hts (.fieldLink RX12 43 "OptimaWorksModel" "place" "I") (by decide +kernel)) (fun _ h9 => h9) rfl (by decide +kernel) rfl rfl (Nat.le_of_ble_eq_true rfl) dX12_faultAt_15 (fun H locs hP hD hS => ?_)
    have hP : va_P (dC, dI) vwCl (WR a k h0 (fT (fT vi 21 nv) 22 pv) vj vF vG) H := by rw [← WR_i 22 _ rfl]; exact hP
    have hD : va_D A (WR a k h0 (fT (fT vi 21 nv) 22 pv) vj vF vG) := by rw [← WR_i 22 _ rfl]; exact hD
    refine W.widen (k := 0) (n := 0) (by decide +kernel) (by decide +kernel) ?_
    exact W.vret hx hb hr (fun t9_ ht hW => ⟨⟨(nv, pv), rfl, by (try dsimp only); exact ⟨Or.inr ⟨by omega, rfl, rfl⟩, hnv⟩, by rw [ht]; exact hP, hD⟩, hS.F ht⟩) hS.2.2 dX12_faultAt_18
  · have t_4 : ¬ ((vi 21)).toInt ≤ 0 := toI_nle c_4 rfl (by decide)
    refine W.widen (k := 0) (n := 0) (by decide +kernel) (by decide +kernel) ?_
    have e9 : fT (fT vi 21 (vi 21)) 22 (vi 22) = vi := (fT_id _ _ (fT_ne _ _ (Nat.ne_of_beq_eq_false rfl))).trans (fT_id _ _ (rfl))
    have hP : va_P (dC, dI) vwCl (WR a k h0 (fT (fT vi 21 (vi 21)) 22 (vi 22)) vj vF vG) s.heap := by rw [e9]; exact hP
    have hD : va_D A (WR a k h0 (fT (fT vi 21 (vi 21)) 22 (vi 22)) vj vF vG) := by rw [e9]; exact hD
    clear e9
    exact W.vret hx hb hr (fun t9_ ht hW => ⟨⟨((vi 21), (vi 22)), rfl, by (try dsimp only); exact ⟨Or.inl ⟨by omega, rfl, rfl⟩, by omega⟩, by rw [ht]; exact hP, hD⟩, hS.F ht⟩) hS.2.2 dX12_faultAt_7
theorem dX12_wrong_0 : decode cX12_wrong 0 = .ok (.aload_n 0, 1) := dk_42 (by decide +kernel)
theorem dX12_wrong_1 : decode cX12_wrong 1 = .ok (.aload_n 0, 1) := dk_42 (by decide +kernel)
theorem dX12_wrong_2 : decode cX12_wrong 2 = .ok (.getfield 494, 3) := dk_180 (by decide +kernel)
theorem dX12_wrong_5 : decode cX12_wrong 5 = .ok (.iconst 5, 1) := dk_8 (by decide +kernel)
theorem dX12_wrong_6 : decode cX12_wrong 6 = .ok (.if_icmp .ne 7, 3) := dk_160 (by decide +kernel)
theorem dX12_wrong_9 : decode cX12_wrong 9 = .ok (.iconst 2, 1) := dk_5 (by decide +kernel)
theorem dX12_wrong_10 : decode cX12_wrong 10 = .ok (.goto 4, 3) := dk_167 (by decide +kernel)
theorem dX12_wrong_13 : decode cX12_wrong 13 = .ok (.iconst 1, 1) := dk_4 (by decide +kernel)
theorem dX12_wrong_14 : decode cX12_wrong 14 = .ok (.aload_n 0, 1) := dk_42 (by decide +kernel)
theorem dX12_wrong_15 : decode cX12_wrong 15 = .ok (.getfield 488, 3) := dk_180 (by decide +kernel)
theorem dX12_wrong_18 : decode cX12_wrong 18 = .ok (.invokevirtual 518, 3) := dk_182 (by decide +kernel)
theorem dX12_wrong_21 : decode cX12_wrong 21 = .ok (.return_, 1) := dk_177 (by decide +kernel)
def wsRX12_wrong : List Cond := .code yX12_wrong cX12_wrong 1 none :: ([.fieldLink RX12 494 "OptimaWorksModel" "word" "I", .fieldLink RX12 488 "OptimaWorksModel" "from" "I"] ++ wsX120 ++ (wsV RX12 518 RX12 yX12_faultAt wsRX12_faultAt))
theorem iwsRX12_wrong_in12 : ∀ w ∈ wsX120, w ∈ wsRX12_wrong := fun _ h => List.mem_cons_of_mem _ (List.mem_append_left _ (List.mem_append_right _ h))
theorem gwsRX12_wrong_0 : GoodIn wsRX12_wrong (wsV RX12 518 RX12 yX12_faultAt wsRX12_faultAt) := goodIn_sub (fun _ h => List.mem_cons_of_mem _ (List.mem_append_right _ h)) (gdV (by decide +kernel) gdwsRX12_faultAt)
theorem gdwsRX12_wrong : wsRX12_wrong.all goodWord = true := gdC rfl (gdA (gdA (by decide +kernel : ([.fieldLink RX12 494 "OptimaWorksModel" "word" "I", .fieldLink RX12 488 "OptimaWorksModel" "from" "I"] : List Cond).all goodWord = true) gdwsX120) (gdV (by decide +kernel) gdwsRX12_faultAt))
set_option maxHeartbeats 4000000 in
set_option maxRecDepth 100000 in
/-- wrong() -/
theorem r_X12_wrong (l : Launch) (dC : Nat → ClassId) (dI : Nat → Nat → Nat) (a : Nat → Nat) (k : Nat → ClassId) (h0 : Nat) (vi : Nat → Int32) (vj : Nat → Int64) (vF : Nat → Nat → Int32) (vG : Nat → Nat → Int64) (sz : Nat) : Met l yX12_wrong wsRX12_wrong ({ frames := 1, cells := 0, slots := 0, locals := 22 }) (va_Pc [.ref h0] (fun U => U.heap.size = sz ∧ va_P (dC, dI) vwCl (WR a k h0 vi vj vF vG) U.heap ∧ va_K (dC, dI) vwCl (tX12 k) U ∧ va_D (fun _ => True) (WR a k h0 vi vj vF vG))) (va_Qv (fun (u : (Int32) × (Int32)) => ((0 < (vi 21).toInt ∧ (u.1) = vi 21 ∧ (u.2) = vi 22) ∨ (¬ 0 < (vi 21).toInt ∧ ((u.1) = 1 ∨ (u.1) = 2) ∧ (u.2) = vi 19)) ∧ (0 < ((u.1)).toInt)) (fun (u : (Int32) × (Int32)) t => va_P (dC, dI) vwCl (WR a k h0 (fT (fT vi 21 (u.1)) 22 (u.2)) vj vF vG) t.heap ∧ va_D (va_A (WR a k h0 vi vj vF vG) sz) (WR a k h0 (fT (fT vi 21 (u.1)) 22 (u.2)) vj vF vG)) (va_A (WR a k h0 vi vj vF vG) sz)) 0 0 (va_A (WR a k h0 vi vj vF vG) sz) := by
  refine Met.ofW (cc := cX12_wrong) (maxL := 1) (ret := none) (by decide) rfl ?_
  intro p e s m args below meth c s₁ B hml hv
  obtain ⟨rfl, hsz, hP, hK, hD0⟩ := hv
  have hx := B.exec
  have hb := B.bytes
  have hr := B.returns
  have hts := atoms_spec (ws := wsRX12_wrong) B.pre
  have hown : s.vm.findClass RX12 = some m.cls := findClass_of_methodNamed B.named
  have hlocks := B.notSynchronized
  subst hsz
  have hD := hD0.self (sz := s.heap.size)
  generalize hAe : va_A (WR a k h0 vi vj vF vG) s.heap.size = A at hD ⊢
  have hA : ∀ q : Nat, s.heap.size ≤ q → A q := fun q h => by rw [← hAe]; exact Or.inr h
  have hS : va_S A s.heap s.heap [] := va_S.rf
  have hl := lv_entry ([.ref h0]) (n := 1) (Nat.le_of_ble_eq_true rfl)
  rw [lg_entry_eq]
  generalize (lg_sl ([.ref h0]) ++ List.replicate (1 - (lg_sl ([.ref h0])).length) Slot.unset).toArray = ls at hl ⊢
  have hl : lv_has ls 1 [(0, .ref h0)] := hl
  refine lv_aload_n hx hb dX12_wrong_0 rfl (lv_at hl 0 rfl) ?_
  refine lv_aload_n hx hb dX12_wrong_1 rfl (lv_at hl 0 rfl) ?_
  refine va_get (D := (dC, dI)) (ci := 12) (v := .int (vi 18)) (C := RX12) (T := TX12) (N := 163) (fs := fM (vS a vi vj)) hx hb hts iwsRX12_wrong_in12 hown hK hP 0 rfl rfl 18 (by decide) (hts (.fieldLink RX12 494 "OptimaWorksModel" "word" "I") (by decide +kernel)) (fun _ h9 => h9) rfl dX12_wrong_2 ?_
  refine lv_iconst (v := 5) hx hb dX12_wrong_5 (by decide) ?_
  refine lv_icmp_ne (tgt := 13) hx hb dX12_wrong_6 (by decide) (fun c_6 => ?_) (fun c_6 => ?_)
  · have t_6 : ((vi 18)).toInt ≠ 5 := toI_ne c_6 rfl (by decide)
    refine lv_iconst (v := 1) hx hb dX12_wrong_13 (by decide) ?_
    refine lv_aload_n hx hb dX12_wrong_14 rfl (lv_at hl 0 rfl) ?_
    refine va_get (D := (dC, dI)) (ci := 12) (v := .int (vi 19)) (C := RX12) (T := TX12) (N := 163) (fs := fM (vS a vi vj)) hx hb hts iwsRX12_wrong_in12 hown hK hP 0 rfl rfl 19 (by decide) (hts (.fieldLink RX12 488 "OptimaWorksModel" "from" "I") (by decide +kernel)) (fun _ h9 => h9) rfl dX12_wrong_15 ?_
    have hFc := allFree hD hS hA
    refine va_callv (va_runV (As := [.int 1, .int (vi 19)]) (rest := []) ⟨hx, hb, hml, hown, hts⟩ (r_X12_faultAt l dC dI a k h0 vi vj vF vG 1 (vi 19) (by first | assumption | decide | omega | rfl) s.heap.size) (cwV 2 hts gwsRX12_wrong_0 rfl rfl rfl (by decide +kernel) ⟨by decide +kernel, by decide +kernel⟩) ⟨fun a U g mk q => by obtain ⟨q0, q1, qP, qK, qD⟩ := q; exact ⟨q0, q1, qP, va_K.moved (u := U) (U := U.calling g mk a) (Vm.Alike.refl U.vm) qK, qD⟩, va_recv hK hP (ci := 12) (q0 := 0) rfl rfl, fun U hU9 hW => ⟨rfl, by rw [hU9], by rw [hU9]; exact hP, va_K.moved hW.alike hK, hD.weaken (fun _ _ _ _ => trivial)⟩⟩ rfl rfl hl.1 rfl (lv_room (Nat.le_of_ble_eq_true rfl)) dX12_wrong_18 ⟨by decide +kernel, by decide +kernel⟩) hS (fun q _ h => hFc q h) hFc (fun u t9_ H1 locs ht hvm hw9 hB9 hz1 hk1 hS => ?_)
    obtain ⟨s218, p218⟩ := u
    try dsimp only at hw9 hB9
    obtain ⟨hP1, hD1⟩ := hB9
    rw [ht] at hP1
    have hP := hP1
    have hD := hD1.weaken (fun _ q _ h => hFc q.1 h)
    generalize H1 = H at hP hS ⊢
    have hP : va_P (dC, dI) vwCl (WR a k h0 (fT (fT vi 21 s218) 22 p218) vj vF vG) H := hP
    have hD : va_D A (WR a k h0 (fT (fT vi 21 s218) 22 p218) vj vF vG) := hD
    obtain ⟨f18_0, f18_1⟩ := hw9
    have f18_0 : (0 < (vi 21).toInt ∧ s218 = (vi 21) ∧ p218 = (vi 22)) ∨ (¬ 0 < (vi 21).toInt ∧ s218 = 1 ∧ p218 = (vi 19)) := f18_0
    refine W.widen (k := 0) (n := 0) (by decide +kernel) (by decide +kernel) ?_
    exact W.vret hx hb hr (fun t9_ ht hW => ⟨⟨(s218, p218), rfl, by (try dsimp only); exact ⟨by rcases f18_0 with h9 | ⟨h9, h8, h7⟩; (exact Or.inl h9); (exact Or.inr ⟨h9, Or.inl h8, h7⟩), f18_1⟩, by rw [ht]; exact hP, hD⟩, hS.F ht⟩) hS.2.2 dX12_wrong_21
  · have t_6 : ((vi 18)).toInt = 5 := toI_nne c_6 rfl (by decide)
    refine lv_iconst (v := 2) hx hb dX12_wrong_9 (by decide) ?_
    refine lv_goto (tgt := 14) hx hb dX12_wrong_10 (by decide) ?_
    refine lv_aload_n hx hb dX12_wrong_14 rfl (lv_at hl 0 rfl) ?_
    refine va_get (D := (dC, dI)) (ci := 12) (v := .int (vi 19)) (C := RX12) (T := TX12) (N := 163) (fs := fM (vS a vi vj)) hx hb hts iwsRX12_wrong_in12 hown hK hP 0 rfl rfl 19 (by decide) (hts (.fieldLink RX12 488 "OptimaWorksModel" "from" "I") (by decide +kernel)) (fun _ h9 => h9) rfl dX12_wrong_15 ?_
    have hFc := allFree hD hS hA
    refine va_callv (va_runV (As := [.int 2, .int (vi 19)]) (rest := []) ⟨hx, hb, hml, hown, hts⟩ (r_X12_faultAt l dC dI a k h0 vi vj vF vG 2 (vi 19) (by first | assumption | decide | omega | rfl) s.heap.size) (cwV 2 hts gwsRX12_wrong_0 rfl rfl rfl (by decide +kernel) ⟨by decide +kernel, by decide +kernel⟩) ⟨fun a U g mk q => by obtain ⟨q0, q1, qP, qK, qD⟩ := q; exact ⟨q0, q1, qP, va_K.moved (u := U) (U := U.calling g mk a) (Vm.Alike.refl U.vm) qK, qD⟩, va_recv hK hP (ci := 12) (q0 := 0) rfl rfl, fun U hU9 hW => ⟨rfl, by rw [hU9], by rw [hU9]; exact hP, va_K.moved hW.alike hK, hD.weaken (fun _ _ _ _ => trivial)⟩⟩ rfl rfl hl.1 rfl (lv_room (Nat.le_of_ble_eq_true rfl)) dX12_wrong_18 ⟨by decide +kernel, by decide +kernel⟩) hS (fun q _ h => hFc q h) hFc (fun u t9_ H1 locs ht hvm hw9 hB9 hz1 hk1 hS => ?_)
    obtain ⟨s218_1, p218_1⟩ := u
    try dsimp only at hw9 hB9
    obtain ⟨hP1, hD1⟩ := hB9
    rw [ht] at hP1
    have hP := hP1
    have hD := hD1.weaken (fun _ q _ h => hFc q.1 h)
    generalize H1 = H at hP hS ⊢
    have hP : va_P (dC, dI) vwCl (WR a k h0 (fT (fT vi 21 s218_1) 22 p218_1) vj vF vG) H := hP
    have hD : va_D A (WR a k h0 (fT (fT vi 21 s218_1) 22 p218_1) vj vF vG) := hD
    obtain ⟨f18_1_0, f18_1_1⟩ := hw9
    have f18_1_0 : (0 < (vi 21).toInt ∧ s218_1 = (vi 21) ∧ p218_1 = (vi 22)) ∨ (¬ 0 < (vi 21).toInt ∧ s218_1 = 2 ∧ p218_1 = (vi 19)) := f18_1_0
    refine W.widen (k := 0) (n := 0) (by decide +kernel) (by decide +kernel) ?_
    exact W.vret hx hb hr (fun t9_ ht hW => ⟨⟨(s218_1, p218_1), rfl, by (try dsimp only); exact ⟨by rcases f18_1_0 with h9 | ⟨h9, h8, h7⟩; (exact Or.inl h9); (exact Or.inr ⟨h9, Or.inr h8, h7⟩), f18_1_1⟩, by rw [ht]; exact hP, hD⟩, hS.F ht⟩) hS.2.2 dX12_wrong_21
theorem dX12_isSign_0 : decode cX12_isSign 0 = .ok (.aload_n 0, 1) := dk_42 (by decide +kernel)
theorem dX12_isSign_1 : decode cX12_isSign 1 = .ok (.getfield 494, 3) := dk_180 (by decide +kernel)
theorem dX12_isSign_4 : decode cX12_isSign 4 = .ok (.iconst 4, 1) := dk_7 (by decide +kernel)
theorem dX12_isSign_5 : decode cX12_isSign 5 = .ok (.if_icmp .ne 15, 3) := dk_160 (by decide +kernel)
theorem dX12_isSign_8 : decode cX12_isSign 8 = .ok (.aload_n 0, 1) := dk_42 (by decide +kernel)
theorem dX12_isSign_9 : decode cX12_isSign 9 = .ok (.getfield 491, 3) := dk_180 (by decide +kernel)
theorem dX12_isSign_12 : decode cX12_isSign 12 = .ok (.iload_n 1, 1) := dk_27 (by decide +kernel)
theorem dX12_isSign_13 : decode cX12_isSign 13 = .ok (.if_icmp .ne 7, 3) := dk_160 (by decide +kernel)
theorem dX12_isSign_16 : decode cX12_isSign 16 = .ok (.iconst 1, 1) := dk_4 (by decide +kernel)
theorem dX12_isSign_17 : decode cX12_isSign 17 = .ok (.goto 4, 3) := dk_167 (by decide +kernel)
theorem dX12_isSign_20 : decode cX12_isSign 20 = .ok (.iconst 0, 1) := dk_3 (by decide +kernel)
theorem dX12_isSign_21 : decode cX12_isSign 21 = .ok (.ireturn, 1) := dk_172 (by decide +kernel)
def wsRX12_isSign : List Cond := .code yX12_isSign cX12_isSign 2 (some .boolean) :: ([.fieldLink RX12 494 "OptimaWorksModel" "word" "I", .fieldLink RX12 491 "OptimaWorksModel" "sign0" "I"] ++ wsX120)
theorem iwsRX12_isSign_in12 : ∀ w ∈ wsX120, w ∈ wsRX12_isSign := fun _ h => List.mem_cons_of_mem _ (List.mem_append_right _ h)
theorem gdwsRX12_isSign : wsRX12_isSign.all goodWord = true := gdC rfl (gdA (by decide +kernel : ([.fieldLink RX12 494 "OptimaWorksModel" "word" "I", .fieldLink RX12 491 "OptimaWorksModel" "sign0" "I"] : List Cond).all goodWord = true) gdwsX120)
set_option maxHeartbeats 4000000 in
set_option maxRecDepth 100000 in
/-- isSign(c) -/
theorem r_X12_isSign (l : Launch) (dC : Nat → ClassId) (dI : Nat → Nat → Nat) (a : Nat → Nat) (k : Nat → ClassId) (h0 : Nat) (vi : Nat → Int32) (vj : Nat → Int64) (vF : Nat → Nat → Int32) (vG : Nat → Nat → Int64) (cv : Int32) (sz : Nat) : Met l yX12_isSign wsRX12_isSign ({ frames := 0, cells := 0, slots := 0, locals := 0 }) (va_Pc [.ref h0, .int cv] (fun U => U.heap.size = sz ∧ va_P (dC, dI) vwCl (WR a k h0 vi vj vF vG) U.heap ∧ va_K (dC, dI) vwCl (tX12 k) U ∧ va_D (fun _ => True) (WR a k h0 vi vj vF vG))) (va_Qi (fun (r : Int32) (u : Unit) => (r = 1 ∧ ((vi 18).toInt = 4) ∧ (vi 20 = cv)) ∨ (r = 0 ∧ (¬ ((vi 18).toInt = 4 ∧ vi 20 = cv)))) (fun (u : Unit) t => va_P (dC, dI) vwCl (WR a k h0 vi vj vF vG) t.heap ∧ va_D (va_A (WR a k h0 vi vj vF vG) sz) (WR a k h0 vi vj vF vG)) (va_A (WR a k h0 vi vj vF vG) sz)) 0 0 (va_A (WR a k h0 vi vj vF vG) sz) := by
  refine Met.ofW (cc := cX12_isSign) (maxL := 2) (ret := (some .boolean)) (by decide) rfl ?_
  intro p e s m args below meth c s₁ B hml hv
  obtain ⟨rfl, hsz, hP, hK, hD0⟩ := hv
  have hx := B.exec
  have hb := B.bytes
  have hr := B.returns
  have hts := atoms_spec (ws := wsRX12_isSign) B.pre
  have hown : s.vm.findClass RX12 = some m.cls := findClass_of_methodNamed B.named
  have hlocks := B.notSynchronized
  subst hsz
  have hD := hD0.self (sz := s.heap.size)
  generalize hAe : va_A (WR a k h0 vi vj vF vG) s.heap.size = A at hD ⊢
  have hA : ∀ q : Nat, s.heap.size ≤ q → A q := fun q h => by rw [← hAe]; exact Or.inr h
  have hS : va_S A s.heap s.heap [] := va_S.rf
  have hl := lv_entry ([.ref h0, .int cv]) (n := 2) (Nat.le_of_ble_eq_true rfl)
  rw [lg_entry_eq]
  generalize (lg_sl ([.ref h0, .int cv]) ++ List.replicate (2 - (lg_sl ([.ref h0, .int cv])).length) Slot.unset).toArray = ls at hl ⊢
  have hl : lv_has ls 2 [(0, .ref h0), (1, .int cv)] := hl
  refine lv_aload_n hx hb dX12_isSign_0 rfl (lv_at hl 0 rfl) ?_
  refine va_get (D := (dC, dI)) (ci := 12) (v := .int (vi 18)) (C := RX12) (T := TX12) (N := 163) (fs := fM (vS a vi vj)) hx hb hts iwsRX12_isSign_in12 hown hK hP 0 rfl rfl 18 (by decide) (hts (.fieldLink RX12 494 "OptimaWorksModel" "word" "I") (by decide +kernel)) (fun _ h9 => h9) rfl dX12_isSign_1 ?_
  refine lv_iconst (v := 4) hx hb dX12_isSign_4 (by decide) ?_
  refine lv_icmp_ne (tgt := 20) hx hb dX12_isSign_5 (by decide) (fun c_5 => ?_) (fun c_5 => ?_)
  · have t_5 : ((vi 18)).toInt ≠ 4 := toI_ne c_5 rfl (by decide)
    refine lv_iconst (v := 0) hx hb dX12_isSign_20 (by decide) ?_
    refine W.widen (k := 0) (n := 0) (by decide +kernel) (by decide +kernel) ?_
    exact W.zret (v := 0) hx hb hr rfl (fun t9_ ht hW => ⟨⟨0, (), rfl, by (try dsimp only); exact Or.inr ⟨rfl, fun h9 => by have h8 := h9.1; omega⟩, by rw [ht]; exact hP, hD⟩, hS.F ht⟩) hS.2.2 dX12_isSign_21
  · have t_5 : ((vi 18)).toInt = 4 := toI_nne c_5 rfl (by decide)
    refine lv_aload_n hx hb dX12_isSign_8 rfl (lv_at hl 0 rfl) ?_
    refine va_get (D := (dC, dI)) (ci := 12) (v := .int (vi 20)) (C := RX12) (T := TX12) (N := 163) (fs := fM (vS a vi vj)) hx hb hts iwsRX12_isSign_in12 hown hK hP 0 rfl rfl 20 (by decide) (hts (.fieldLink RX12 491 "OptimaWorksModel" "sign0" "I") (by decide +kernel)) (fun _ h9 => h9) rfl dX12_isSign_9 ?_
    refine lv_iload_n hx hb dX12_isSign_12 rfl (lv_at hl 1 rfl) ?_
    refine lv_icmp_ne (tgt := 20) hx hb dX12_isSign_13 (by decide) (fun c_13 => ?_) (fun c_13 => ?_)
    · have t_13 : ((vi 20)).toInt ≠ (cv).toInt := toI_ne c_13 rfl rfl
      refine lv_iconst (v := 0) hx hb dX12_isSign_20 (by decide) ?_
      refine W.widen (k := 0) (n := 0) (by decide +kernel) (by decide +kernel) ?_
      exact W.zret (v := 0) hx hb hr rfl (fun t9_ ht hW => ⟨⟨0, (), rfl, by (try dsimp only); exact Or.inr ⟨rfl, fun h9 => c_13 h9.2⟩, by rw [ht]; exact hP, hD⟩, hS.F ht⟩) hS.2.2 dX12_isSign_21
    · have t_13 : ((vi 20)).toInt = (cv).toInt := toI_nne c_13 rfl rfl
      refine lv_iconst (v := 1) hx hb dX12_isSign_16 (by decide) ?_
      refine lv_goto (tgt := 21) hx hb dX12_isSign_17 (by decide) ?_
      refine W.widen (k := 0) (n := 0) (by decide +kernel) (by decide +kernel) ?_
      exact W.zret (v := 1) hx hb hr rfl (fun t9_ ht hW => ⟨⟨1, (), rfl, by (try dsimp only); exact Or.inl ⟨rfl, by omega, c_13⟩, by rw [ht]; exact hP, hD⟩, hS.F ht⟩) hS.2.2 dX12_isSign_21
theorem dX12_isKey_0 : decode cX12_isKey 0 = .ok (.aload_n 0, 1) := dk_42 (by decide +kernel)
theorem dX12_isKey_1 : decode cX12_isKey 1 = .ok (.getfield 494, 3) := dk_180 (by decide +kernel)
theorem dX12_isKey_4 : decode cX12_isKey 4 = .ok (.iconst 2, 1) := dk_5 (by decide +kernel)
theorem dX12_isKey_5 : decode cX12_isKey 5 = .ok (.if_icmp .ne 15, 3) := dk_160 (by decide +kernel)
theorem dX12_isKey_8 : decode cX12_isKey 8 = .ok (.aload_n 0, 1) := dk_42 (by decide +kernel)
theorem dX12_isKey_9 : decode cX12_isKey 9 = .ok (.getfield 491, 3) := dk_180 (by decide +kernel)
theorem dX12_isKey_12 : decode cX12_isKey 12 = .ok (.iload_n 1, 1) := dk_27 (by decide +kernel)
theorem dX12_isKey_13 : decode cX12_isKey 13 = .ok (.if_icmp .ne 7, 3) := dk_160 (by decide +kernel)
theorem dX12_isKey_16 : decode cX12_isKey 16 = .ok (.iconst 1, 1) := dk_4 (by decide +kernel)
theorem dX12_isKey_17 : decode cX12_isKey 17 = .ok (.goto 4, 3) := dk_167 (by decide +kernel)
theorem dX12_isKey_20 : decode cX12_isKey 20 = .ok (.iconst 0, 1) := dk_3 (by decide +kernel)
theorem dX12_isKey_21 : decode cX12_isKey 21 = .ok (.ireturn, 1) := dk_172 (by decide +kernel)
def wsRX12_isKey : List Cond := .code yX12_isKey cX12_isKey 2 (some .boolean) :: ([.fieldLink RX12 494 "OptimaWorksModel" "word" "I", .fieldLink RX12 491 "OptimaWorksModel" "sign0" "I"] ++ wsX120)
theorem iwsRX12_isKey_in12 : ∀ w ∈ wsX120, w ∈ wsRX12_isKey := fun _ h => List.mem_cons_of_mem _ (List.mem_append_right _ h)
theorem gdwsRX12_isKey : wsRX12_isKey.all goodWord = true := gdC rfl (gdA (by decide +kernel : ([.fieldLink RX12 494 "OptimaWorksModel" "word" "I", .fieldLink RX12 491 "OptimaWorksModel" "sign0" "I"] : List Cond).all goodWord = true) gdwsX120)
set_option maxHeartbeats 4000000 in
set_option maxRecDepth 100000 in
/-- isKey(k) -/
theorem r_X12_isKey (l : Launch) (dC : Nat → ClassId) (dI : Nat → Nat → Nat) (a : Nat → Nat) (k : Nat → ClassId) (h0 : Nat) (vi : Nat → Int32) (vj : Nat → Int64) (vF : Nat → Nat → Int32) (vG : Nat → Nat → Int64) (cv : Int32) (sz : Nat) : Met l yX12_isKey wsRX12_isKey ({ frames := 0, cells := 0, slots := 0, locals := 0 }) (va_Pc [.ref h0, .int cv] (fun U => U.heap.size = sz ∧ va_P (dC, dI) vwCl (WR a k h0 vi vj vF vG) U.heap ∧ va_K (dC, dI) vwCl (tX12 k) U ∧ va_D (fun _ => True) (WR a k h0 vi vj vF vG))) (va_Qi (fun (r : Int32) (u : Unit) => (r = 1 ∧ ((vi 18).toInt = 2) ∧ (vi 20 = cv)) ∨ (r = 0 ∧ (¬ ((vi 18).toInt = 2 ∧ vi 20 = cv)))) (fun (u : Unit) t => va_P (dC, dI) vwCl (WR a k h0 vi vj vF vG) t.heap ∧ va_D (va_A (WR a k h0 vi vj vF vG) sz) (WR a k h0 vi vj vF vG)) (va_A (WR a k h0 vi vj vF vG) sz)) 0 0 (va_A (WR a k h0 vi vj vF vG) sz) := by
  refine Met.ofW (cc := cX12_isKey) (maxL := 2) (ret := (some .boolean)) (by decide) rfl ?_
  intro p e s m args below meth c s₁ B hml hv
  obtain ⟨rfl, hsz, hP, hK, hD0⟩ := hv
  have hx := B.exec
  have hb := B.bytes
  have hr := B.returns
  have hts := atoms_spec (ws := wsRX12_isKey) B.pre
  have hown : s.vm.findClass RX12 = some m.cls := findClass_of_methodNamed B.named
  have hlocks := B.notSynchronized
  subst hsz
  have hD := hD0.self (sz := s.heap.size)
  generalize hAe : va_A (WR a k h0 vi vj vF vG) s.heap.size = A at hD ⊢
  have hA : ∀ q : Nat, s.heap.size ≤ q → A q := fun q h => by rw [← hAe]; exact Or.inr h
  have hS : va_S A s.heap s.heap [] := va_S.rf
  have hl := lv_entry ([.ref h0, .int cv]) (n := 2) (Nat.le_of_ble_eq_true rfl)
  rw [lg_entry_eq]
  generalize (lg_sl ([.ref h0, .int cv]) ++ List.replicate (2 - (lg_sl ([.ref h0, .int cv])).length) Slot.unset).toArray = ls at hl ⊢
  have hl : lv_has ls 2 [(0, .ref h0), (1, .int cv)] := hl
  refine lv_aload_n hx hb dX12_isKey_0 rfl (lv_at hl 0 rfl) ?_
  refine va_get (D := (dC, dI)) (ci := 12) (v := .int (vi 18)) (C := RX12) (T := TX12) (N := 163) (fs := fM (vS a vi vj)) hx hb hts iwsRX12_isKey_in12 hown hK hP 0 rfl rfl 18 (by decide) (hts (.fieldLink RX12 494 "OptimaWorksModel" "word" "I") (by decide +kernel)) (fun _ h9 => h9) rfl dX12_isKey_1 ?_
  refine lv_iconst (v := 2) hx hb dX12_isKey_4 (by decide) ?_
  refine lv_icmp_ne (tgt := 20) hx hb dX12_isKey_5 (by decide) (fun c_5 => ?_) (fun c_5 => ?_)
  · have t_5 : ((vi 18)).toInt ≠ 2 := toI_ne c_5 rfl (by decide)
    refine lv_iconst (v := 0) hx hb dX12_isKey_20 (by decide) ?_
    refine W.widen (k := 0) (n := 0) (by decide +kernel) (by decide +kernel) ?_
    exact W.zret (v := 0) hx hb hr rfl (fun t9_ ht hW => ⟨⟨0, (), rfl, by (try dsimp only); exact Or.inr ⟨rfl, fun h9 => by have h8 := h9.1; omega⟩, by rw [ht]; exact hP, hD⟩, hS.F ht⟩) hS.2.2 dX12_isKey_21
  · have t_5 : ((vi 18)).toInt = 2 := toI_nne c_5 rfl (by decide)
    refine lv_aload_n hx hb dX12_isKey_8 rfl (lv_at hl 0 rfl) ?_
    refine va_get (D := (dC, dI)) (ci := 12) (v := .int (vi 20)) (C := RX12) (T := TX12) (N := 163) (fs := fM (vS a vi vj)) hx hb hts iwsRX12_isKey_in12 hown hK hP 0 rfl rfl 20 (by decide) (hts (.fieldLink RX12 491 "OptimaWorksModel" "sign0" "I") (by decide +kernel)) (fun _ h9 => h9) rfl dX12_isKey_9 ?_
    refine lv_iload_n hx hb dX12_isKey_12 rfl (lv_at hl 1 rfl) ?_
    refine lv_icmp_ne (tgt := 20) hx hb dX12_isKey_13 (by decide) (fun c_13 => ?_) (fun c_13 => ?_)
    · have t_13 : ((vi 20)).toInt ≠ (cv).toInt := toI_ne c_13 rfl rfl
      refine lv_iconst (v := 0) hx hb dX12_isKey_20 (by decide) ?_
      refine W.widen (k := 0) (n := 0) (by decide +kernel) (by decide +kernel) ?_
      exact W.zret (v := 0) hx hb hr rfl (fun t9_ ht hW => ⟨⟨0, (), rfl, by (try dsimp only); exact Or.inr ⟨rfl, fun h9 => c_13 h9.2⟩, by rw [ht]; exact hP, hD⟩, hS.F ht⟩) hS.2.2 dX12_isKey_21
    · have t_13 : ((vi 20)).toInt = (cv).toInt := toI_nne c_13 rfl rfl
      refine lv_iconst (v := 1) hx hb dX12_isKey_16 (by decide) ?_
      refine lv_goto (tgt := 21) hx hb dX12_isKey_17 (by decide) ?_
      refine W.widen (k := 0) (n := 0) (by decide +kernel) (by decide +kernel) ?_
      exact W.zret (v := 1) hx hb hr rfl (fun t9_ ht hW => ⟨⟨1, (), rfl, by (try dsimp only); exact Or.inl ⟨rfl, by omega, c_13⟩, by rw [ht]; exact hP, hD⟩, hS.F ht⟩) hS.2.2 dX12_isKey_21
theorem dX12_nought_0 : decode cX12_nought 0 = .ok (.iconst 0, 1) := dk_3 (by decide +kernel)
theorem dX12_nought_1 : decode cX12_nought 1 = .ok (.istore_n 2, 1) := dk_61 (by decide +kernel)
theorem dX12_nought_2 : decode cX12_nought 2 = .ok (.iload_n 2, 1) := dk_28 (by decide +kernel)
theorem dX12_nought_3 : decode cX12_nought 3 = .ok (.bipush 9, 2) := dk_16 (by decide +kernel)
theorem dX12_nought_5 : decode cX12_nought 5 = .ok (.if_icmp .ge 33, 3) := dk_162 (by decide +kernel)
theorem dX12_nought_8 : decode cX12_nought 8 = .ok (.aload_n 0, 1) := dk_42 (by decide +kernel)
theorem dX12_nought_9 : decode cX12_nought 9 = .ok (.getfield 170, 3) := dk_180 (by decide +kernel)
theorem dX12_nought_12 : decode cX12_nought 12 = .ok (.bipush 9, 2) := dk_16 (by decide +kernel)
theorem dX12_nought_14 : decode cX12_nought 14 = .ok (.iload_n 1, 1) := dk_27 (by decide +kernel)
theorem dX12_nought_15 : decode cX12_nought 15 = .ok (.imul, 1) := dk_104 (by decide +kernel)
theorem dX12_nought_16 : decode cX12_nought 16 = .ok (.iload_n 2, 1) := dk_28 (by decide +kernel)
theorem dX12_nought_17 : decode cX12_nought 17 = .ok (.iadd, 1) := dk_96 (by decide +kernel)
theorem dX12_nought_18 : decode cX12_nought 18 = .ok (.iconst 0, 1) := dk_3 (by decide +kernel)
theorem dX12_nought_19 : decode cX12_nought 19 = .ok (.iastore, 1) := dk_79 (by decide +kernel)
theorem dX12_nought_20 : decode cX12_nought 20 = .ok (.aload_n 0, 1) := dk_42 (by decide +kernel)
theorem dX12_nought_21 : decode cX12_nought 21 = .ok (.getfield 173, 3) := dk_180 (by decide +kernel)
theorem dX12_nought_24 : decode cX12_nought 24 = .ok (.bipush 9, 2) := dk_16 (by decide +kernel)
theorem dX12_nought_26 : decode cX12_nought 26 = .ok (.iload_n 1, 1) := dk_27 (by decide +kernel)
theorem dX12_nought_27 : decode cX12_nought 27 = .ok (.imul, 1) := dk_104 (by decide +kernel)
theorem dX12_nought_28 : decode cX12_nought 28 = .ok (.iload_n 2, 1) := dk_28 (by decide +kernel)
theorem dX12_nought_29 : decode cX12_nought 29 = .ok (.iadd, 1) := dk_96 (by decide +kernel)
theorem dX12_nought_30 : decode cX12_nought 30 = .ok (.iconst 1, 1) := dk_4 (by decide +kernel)
theorem dX12_nought_31 : decode cX12_nought 31 = .ok (.iastore, 1) := dk_79 (by decide +kernel)
theorem dX12_nought_32 : decode cX12_nought 32 = .ok (.iinc 2 1, 3) := dk_132 (by decide +kernel)
theorem dX12_nought_35 : decode cX12_nought 35 = .ok (.goto (-33), 3) := dk_167 (by decide +kernel)
theorem dX12_nought_38 : decode cX12_nought 38 = .ok (.return_, 1) := dk_177 (by decide +kernel)
def wsRX12_nought : List Cond := .code yX12_nought cX12_nought 3 none :: ([.fieldLink RX12 170 "OptimaWorksModel" "top" "[I", .fieldLink RX12 173 "OptimaWorksModel" "under" "[I"] ++ wsX120)
theorem iwsRX12_nought_in12 : ∀ w ∈ wsX120, w ∈ wsRX12_nought := fun _ h => List.mem_cons_of_mem _ (List.mem_append_right _ h)
theorem gdwsRX12_nought : wsRX12_nought.all goodWord = true := gdC rfl (gdA (by decide +kernel : ([.fieldLink RX12 170 "OptimaWorksModel" "top" "[I", .fieldLink RX12 173 "OptimaWorksModel" "under" "[I"] : List Cond).all goodWord = true) gdwsX120)
set_option maxHeartbeats 4000000 in
set_option maxRecDepth 100000 in
/-- nought(v) -/
theorem r_X12_nought (l : Launch) (dC : Nat → ClassId) (dI : Nat → Nat → Nat) (a : Nat → Nat) (k : Nat → ClassId) (h0 : Nat) (vi : Nat → Int32) (vj : Nat → Int64) (vF : Nat → Nat → Int32) (vG : Nat → Nat → Int64) (vn : Nat) (hvn : vn < 100) (sz : Nat) : Met l yX12_nought wsRX12_nought ({ frames := 0, cells := 0, slots := 0, locals := 0 }) (va_Pc [.ref h0, .int (nI vn)] (fun U => U.heap.size = sz ∧ va_P (dC, dI) vwCl (WR a k h0 vi vj vF vG) U.heap ∧ va_K (dC, dI) vwCl (tX12 k) U ∧ va_D (fun _ => True) (WR a k h0 vi vj vF vG))) (va_Qv (fun (u : (Nat → Int32) × (Nat → Int32)) => (∀ q, q < 9 → (u.1) (9 * vn + q) = 0) ∧ (∀ q, q < 9 → (u.2) (9 * vn + q) = 1) ∧ (∀ q, (q < 9 * vn ∨ 9 * vn + 9 ≤ q) → (u.1) q = vF 49 q) ∧ (∀ q, (q < 9 * vn ∨ 9 * vn + 9 ≤ q) → (u.2) q = vF 50 q)) (fun (u : (Nat → Int32) × (Nat → Int32)) t => va_P (dC, dI) vwCl (WR a k h0 vi vj (fT (fT vF 49 (u.1)) 50 (u.2)) vG) t.heap ∧ va_D (va_A (WR a k h0 vi vj vF vG) sz) (WR a k h0 vi vj (fT (fT vF 49 (u.1)) 50 (u.2)) vG)) (va_A (WR a k h0 vi vj vF vG) sz)) 0 0 (va_A (WR a k h0 vi vj vF vG) sz) := by
  refine Met.ofW (cc := cX12_nought) (maxL := 3) (ret := none) (by decide) rfl ?_
  intro p e s m args below meth c s₁ B hml hv
  obtain ⟨rfl, hsz, hP, hK, hD0⟩ := hv
  have hx := B.exec
  have hb := B.bytes
  have hr := B.returns
  have hts := atoms_spec (ws := wsRX12_nought) B.pre
  have hown : s.vm.findClass RX12 = some m.cls := findClass_of_methodNamed B.named
  have hlocks := B.notSynchronized
  subst hsz
  have hD := hD0.self (sz := s.heap.size)
  generalize hAe : va_A (WR a k h0 vi vj vF vG) s.heap.size = A at hD ⊢
  have hA : ∀ q : Nat, s.heap.size ≤ q → A q := fun q h => by rw [← hAe]; exact Or.inr h
  have hS : va_S A s.heap s.heap [] := va_S.rf
  have hl := lv_entry ([.ref h0, .int (nI vn)]) (n := 3) (Nat.le_of_ble_eq_true rfl)
  rw [lg_entry_eq]
  generalize (lg_sl ([.ref h0, .int (nI vn)]) ++ List.replicate (3 - (lg_sl ([.ref h0, .int (nI vn)])).length) Slot.unset).toArray = ls at hl ⊢
  have hl : lv_has ls 3 [(0, .ref h0), (1, .int (nI vn))] := hl
  refine lv_iconst (v := 0) hx hb dX12_nought_0 (by decide) ?_
  refine lv_istore_n hx hb dX12_nought_1 rfl hl (by decide) rfl (fun ls (hl : lv_has ls _ ([(2, .int 0), (0, .ref h0), (1, .int (nI vn))])) => ?_)
  have e9 : fT (fT vF 49 (vF 49)) 50 (vF 50) = vF := by funext q9; by_cases h9_49 : q9 = 49; (subst h9_49; exact ((fT_ne _ _ (Nat.ne_of_beq_eq_false rfl)).trans (fT_eq _ _ _)).trans (Eq.trans (by first | rfl | assumption | (symm; assumption) | (subst_vars; rfl)) (Eq.refl _).symm)); by_cases h9_50 : q9 = 50; (subst h9_50; exact (fT_eq _ _ _).trans (Eq.trans (by first | rfl | assumption | (symm; assumption) | (subst_vars; rfl)) (Eq.refl _).symm)); exact ((fT_ne _ _ h9_50).trans (fT_ne _ _ h9_49)).trans (Eq.refl _).symm
  have hP : va_P (dC, dI) vwCl (WR a k h0 vi vj (fT (fT vF 49 (vF 49)) 50 (vF 50)) vG) s.heap := by rw [e9]; exact hP
  have hD : va_D A (WR a k h0 vi vj (fT (fT vF 49 (vF 49)) 50 (vF 50)) vG) := by rw [e9]; exact hD
  clear e9
  have hl : lv_has _ _ ([(0, .ref h0), (1, .int (nI vn)), (2, .int (nI 0))]) := lv_sub hl [1, 2, 0] rfl
  refine (fun (loop : ∀ (n9 : Nat) (k5 : Nat) (f49 : Nat → Int32) (f50 : Nat → Int32) (H : Heap) (locs : List Loc) (ls : Array Slot), (k5 ≤ 9) → (∀ q, q < k5 → f49 (9 * vn + q) = 0) → (∀ q, q < k5 → f50 (9 * vn + q) = 1) → (∀ q, (q < 9 * vn ∨ 9 * vn + 9 ≤ q) → f49 q = vF 49 q) → (∀ q, (q < 9 * vn ∨ 9 * vn + 9 ≤ q) → f50 q = vF 50 q) →  (9 < k5 + n9) → va_P (dC, dI) vwCl (WR a k h0 vi vj (fT (fT vF 49 f49) 50 f50) vG) H → va_D A (WR a k h0 vi vj (fT (fT vF 49 f49) 50 f50) vG) → va_S A s.heap H locs → lv_has ls 3 [(0, .ref h0), (1, .int (nI vn)), (2, .int (nI k5))] → W p l e _ s m _ below meth c H locs 0 0 _ (F0 m 2 ls [])) => loop (10) 0 (vF 49) (vF 50) _ _ _ (by omega) (fun q hq => absurd hq (by omega)) (fun q hq => absurd hq (by omega)) (fun q _ => rfl) (fun q _ => rfl) (by omega) hP hD hS hl) ?_
  intro n9
  induction n9 with
  | zero => intro k5 f49 f50 H locs ls hk5 hz ho ha hb2 hf9; exact False.elim (by omega)
  | succ n9 ih2 =>
    intro k5 f49 f50 H locs ls hk5 hz ho ha hb2 hf2 hP hD hS hl
    refine lv_iload_n hx hb dX12_nought_2 rfl (lv_at hl 2 rfl) ?_
    refine lv_bipush (v := 9) hx hb dX12_nought_3 (by decide) ?_
    refine lv_icmp_ge (tgt := 38) hx hb dX12_nought_5 (by decide) (fun c_5 => ?_) (fun c_5 => ?_)
    · have t_5 : ((k5 : Nat) : Int) ≥ 9 := toI_ge c_5 (nI_toInt (by omega)) (by decide)
      refine W.widen (k := 0) (n := 0) (by decide +kernel) (by decide +kernel) ?_
      exact W.vret hx hb hr (fun t9_ ht hW => ⟨⟨(f49, f50), rfl, by (try dsimp only); exact ⟨fun q hq => hz q (by omega), fun q hq => ho q (by omega), ha, hb2⟩, by rw [ht]; exact hP, hD⟩, hS.F ht⟩) hS.2.2 dX12_nought_38
    · have t_5 : ¬ ((k5 : Nat) : Int) ≥ 9 := toI_nge c_5 (nI_toInt (by omega)) (by decide)
      refine lv_aload_n hx hb dX12_nought_8 rfl (lv_at hl 0 rfl) ?_
      refine va_get (D := (dC, dI)) (ci := 12) (v := .ref (a 49)) (C := RX12) (T := TX12) (N := 163) (fs := fM (vS a vi vj)) hx hb hts iwsRX12_nought_in12 hown hK hP 0 rfl rfl 78 (by decide) (hts (.fieldLink RX12 170 "OptimaWorksModel" "top" "[I") (by decide +kernel)) (fun _ h9 => h9) rfl dX12_nought_9 ?_
      refine lv_bipush (v := 9) hx hb dX12_nought_12 (by decide) ?_
      refine lv_iload_n hx hb dX12_nought_14 rfl (lv_at hl 1 rfl) ?_
      refine lv_imul hx hb dX12_nought_15 ?_
      refine lv_topi (fun y1 hy1 => ?_)
      obtain rfl : (nI (9 * vn)) = y1 := (hy1.trans (pk_mul 9 vn)).symm
      refine lv_iload_n hx hb dX12_nought_16 rfl (lv_at hl 2 rfl) ?_
      refine lv_iadd hx hb dX12_nought_17 ?_
      refine lv_topi (fun y2 hy2 => ?_)
      obtain rfl : (nI ((9 * vn) + k5)) = y2 := (hy2.trans (nI_add (9 * vn) k5)).symm
      refine lv_iconst (v := 0) hx hb dX12_nought_18 (by decide) ?_
      refine va_iast (cA := k 49) (n := 900) (f := f49) hx hb hK hP hD hS 50 49 (WR_get 49 (by decide)) (TR_get 49 (by decide)) (vp_in_nI (show ((9 * vn) + k5) < 900 by omega) (by omega)) dX12_nought_19 (fun H locs hP hD hS => ?_)
      have e9 : fT (fT vF 49 (upd f49 ((nI ((9 * vn) + k5))).toNatClampNeg 0)) 50 f50 = fT (fT (fT vF 49 f49) 50 f50) 49 (upd f49 ((nI ((9 * vn) + k5))).toNatClampNeg 0) := ((fT_sw _ _ _ (Nat.ne_of_beq_eq_false rfl)).trans (congrArg (fun g9 => fT g9 50 f50) (fT_sm _ _ _ _))).symm
      have hP : va_P (dC, dI) vwCl (WR a k h0 vi vj (fT (fT vF 49 (upd f49 ((nI ((9 * vn) + k5))).toNatClampNeg 0)) 50 f50) vG) H := by rw [e9, ← WR_F 49 (by decide) _ rfl]; exact hP
      have hD : va_D A (WR a k h0 vi vj (fT (fT vF 49 (upd f49 ((nI ((9 * vn) + k5))).toNatClampNeg 0)) 50 f50) vG) := by rw [e9, ← WR_F 49 (by decide) _ rfl]; exact hD
      clear e9
      refine lv_aload_n hx hb dX12_nought_20 rfl (lv_at hl 0 rfl) ?_
      refine va_get (D := (dC, dI)) (ci := 12) (v := .ref (a 50)) (C := RX12) (T := TX12) (N := 163) (fs := fM (vS a vi vj)) hx hb hts iwsRX12_nought_in12 hown hK hP 0 rfl rfl 79 (by decide) (hts (.fieldLink RX12 173 "OptimaWorksModel" "under" "[I") (by decide +kernel)) (fun _ h9 => h9) rfl dX12_nought_21 ?_
      refine lv_bipush (v := 9) hx hb dX12_nought_24 (by decide) ?_
      refine lv_iload_n hx hb dX12_nought_26 rfl (lv_at hl 1 rfl) ?_
      refine lv_imul hx hb dX12_nought_27 ?_
      refine lv_topi (fun y3 hy3 => ?_)
      obtain rfl : (nI (9 * vn)) = y3 := (hy3.trans (pk_mul 9 vn)).symm
      refine lv_iload_n hx hb dX12_nought_28 rfl (lv_at hl 2 rfl) ?_
      refine lv_iadd hx hb dX12_nought_29 ?_
      refine lv_topi (fun y4 hy4 => ?_)
      obtain rfl : (nI ((9 * vn) + k5)) = y4 := (hy4.trans (nI_add (9 * vn) k5)).symm
      refine lv_iconst (v := 1) hx hb dX12_nought_30 (by decide) ?_
      refine va_iast (cA := k 50) (n := 900) (f := f50) hx hb hK hP hD hS 51 50 (WR_get 50 (by decide)) (TR_get 50 (by decide)) (vp_in_nI (show ((9 * vn) + k5) < 900 by omega) (by omega)) dX12_nought_31 (fun H locs hP hD hS => ?_)
      have e9 : fT (fT vF 49 (upd f49 ((nI ((9 * vn) + k5))).toNatClampNeg 0)) 50 (upd f50 ((nI ((9 * vn) + k5))).toNatClampNeg 1) = fT (fT (fT vF 49 (upd f49 ((nI ((9 * vn) + k5))).toNatClampNeg 0)) 50 f50) 50 (upd f50 ((nI ((9 * vn) + k5))).toNatClampNeg 1) := (fT_sm _ _ _ _).symm
      have hP : va_P (dC, dI) vwCl (WR a k h0 vi vj (fT (fT vF 49 (upd f49 ((nI ((9 * vn) + k5))).toNatClampNeg 0)) 50 (upd f50 ((nI ((9 * vn) + k5))).toNatClampNeg 1)) vG) H := by rw [e9, ← WR_F 50 (by decide) _ rfl]; exact hP
      have hD : va_D A (WR a k h0 vi vj (fT (fT vF 49 (upd f49 ((nI ((9 * vn) + k5))).toNatClampNeg 0)) 50 (upd f50 ((nI ((9 * vn) + k5))).toNatClampNeg 1)) vG) := by rw [e9, ← WR_F 50 (by decide) _ rfl]; exact hD
      clear e9
      refine lv_iinc (v := (nI (k5 + 1))) hx hb dX12_nought_32 hl (k := 2) rfl (nI_add k5 1) (by decide) rfl (fun ls (hl : lv_has ls _ ([(2, .int (nI (k5 + 1))), (0, .ref h0), (1, .int (nI vn))])) => ?_)
      refine lv_goto (tgt := 2) hx hb dX12_nought_35 (by decide) ?_
      have hl : lv_has _ _ ([(0, .ref h0), (1, .int (nI vn)), (2, .int (nI (k5 + 1)))]) := lv_sub hl [1, 2, 0] rfl
      exact ih2 (k5 + 1) (upd f49 ((nI ((9 * vn) + k5))).toNatClampNeg 0) (upd f50 ((nI ((9 * vn) + k5))).toNatClampNeg 1) _ _ _ (by omega) (fun q hq => by rw [upd_at (by omega)]; by_cases e9 : 9 * vn + q = 9 * vn + k5; (rw [if_pos e9]); (rw [if_neg e9]; exact hz q (by omega))) (fun q hq => by rw [upd_at (by omega)]; by_cases e9 : 9 * vn + q = 9 * vn + k5; (rw [if_pos e9]); (rw [if_neg e9]; exact ho q (by omega))) (fun q hq => by rw [upd_at (by omega), if_neg (by omega)]; exact ha q hq) (fun q hq => by rw [upd_at (by omega), if_neg (by omega)]; exact hb2 q hq) (by omega) hP hD hS hl
theorem dX12_hasVariables_0 : decode cX12_hasVariables 0 = .ok (.iconst 0, 1) := dk_3 (by decide +kernel)
theorem dX12_hasVariables_1 : decode cX12_hasVariables 1 = .ok (.istore_n 2, 1) := dk_61 (by decide +kernel)
theorem dX12_hasVariables_2 : decode cX12_hasVariables 2 = .ok (.iconst 1, 1) := dk_4 (by decide +kernel)
theorem dX12_hasVariables_3 : decode cX12_hasVariables 3 = .ok (.istore_n 3, 1) := dk_62 (by decide +kernel)
theorem dX12_hasVariables_4 : decode cX12_hasVariables 4 = .ok (.iload_n 3, 1) := dk_29 (by decide +kernel)
theorem dX12_hasVariables_5 : decode cX12_hasVariables 5 = .ok (.bipush 9, 2) := dk_16 (by decide +kernel)
theorem dX12_hasVariables_7 : decode cX12_hasVariables 7 = .ok (.if_icmp .ge 33, 3) := dk_162 (by decide +kernel)
theorem dX12_hasVariables_10 : decode cX12_hasVariables 10 = .ok (.iload_n 2, 1) := dk_28 (by decide +kernel)
theorem dX12_hasVariables_11 : decode cX12_hasVariables 11 = .ok (.ifCond .ne 17, 3) := dk_154 (by decide +kernel)
theorem dX12_hasVariables_14 : decode cX12_hasVariables 14 = .ok (.aload_n 0, 1) := dk_42 (by decide +kernel)
theorem dX12_hasVariables_15 : decode cX12_hasVariables 15 = .ok (.getfield 170, 3) := dk_180 (by decide +kernel)
theorem dX12_hasVariables_18 : decode cX12_hasVariables 18 = .ok (.bipush 9, 2) := dk_16 (by decide +kernel)
theorem dX12_hasVariables_20 : decode cX12_hasVariables 20 = .ok (.iload_n 1, 1) := dk_27 (by decide +kernel)
theorem dX12_hasVariables_21 : decode cX12_hasVariables 21 = .ok (.imul, 1) := dk_104 (by decide +kernel)
theorem dX12_hasVariables_22 : decode cX12_hasVariables 22 = .ok (.iload_n 3, 1) := dk_29 (by decide +kernel)
theorem dX12_hasVariables_23 : decode cX12_hasVariables 23 = .ok (.iadd, 1) := dk_96 (by decide +kernel)
theorem dX12_hasVariables_24 : decode cX12_hasVariables 24 = .ok (.iaload, 1) := dk_46 (by decide +kernel)
theorem dX12_hasVariables_25 : decode cX12_hasVariables 25 = .ok (.ifCond .eq 7, 3) := dk_153 (by decide +kernel)
theorem dX12_hasVariables_28 : decode cX12_hasVariables 28 = .ok (.iconst 1, 1) := dk_4 (by decide +kernel)
theorem dX12_hasVariables_29 : decode cX12_hasVariables 29 = .ok (.goto 4, 3) := dk_167 (by decide +kernel)
theorem dX12_hasVariables_32 : decode cX12_hasVariables 32 = .ok (.iconst 0, 1) := dk_3 (by decide +kernel)
theorem dX12_hasVariables_33 : decode cX12_hasVariables 33 = .ok (.istore_n 2, 1) := dk_61 (by decide +kernel)
theorem dX12_hasVariables_34 : decode cX12_hasVariables 34 = .ok (.iinc 3 1, 3) := dk_132 (by decide +kernel)
theorem dX12_hasVariables_37 : decode cX12_hasVariables 37 = .ok (.goto (-33), 3) := dk_167 (by decide +kernel)
theorem dX12_hasVariables_40 : decode cX12_hasVariables 40 = .ok (.iload_n 2, 1) := dk_28 (by decide +kernel)
theorem dX12_hasVariables_41 : decode cX12_hasVariables 41 = .ok (.ireturn, 1) := dk_172 (by decide +kernel)
def wsRX12_hasVariables : List Cond := .code yX12_hasVariables cX12_hasVariables 4 (some .boolean) :: ([.fieldLink RX12 170 "OptimaWorksModel" "top" "[I"] ++ wsX120)
theorem iwsRX12_hasVariables_in12 : ∀ w ∈ wsX120, w ∈ wsRX12_hasVariables := fun _ h => List.mem_cons_of_mem _ (List.mem_append_right _ h)
theorem gdwsRX12_hasVariables : wsRX12_hasVariables.all goodWord = true := gdC rfl (gdA (by decide +kernel : ([.fieldLink RX12 170 "OptimaWorksModel" "top" "[I"] : List Cond).all goodWord = true) gdwsX120)
set_option maxHeartbeats 4000000 in
set_option maxRecDepth 100000 in
/-- hasVariables(v) -/
theorem r_X12_hasVariables (l : Launch) (dC : Nat → ClassId) (dI : Nat → Nat → Nat) (a : Nat → Nat) (k : Nat → ClassId) (h0 : Nat) (vi : Nat → Int32) (vj : Nat → Int64) (vF : Nat → Nat → Int32) (vG : Nat → Nat → Int64) (vn : Nat) (hvn : vn < 100) (sz : Nat) : Met l yX12_hasVariables wsRX12_hasVariables ({ frames := 0, cells := 0, slots := 0, locals := 0 }) (va_Pc [.ref h0, .int (nI vn)] (fun U => U.heap.size = sz ∧ va_P (dC, dI) vwCl (WR a k h0 vi vj vF vG) U.heap ∧ va_K (dC, dI) vwCl (tX12 k) U ∧ va_D (fun _ => True) (WR a k h0 vi vj vF vG))) (va_Qi (fun (r : Int32) (u : Unit) => (((r) = 0 ∧ ∀ q, 1 ≤ q → q < 9 → vF 49 (9 * vn + q) = 0) ∨ ((r) = 1 ∧ ∃ q, 1 ≤ q ∧ q < 9 ∧ vF 49 (9 * vn + q) ≠ 0))) (fun (u : Unit) t => va_P (dC, dI) vwCl (WR a k h0 vi vj vF vG) t.heap ∧ va_D (va_A (WR a k h0 vi vj vF vG) sz) (WR a k h0 vi vj vF vG)) (va_A (WR a k h0 vi vj vF vG) sz)) 0 0 (va_A (WR a k h0 vi vj vF vG) sz) := by
  refine Met.ofW (cc := cX12_hasVariables) (maxL := 4) (ret := (some .boolean)) (by decide) rfl ?_
  intro p e s m args below meth c s₁ B hml hv
  obtain ⟨rfl, hsz, hP, hK, hD0⟩ := hv
  have hx := B.exec
  have hb := B.bytes
  have hr := B.returns
  have hts := atoms_spec (ws := wsRX12_hasVariables) B.pre
  have hown : s.vm.findClass RX12 = some m.cls := findClass_of_methodNamed B.named
  have hlocks := B.notSynchronized
  subst hsz
  have hD := hD0.self (sz := s.heap.size)
  generalize hAe : va_A (WR a k h0 vi vj vF vG) s.heap.size = A at hD ⊢
  have hA : ∀ q : Nat, s.heap.size ≤ q → A q := fun q h => by rw [← hAe]; exact Or.inr h
  have hS : va_S A s.heap s.heap [] := va_S.rf
  have hl := lv_entry ([.ref h0, .int (nI vn)]) (n := 4) (Nat.le_of_ble_eq_true rfl)
  rw [lg_entry_eq]
  generalize (lg_sl ([.ref h0, .int (nI vn)]) ++ List.replicate (4 - (lg_sl ([.ref h0, .int (nI vn)])).length) Slot.unset).toArray = ls at hl ⊢
  have hl : lv_has ls 4 [(0, .ref h0), (1, .int (nI vn))] := hl
  refine lv_iconst (v := 0) hx hb dX12_hasVariables_0 (by decide) ?_
  refine lv_istore_n hx hb dX12_hasVariables_1 rfl hl (by decide) rfl (fun ls (hl : lv_has ls _ ([(2, .int 0), (0, .ref h0), (1, .int (nI vn))])) => ?_)
  refine lv_iconst (v := 1) hx hb dX12_hasVariables_2 (by decide) ?_
  refine lv_istore_n hx hb dX12_hasVariables_3 rfl hl (by decide) rfl (fun ls (hl : lv_has ls _ ([(3, .int 1), (2, .int 0), (0, .ref h0), (1, .int (nI vn))])) => ?_)
  have hl : lv_has _ _ ([(0, .ref h0), (1, .int (nI vn)), (2, .int 0), (3, .int (nI 1))]) := lv_sub hl [2, 3, 1, 0] rfl
  refine (fun (loop : ∀ (n9 : Nat) (k5 : Nat) (zq : Int32) (H : Heap) (locs : List Loc) (ls : Array Slot), (1 ≤ k5 ∧ k5 ≤ 9) → ((zq = 0 ∧ ∀ q, 1 ≤ q → q < k5 → vF 49 (9 * vn + q) = 0) ∨ (zq = 1 ∧ ∃ q, 1 ≤ q ∧ q < k5 ∧ vF 49 (9 * vn + q) ≠ 0)) →  (9 < k5 + n9) → va_P (dC, dI) vwCl (WR a k h0 vi vj vF vG) H → va_D A (WR a k h0 vi vj vF vG) → va_S A s.heap H locs → lv_has ls 4 [(0, .ref h0), (1, .int (nI vn)), (2, .int zq), (3, .int (nI k5))] → W p l e _ s m _ below meth c H locs 0 0 _ (F0 m 4 ls [])) => loop (10) 1 0 _ _ _ (by omega) (Or.inl ⟨rfl, fun q h1 h2 => absurd h1 (by omega)⟩) (by omega) hP hD hS hl) ?_
  intro n9
  induction n9 with
  | zero => intro k5 zq H locs ls hk5 hv1 hf9; exact False.elim (by omega)
  | succ n9 ih4 =>
    intro k5 zq H locs ls hk5 hv1 hf4 hP hD hS hl
    refine lv_iload_n hx hb dX12_hasVariables_4 rfl (lv_at hl 3 rfl) ?_
    refine lv_bipush (v := 9) hx hb dX12_hasVariables_5 (by decide) ?_
    refine lv_icmp_ge (tgt := 40) hx hb dX12_hasVariables_7 (by decide) (fun c_7 => ?_) (fun c_7 => ?_)
    · have t_7 : ((k5 : Nat) : Int) ≥ 9 := toI_ge c_7 (nI_toInt (by omega)) (by decide)
      refine lv_iload_n hx hb dX12_hasVariables_40 rfl (lv_at hl 2 rfl) ?_
      refine W.widen (k := 0) (n := 0) (by decide +kernel) (by decide +kernel) ?_
      exact W.zret (v := zq) hx hb hr (by rcases hv1 with h9 | h9; (rw [h9.1]; rfl); (rw [h9.1]; rfl)) (fun t9_ ht hW => ⟨⟨zq, (), rfl, by (try dsimp only); (have ek : k5 = 9 := by omega); rw [ek] at hv1; rcases hv1 with h9 | h9; (exact Or.inl ⟨h9.1, fun q h1 h2 => h9.2 q h1 (by omega)⟩); (exact Or.inr h9), by rw [ht]; exact hP, hD⟩, hS.F ht⟩) hS.2.2 dX12_hasVariables_41
    · have t_7 : ¬ ((k5 : Nat) : Int) ≥ 9 := toI_nge c_7 (nI_toInt (by omega)) (by decide)
      refine lv_iload_n hx hb dX12_hasVariables_10 rfl (lv_at hl 2 rfl) ?_
      refine lv_if_ne (tgt := 28) hx hb dX12_hasVariables_11 (by decide) (fun c_11 => ?_) (fun c_11 => ?_)
      · have t_11 : (zq).toInt ≠ 0 := toI_ne c_11 rfl (by decide)
        refine lv_iconst (v := 1) hx hb dX12_hasVariables_28 (by decide) ?_
        refine lv_goto (tgt := 33) hx hb dX12_hasVariables_29 (by decide) ?_
        refine lv_istore_n hx hb dX12_hasVariables_33 rfl hl (by decide) rfl (fun ls (hl : lv_has ls _ ([(2, .int 1), (0, .ref h0), (1, .int (nI vn)), (3, .int (nI k5))])) => ?_)
        refine lv_iinc (v := (nI (k5 + 1))) hx hb dX12_hasVariables_34 hl (k := 3) rfl (nI_add k5 1) (by decide) rfl (fun ls (hl : lv_has ls _ ([(3, .int (nI (k5 + 1))), (2, .int 1), (0, .ref h0), (1, .int (nI vn))])) => ?_)
        refine lv_goto (tgt := 4) hx hb dX12_hasVariables_37 (by decide) ?_
        have hl : lv_has _ _ ([(0, .ref h0), (1, .int (nI vn)), (2, .int 1), (3, .int (nI (k5 + 1)))]) := lv_sub hl [2, 3, 1, 0] rfl
        exact ih4 (k5 + 1) 1 _ _ _ (by omega) (by obtain ⟨h9, q9, h8, h7, h6⟩ := hv1.resolve_left (fun h => c_11 h.1); exact Or.inr ⟨rfl, q9, h8, by omega, h6⟩) (by omega) hP hD hS hl
      · have t_11 : (zq).toInt = 0 := toI_nne c_11 rfl (by decide)
        refine lv_aload_n hx hb dX12_hasVariables_14 rfl (lv_at hl 0 rfl) ?_
        refine va_get (D := (dC, dI)) (ci := 12) (v := .ref (a 49)) (C := RX12) (T := TX12) (N := 163) (fs := fM (vS a vi vj)) hx hb hts iwsRX12_hasVariables_in12 hown hK hP 0 rfl rfl 78 (by decide) (hts (.fieldLink RX12 170 "OptimaWorksModel" "top" "[I") (by decide +kernel)) (fun _ h9 => h9) rfl dX12_hasVariables_15 ?_
        refine lv_bipush (v := 9) hx hb dX12_hasVariables_18 (by decide) ?_
        refine lv_iload_n hx hb dX12_hasVariables_20 rfl (lv_at hl 1 rfl) ?_
        refine lv_imul hx hb dX12_hasVariables_21 ?_
        refine lv_topi (fun y1 hy1 => ?_)
        obtain rfl : (nI (9 * vn)) = y1 := (hy1.trans (pk_mul 9 vn)).symm
        refine lv_iload_n hx hb dX12_hasVariables_22 rfl (lv_at hl 3 rfl) ?_
        refine lv_iadd hx hb dX12_hasVariables_23 ?_
        refine lv_topi (fun y2 hy2 => ?_)
        obtain rfl : (nI ((9 * vn) + k5)) = y2 := (hy2.trans (nI_add (9 * vn) k5)).symm
        refine va_iald (cA := k 49) (n := 900) (f := (vF 49)) hx hb hK hP 50 49 (WR_get 49 (by decide)) (TR_get 49 (by decide)) (vp_in_nI (show ((9 * vn) + k5) < 900 by omega) (by omega)) dX12_hasVariables_24 ?_
        refine lv_topi (fun y3 hy3 => ?_)
        obtain rfl : ((vF 49) ((9 * vn) + k5)) = y3 := (hy3.trans (by rw [nI_clamp (by omega)])).symm
        refine lv_if_eq (tgt := 32) hx hb dX12_hasVariables_25 (by decide) (fun c_25 => ?_) (fun c_25 => ?_)
        · have t_25 : (((vF 49) ((9 * vn) + k5))).toInt = 0 := toI_eq c_25 rfl (by decide)
          refine lv_iconst (v := 0) hx hb dX12_hasVariables_32 (by decide) ?_
          refine lv_istore_n hx hb dX12_hasVariables_33 rfl hl (by decide) rfl (fun ls (hl : lv_has ls _ ([(2, .int 0), (0, .ref h0), (1, .int (nI vn)), (3, .int (nI k5))])) => ?_)
          refine lv_iinc (v := (nI (k5 + 1))) hx hb dX12_hasVariables_34 hl (k := 3) rfl (nI_add k5 1) (by decide) rfl (fun ls (hl : lv_has ls _ ([(3, .int (nI (k5 + 1))), (2, .int 0), (0, .ref h0), (1, .int (nI vn))])) => ?_)
          refine lv_goto (tgt := 4) hx hb dX12_hasVariables_37 (by decide) ?_
          have hl : lv_has _ _ ([(0, .ref h0), (1, .int (nI vn)), (2, .int 0), (3, .int (nI (k5 + 1)))]) := lv_sub hl [2, 3, 1, 0] rfl
          exact ih4 (k5 + 1) 0 _ _ _ (by omega) (Or.inl ⟨rfl, fun q h1 h2 => by by_cases e9 : q = k5; (rw [e9]; exact c_25); (exact (hv1.resolve_right (fun h => by (have h9 := h.1); rw [h9] at c_11; exact absurd c_11 (by decide))).2 q h1 (by omega))⟩) (by omega) hP hD hS hl
        · have t_25 : ¬ (((vF 49) ((9 * vn) + k5))).toInt = 0 := toI_neq c_25 rfl (by decide)
          refine lv_iconst (v := 1) hx hb dX12_hasVariables_28 (by decide) ?_
          refine lv_goto (tgt := 33) hx hb dX12_hasVariables_29 (by decide) ?_
          refine lv_istore_n hx hb dX12_hasVariables_33 rfl hl (by decide) rfl (fun ls (hl : lv_has ls _ ([(2, .int 1), (0, .ref h0), (1, .int (nI vn)), (3, .int (nI k5))])) => ?_)
          refine lv_iinc (v := (nI (k5 + 1))) hx hb dX12_hasVariables_34 hl (k := 3) rfl (nI_add k5 1) (by decide) rfl (fun ls (hl : lv_has ls _ ([(3, .int (nI (k5 + 1))), (2, .int 1), (0, .ref h0), (1, .int (nI vn))])) => ?_)
          refine lv_goto (tgt := 4) hx hb dX12_hasVariables_37 (by decide) ?_
          have hl : lv_has _ _ ([(0, .ref h0), (1, .int (nI vn)), (2, .int 1), (3, .int (nI (k5 + 1)))]) := lv_sub hl [2, 3, 1, 0] rfl
          exact ih4 (k5 + 1) 1 _ _ _ (by omega) (Or.inr ⟨rfl, k5, by omega, by omega, c_25⟩) (by omega) hP hD hS hl

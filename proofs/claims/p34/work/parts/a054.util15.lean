theorem SxF.start {C R T : Nat} {a : Nat → Nat → Int} {rl cl : Nat → Nat} (hr : ∀ i, i < T → rl i = C + 1 + i) (hc : ∀ j, j ≤ C → cl j = j) : SxF C R T a a 1 rl cl := by
  have hB : (List.range T).map rl = List.range' (C + 1) T := by
    rw [List.range'_eq_map_range]; exact List.map_congr_left (fun i hi => hr i (List.mem_range.mp hi))
  refine ⟨⟨1, ?_⟩, by decide, ⟨fun i k hi hk h => ?_, fun j k hj hk h => ?_, fun i j hi hj h => ?_⟩, fun x hx i hi => ?_, fun i _ hi => hr i hi, hc C (Nat.le_refl _), fun i hi => ?_, fun j hj => ?_⟩
  · rw [hB]
    obtain ⟨h1, h2, h3, h4⟩ := Rep.init T (C + 1) a
    exact ⟨h1, h2, h3, fun i hi j hj => by rw [hc j (by omega)]; exact h4 i hi j hj⟩
  · have h : rl i = rl k := h
    rw [hr i hi, hr k hk] at h; omega
  · have h : cl j = cl k := h
    rw [hc j (by omega), hc k (by omega)] at h; exact h
  · have h : rl i = cl j := h
    rw [hr i hi, hc j (by omega)] at h; omega
  · have h1 := hx i hi
    have h1 : (1 : Int) * x (rl i) + iS (C + 1) (fun j => a i j * x (cl j)) = 0 := h1
    rw [hr i hi] at h1
    show (1 : Int) * x (C + 1 + i) + iS (C + 1) (fun j => a i j * x j) = 0
    rw [iS_congr (g := fun j => a i j * x (cl j)) (fun j hj => by rw [hc j (by omega)])]; exact h1
  · rw [hr i hi]; omega
  · rw [hc j hj]; omega
theorem Sx.start {C R T : Nat} {a : Nat → Nat → Int} {f4 f5 : Nat → Int32} (hRT : R ≤ T) (hC : C ≤ 45) (hT : T < 60) (h4 : ∀ j, j < C → f4 j = nI j) (h5 : ∀ i, i < R → f5 i = nI (C + i)) : Sx C R T a a 1 f4 f5 := by
  refine ⟨SxF.start (fun i hi => ?_) (fun j hj => ?_), fun j hj => ⟨j, by omega, h4 j hj⟩, fun i hi => ⟨C + i, by omega, h5 i hi⟩⟩
  · unfold rlF; split
    · rename_i h; rw [h5 i h, nI_clamp (by omega)]; unfold gl; rw [if_neg (by omega)]; omega
    · rfl
  · unfold clF; split
    · rename_i h; rw [h4 j h, nI_clamp (by omega)]; unfold gl; rw [if_pos h]
    · omega
/-- the first exchange, for the help: no number is below nought behind it -/
theorem first_ex {C R lb : Nat} {a : Nat → Nat → Int} (hC : 0 < C) (hlb : lb < R) (ha : ∀ i, i < R → a i (C - 1) = -1) (hn : a lb C < 0) (hl : ∀ i, i < R → a lb C ≤ a i C) : ∀ i, i < R → 0 ≤ nvT lb (C - 1) (sgI (a lb (C - 1))) a 1 i C := by
  intro i hi
  have hg : sgI (a lb (C - 1)) = -1 := sgI_n (by rw [ha lb hlb]; decide)
  unfold nvT
  rw [hg]
  by_cases e : i = lb
  · rw [if_pos e, if_neg (by omega)]; omega
  · rw [if_neg e, if_neg (by omega), ha lb hlb, ha i hi, Int.tdiv_one]
    have := hl i hi; omega
theorem Sx.help0 {C R T : Nat} {a t : Nat → Nat → Int} {D : Int} {f4 f5 : Nat → Int32} (h : Sx C R T a t D f4 f5) (hC : 0 < C) (hC45 : C ≤ 45) (hRT : R < T) (ha : ∀ j, j ≤ C → a R j = if j = C - 1 then 1 else 0) {i : Nat} (hi : i < R) (hf : f5 i = nI (C - 1)) (hG : ∀ i, i < R → 0 ≤ t i C) (hR : 0 ≤ t R C) : t i C = 0 ∧ t R C = 0 := by
  have hl : rlF C R f5 i = C - 1 := by unfold rlF; rw [if_pos hi, hf, nI_clamp (by omega)]; unfold gl; rw [if_pos (by omega)]
  have h1 := help_row h.1 hC hRT ha (by omega) hl
  have h2 := hG i hi
  omega
/-- an exchange in a row whose number is nought leaves the signs of the numbers -/
theorem Sx.flat {C R T : Nat} {a t : Nat → Nat → Int} {D : Int} {f4 f5 : Nat → Int32} (h : Sx C R T a t D f4 f5) {r c : Nat} (hr : r < R) (hRT : R ≤ T) (hc : c < C) (hp : t r c ≠ 0) (h0 : t r C = 0) {i : Nat} (hi : i < T) (hG : 0 ≤ t i C) : 0 ≤ nvT r c (sgI (t r c)) t D i C := by
  have hD := h.1.2.1
  by_cases e : i = r
  · subst e; rw [nv_row _ _ _ _ _ (by omega), h0, Int.mul_zero]; exact Int.le_refl _
  · obtain ⟨q, hq⟩ := h.1.exact (show r < T by omega) (show c ≤ C by omega) hi (Nat.le_refl C) e
    have e1 : D * nvT r c (sgI (t r c)) t D i C = sgI (t r c) * (t i C * t r c - t i c * t r C) := by
      unfold nvT; rw [if_neg e, if_neg (by omega)]; exact nv_exact (by omega) hq _
    rw [h0, Int.mul_zero, Int.sub_zero, Int.mul_left_comm] at e1
    have h2 : 0 ≤ t i C * (sgI (t r c) * t r c) := Int.mul_nonneg hG (Int.le_of_lt (sgI_pos hp))
    rw [← e1] at h2
    exact Int.nonneg_of_mul_nonneg_right h2 hD

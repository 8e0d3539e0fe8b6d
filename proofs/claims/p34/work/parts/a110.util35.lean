theorem subN {x : Int32} {n : Nat} (h : (n : Int) ≤ x.toInt) : (x - nI n).toInt = x.toInt - (n : Int) := by
  have h1 := Int32.toInt_lt x
  rw [Int32.toInt_sub, nI_toInt (by omega)]
  exact Int.bmod_eq_of_le (by omega) (by omega)
theorem bneg {a : Nat} (ha : a < 100) : (-(nI a) - 1).toInt = -((a : Int) + 1) := by
  have h1 := (neg32 (x := nI a) (b := 100) (by rw [nI_toInt (by omega)]; omega) (by decide)).2
  rw [subB (by rw [h1, nI_toInt (by omega)]; omega) (by decide), h1, nI_toInt (by omega)]
  have : (1 : Int32).toInt = 1 := by decide
  omega
theorem BfI.init {f95 f96 f97 f98 f99 : Nat → Int32} {ar sN : Nat} {R : Nat → Prop} {p : Nat → Int} {pr bY : Nat → Int32} (hs : sN < 12) (hR : R sN) (hp : p sN = 0) (h : ∀ n, n < 12 → pr n = if n = sN then 0 else 536870912) : BfI f95 f96 f97 f98 f99 ar sN R p pr bY (fun _ => 0) 0 := by
  have h0 : (0 : Int32).toInt = 0 := by decide
  refine ⟨⟨by rw [h sN hs, if_pos rfl]; exact h0, fun v hv => ?_⟩, fun w hw hwl => Or.inl ?_, fun _ => Nat.le_refl _⟩
  · by_cases e : v = sN
    · subst e; exact Or.inr ⟨hR, by rw [h v hv, if_pos rfl, h0, hp]; exact Int.le_refl _, by rw [h v hv, if_pos rfl, h0]; omega⟩
    · exact Or.inl (by rw [h v hv, if_neg e])
  · by_cases e : w = sN
    · exact e
    · exact absurd (by rw [h w hw, if_neg e]) hwl
theorem PoO.init {f95 f96 f97 f98 f99 : Nat → Int32} {ar : Nat} (hA : ArO f95 f96 f97 f98 ar) (h : ∀ a, a < ar → f99 a = 0) : PoO f95 f96 f97 f98 f99 ar (fun _ => True) (fun _ => 0) := fun a x y ha _ _ _ _ => by
  obtain ⟨x', y', a1, a2, a3, a4, a5, a6, a7⟩ := hA a ha
  have h0 : (0 : Int32).toInt = 0 := by decide
  refine ⟨fun _ _ => ⟨trivial, by show (0 : Int) ≤ 0 + (f98 a).toInt; omega⟩, fun h9 _ => ?_⟩
  rw [h a ha, h0] at h9; omega
theorem FlO.init {f95 f96 f97 f98 f99 : Nat → Int32} {ar : Nat} (hA : ArO f95 f96 f97 f98 ar) (h : ∀ a, a < ar → f99 a = 0) : FlO f97 f99 ar := fun a ha => by
  obtain ⟨x', y', a1, a2, a3, a4, a5, a6, a7⟩ := hA a ha
  have h0 : (0 : Int32).toInt = 0 := by decide
  rw [h a ha, h0]; omega

/-- flows lie within their rooms -/
def FlO (f97 f99 : Nat → Int32) (ar : Nat) : Prop := ∀ a, a < ar → 0 ≤ (f99 a).toInt ∧ (f99 a).toInt ≤ (f97 a).toInt
/-- prices that no arc with room undercuts, over a set of places that no arc with room leaves -/
def PoO (f95 f96 f97 f98 f99 : Nat → Int32) (ar : Nat) (R : Nat → Prop) (p : Nat → Int) : Prop := ∀ a x y, a < ar → x < 12 → y < 12 → f95 a = nI x → f96 a = nI y → ((f99 a).toInt < (f97 a).toInt → R x → R y ∧ p y ≤ p x + (f98 a).toInt) ∧ (0 < (f99 a).toInt → R y → R x ∧ p x ≤ p y - (f98 a).toInt)
/-- w is come to over arc a, out of u, at the price c -/
def Lk (f95 f96 f97 f98 f99 : Nat → Int32) (ar : Nat) (b : Int32) (w u a : Nat) (c : Int) : Prop := a < ar ∧ ((b.toInt = (a : Int) + 1 ∧ f95 a = nI u ∧ f96 a = nI w ∧ (f99 a).toInt < (f97 a).toInt ∧ c = (f98 a).toInt) ∨ (b.toInt = -((a : Int) + 1) ∧ f96 a = nI u ∧ f95 a = nI w ∧ 0 < (f99 a).toInt ∧ c = -(f98 a).toInt))
def TrO (f95 f96 f97 f98 f99 : Nat → Int32) (ar sN : Nat) (p : Nat → Int) (pr bY : Nat → Int32) (T : Nat → Nat) : Prop := ∀ w, w < 12 → pr w ≠ 536870912 → w = sN ∨ ∃ u a c, u < 12 ∧ u ≠ w ∧ Lk f95 f96 f97 f98 f99 ar (bY w) w u a c ∧ pr u ≠ 536870912 ∧ (pr u).toInt + c ≤ (pr w).toInt ∧ ((pr u).toInt - p u < (pr w).toInt - p w ∨ ((pr u).toInt - p u ≤ (pr w).toInt - p w ∧ T u < T w))
def LbO (R : Nat → Prop) (p : Nat → Int) (sN : Nat) (pr : Nat → Int32) : Prop := (pr sN).toInt = 0 ∧ ∀ v, v < 12 → pr v = 536870912 ∨ (R v ∧ p v ≤ (pr v).toInt ∧ (pr v).toInt ≤ 1000 * ((nvx 536870912 pr 12 - 1 : Nat) : Int))
def BfI (f95 f96 f97 f98 f99 : Nat → Int32) (ar sN : Nat) (R : Nat → Prop) (p : Nat → Int) (pr bY : Nat → Int32) (T : Nat → Nat) (tm : Nat) : Prop := LbO R p sN pr ∧ TrO f95 f96 f97 f98 f99 ar sN p pr bY T ∧ ∀ v, T v ≤ tm
theorem LbO.bd {R : Nat → Prop} {p : Nat → Int} {sN : Nat} {pr : Nat → Int32} (h : LbO R p sN pr) (hp : ∀ v, R v → 0 ≤ p v) {v : Nat} (hv : v < 12) : 0 ≤ (pr v).toInt ∧ (pr v).toInt ≤ 536870912 ∧ (pr v ≠ 536870912 → (pr v).toInt ≤ 11000 ∧ R v ∧ p v ≤ (pr v).toInt) := by
  have h0 := nvx_le 536870912 pr 12
  rcases h.2 v hv with h1 | ⟨h1, h2, h3⟩
  · rw [h1]; exact ⟨by decide, by decide, fun h9 => absurd rfl h9⟩
  · have h4 := hp v h1
    have h5 : ((nvx 536870912 pr 12 - 1 : Nat) : Int) ≤ 11 := by omega
    exact ⟨by omega, by omega, fun _ => ⟨by omega, h1, h2⟩⟩
theorem BfI.relax {f95 f96 f97 f98 f99 : Nat → Int32} {ar sN : Nat} {R : Nat → Prop} {p : Nat → Int} {pr bY pr2 bY2 : Nat → Int32} {T : Nat → Nat} {tm : Nat} (h : BfI f95 f96 f97 f98 f99 ar sN R p pr bY T tm) (hp : ∀ v, R v → 0 ≤ p v) (hps : p sN = 0) {u v a : Nat} {c : Int} {b : Int32} (hu : u < 12) (hv : v < 12) (huv : u ≠ v) (hc : -1000 ≤ c ∧ c ≤ 1000)
    (hL : Lk f95 f96 f97 f98 f99 ar b v u a c) (hpo : R u → R v ∧ p v ≤ p u + c) (hfu : pr u ≠ 536870912) (hl : (pr u).toInt + c < (pr v).toInt) (e1 : (pr2 v).toInt = (pr u).toInt + c) (e2 : ∀ w, w ≠ v → pr2 w = pr w) (e3 : bY2 v = b) (e4 : ∀ w, w ≠ v → bY2 w = bY w) :
    BfI f95 f96 f97 f98 f99 ar sN R p pr2 bY2 (fun w => if w = v then tm + 1 else T w) (tm + 1) ∧ sPr pr2 < sPr pr := by
  obtain ⟨hLb, hTr, hT⟩ := h
  have bu := hLb.bd hp hu
  have bv := hLb.bd hp hv
  obtain ⟨bu1, bu2, bu3⟩ := bu.2.2 hfu
  obtain ⟨hRv, hpv⟩ := hpo bu2
  have hpv0 := hp v hRv
  have hFm : (536870912 : Int32).toInt = 536870912 := by decide
  have hn1 : pr2 v ≠ 536870912 := fun e9 => by rw [e9, hFm] at e1; omega
  have hvs : v ≠ sN := fun e9 => by
    subst e9
    rw [hLb.1] at hl; omega
  have hnn : nvx 536870912 pr 12 ≤ nvx 536870912 pr2 12 ∧ (pr v = 536870912 → nvx 536870912 pr2 12 = nvx 536870912 pr 12 + 1) := by
    by_cases e9 : pr v = 536870912
    · have := nvx_up e9 hn1 e2 12 hv; exact ⟨by omega, fun _ => this⟩
    · have := nvx_same e9 hn1 e2 12; exact ⟨by omega, fun h9 => absurd h9 e9⟩
  have hp1 := nvx_pos hfu 12 hu
  refine ⟨⟨⟨by rw [e2 sN (fun e9 => hvs e9.symm)]; exact hLb.1, fun w hw => ?_⟩, fun w hw hwl => ?_, fun w => ?_⟩, sPr_dec hv e2 (by omega) (by omega)⟩
  · by_cases ew : w = v
    · subst ew
      refine Or.inr ⟨hRv, by omega, ?_⟩
      by_cases e9 : pr w = 536870912
      · rcases hLb.2 u hu with h1 | ⟨h1, h2, h3⟩
        · exact absurd h1 hfu
        · have h4 := hnn.2 e9
          rw [h4]; omega
      · rcases hLb.2 w hw with h1 | ⟨h1, h2, h3⟩
        · exact absurd h1 e9
        · omega
    · rw [e2 w ew]
      rcases hLb.2 w hw with h1 | ⟨h1, h2, h3⟩
      · exact Or.inl h1
      · exact Or.inr ⟨h1, h2, by omega⟩
  · by_cases ew : w = v
    · subst ew
      refine Or.inr ⟨u, a, c, hu, huv, by rw [e3]; exact hL, by rw [e2 u huv]; exact hfu, by rw [e2 u huv]; omega, Or.inr ⟨by rw [e2 u huv]; omega, ?_⟩⟩
      dsimp only; rw [if_neg huv, if_pos rfl]; have := hT u; omega
    · rw [e2 w ew] at hwl
      rcases hTr w hw hwl with h1 | ⟨u', a', c', k1, k2, k3, k4, k5, k6⟩
      · exact Or.inl h1
      · by_cases eu : u' = v
        · subst eu
          refine Or.inr ⟨u', a', c', k1, k2, by rw [e4 w ew]; exact k3, hn1, by rw [e2 w ew]; omega, Or.inl ?_⟩
          rw [e2 w ew]; omega
        · refine Or.inr ⟨u', a', c', k1, k2, by rw [e4 w ew]; exact k3, by rw [e2 u' eu]; exact k4, by rw [e2 u' eu, e2 w ew]; exact k5, ?_⟩
          dsimp only; rw [e2 u' eu, e2 w ew, if_neg eu, if_neg ew]; exact k6
  · show (if w = v then tm + 1 else T w) ≤ tm + 1
    split
    · exact Nat.le_refl _
    · have := hT w; omega
/-- no arc with room undercuts the prices -/
def PrC (f95 f96 f97 f98 f99 : Nat → Int32) (n : Nat) (pr : Nat → Int32) : Prop := ∀ a x y, a < n → x < 12 → y < 12 → f95 a = nI x → f96 a = nI y → ((f99 a).toInt < (f97 a).toInt → pr x ≠ 536870912 → (pr y).toInt ≤ (pr x).toInt + (f98 a).toInt) ∧ (0 < (f99 a).toInt → pr y ≠ 536870912 → (pr x).toInt ≤ (pr y).toInt - (f98 a).toInt)
/-- the tree of ways, with a rank that falls towards s -/
def TrK (f95 f96 f97 f98 f99 : Nat → Int32) (ar sN : Nat) (pr bY : Nat → Int32) (rk : Nat → Nat) : Prop := ∀ w, w < 12 → pr w ≠ 536870912 → w ≠ sN → ∃ u a c, u < 12 ∧ u ≠ w ∧ Lk f95 f96 f97 f98 f99 ar (bY w) w u a c ∧ pr u ≠ 536870912 ∧ (pr u).toInt + c ≤ (pr w).toInt ∧ rk u < rk w
theorem BfI.rank {f95 f96 f97 f98 f99 : Nat → Int32} {ar sN : Nat} {R : Nat → Prop} {p : Nat → Int} {pr bY : Nat → Int32} {T : Nat → Nat} {tm : Nat} (h : BfI f95 f96 f97 f98 f99 ar sN R p pr bY T tm) (hp : ∀ v, R v → 0 ≤ p v) : ∃ rk, TrK f95 f96 f97 f98 f99 ar sN pr bY rk := by
  refine ⟨fun w => ((pr w).toInt - p w).toNat * (tm + 1) + T w, fun w hw hwl hws => ?_⟩
  obtain ⟨u, a, c, k1, k2, k3, k4, k5, k6⟩ := (h.2.1 w hw hwl).resolve_left hws
  refine ⟨u, a, c, k1, k2, k3, k4, k5, ?_⟩
  have b1 := (h.1.bd hp k1).2.2 k4
  have b2 := (h.1.bd hp hw).2.2 hwl
  have t1 := h.2.2 u
  show ((pr u).toInt - p u).toNat * (tm + 1) + T u < ((pr w).toInt - p w).toNat * (tm + 1) + T w
  rcases k6 with k6 | ⟨k6, k7⟩
  · have h1 : ((pr u).toInt - p u).toNat + 1 ≤ ((pr w).toInt - p w).toNat := by omega
    have h2 := Nat.mul_le_mul_right (tm + 1) h1
    rw [Nat.add_mul, Nat.one_mul] at h2; omega
  · have h1 : ((pr u).toInt - p u).toNat ≤ ((pr w).toInt - p w).toNat := by omega
    have h2 := Nat.mul_le_mul_right (tm + 1) h1
    omega
/-- behind the flow along the tree the prices hold again -/
theorem PoO.after {f95 f96 f97 f98 f99 g99 : Nat → Int32} {ar sN : Nat} {pr bY : Nat → Int32} {rk : Nat → Nat} (hA : ArO f95 f96 f97 f98 ar) (hT : TrK f95 f96 f97 f98 f99 ar sN pr bY rk) (hC : PrC f95 f96 f97 f98 f99 ar pr) (hb : ∀ v, v < 12 → (pr v).toInt ≤ 536870912 ∧ (pr v ≠ 536870912 → (pr v).toInt ≤ 11000))
    (hg : ∀ a, a < ar → g99 a = f99 a ∨ ∃ w, w < 12 ∧ pr w ≠ 536870912 ∧ w ≠ sN ∧ ((bY w).toInt = (a : Int) + 1 ∨ (bY w).toInt = -((a : Int) + 1))) :
    PoO f95 f96 f97 f98 g99 ar (fun v => v < 12 ∧ pr v ≠ 536870912) (fun v => (pr v).toInt) := by
  have hFm : (536870912 : Int32).toInt = 536870912 := by decide
  have lab : ∀ v, v < 12 → (pr v).toInt ≤ 100000 → pr v ≠ 536870912 := fun v hv h9 e9 => by rw [e9, hFm] at h9; omega
  intro a x y ha hx hy ex ey
  obtain ⟨x', y', a1, a2, a3, a4, a5, a6, a7⟩ := hA a ha
  have exx : x' = x := (nI_eq (by omega) (by omega)).mp (a4.symm.trans ex)
  have eyy : y' = y := (nI_eq (by omega) (by omega)).mp (a5.symm.trans ey)
  subst exx eyy
  have hc := hC a x' y' ha hx hy ex ey
  have key : (∃ w, w < 12 ∧ pr w ≠ 536870912 ∧ w ≠ sN ∧ ((bY w).toInt = (a : Int) + 1 ∨ (bY w).toInt = -((a : Int) + 1))) → pr x' ≠ 536870912 ∧ pr y' ≠ 536870912 ∧ (((pr x').toInt ≤ (pr y').toInt - (f98 a).toInt ∧ (pr y').toInt ≤ (pr x').toInt + (f98 a).toInt) ∨ ((pr y').toInt ≤ (pr x').toInt + (f98 a).toInt ∧ (pr x').toInt ≤ (pr y').toInt - (f98 a).toInt)) := by
    rintro ⟨w, h1, h2, h3, h4⟩
    obtain ⟨u, a', c, k1, k2, ⟨k3, k4⟩, k5, k6, k7⟩ := hT w h1 h2 h3
    rcases k4 with ⟨j1, j2, j3, j4, j5⟩ | ⟨j1, j2, j3, j4, j5⟩
    · have ea : a' = a := by omega
      subst ea
      have eu : u = x' := (nI_eq (by omega) (by omega)).mp (j2.symm.trans ex)
      have ew : w = y' := (nI_eq (by omega) (by omega)).mp (j3.symm.trans ey)
      subst eu ew
      have := hc.1 j4 k5
      exact ⟨k5, h2, Or.inl ⟨by omega, by omega⟩⟩
    · have ea : a' = a := by omega
      subst ea
      have eu : u = y' := (nI_eq (by omega) (by omega)).mp (j2.symm.trans ey)
      have ew : w = x' := (nI_eq (by omega) (by omega)).mp (j3.symm.trans ex)
      subst eu ew
      have := hc.2 j4 k5
      exact ⟨h2, k5, Or.inr ⟨by omega, by omega⟩⟩
  rcases hg a ha with e | e
  · rw [e]
    refine ⟨fun h1 h2 => ?_, fun h1 h2 => ?_⟩
    · have h3 := hc.1 h1 h2.2
      have h4 := (hb x' hx).2 h2.2
      exact ⟨⟨hy, lab y' hy (by omega)⟩, h3⟩
    · have h3 := hc.2 h1 h2.2
      have h4 := (hb y' hy).2 h2.2
      exact ⟨⟨hx, lab x' hx (by omega)⟩, h3⟩
  · obtain ⟨q1, q2, q3⟩ := key e
    refine ⟨fun _ _ => ⟨⟨hy, q2⟩, ?_⟩, fun _ _ => ⟨⟨hx, q1⟩, ?_⟩⟩ <;> rcases q3 with q3 | q3 <;> (dsimp only; omega)
/-- two places of the tree are come to over two arcs -/
theorem TrK.apart {f95 f96 f97 f98 f99 : Nat → Int32} {ar sN : Nat} {pr bY : Nat → Int32} {rk : Nat → Nat} (hT : TrK f95 f96 f97 f98 f99 ar sN pr bY rk) {w1 w2 u1 u2 a : Nat} {c1 c2 : Int} (h1 : w1 < 12) (h2 : w2 < 12) (g1 : u1 < 12) (g2 : u2 < 12) (k1 : Lk f95 f96 f97 f98 f99 ar (bY w1) w1 u1 a c1) (k2 : Lk f95 f96 f97 f98 f99 ar (bY w2) w2 u2 a c2) (r1 : rk u1 < rk w1) (r2 : rk u2 < rk w2) : w1 = w2 := by
  obtain ⟨q1, k1⟩ := k1
  obtain ⟨q2, k2⟩ := k2
  rcases k1 with ⟨j1, j2, j3, j4, j5⟩ | ⟨j1, j2, j3, j4, j5⟩ <;> rcases k2 with ⟨i1, i2, i3, i4, i5⟩ | ⟨i1, i2, i3, i4, i5⟩
  · exact (nI_eq (by omega) (by omega)).mp (j3.symm.trans i3)
  · have e1 : u1 = w2 := (nI_eq (by omega) (by omega)).mp (j2.symm.trans i3)
    have e2 : u2 = w1 := (nI_eq (by omega) (by omega)).mp (i2.symm.trans j3)
    subst e1 e2; omega
  · have e1 : u1 = w2 := (nI_eq (by omega) (by omega)).mp (j2.symm.trans i3)
    have e2 : u2 = w1 := (nI_eq (by omega) (by omega)).mp (i2.symm.trans j3)
    subst e1 e2; omega
  · exact (nI_eq (by omega) (by omega)).mp (j3.symm.trans i3)

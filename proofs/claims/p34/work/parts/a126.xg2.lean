/-! the cheapest flow: the class's measure -/
def enB (x : Int32) : Int32 := if x.toInt < 40 then iI (x.toInt + 1) else iI (39 - x.toInt)
theorem enB_f {x : Int32} {a : Nat} (h : x.toInt = (a : Int)) (ha : a < 40) : (enB x).toInt = (a : Int) + 1 := by
  unfold enB
  rw [if_pos (by omega), iI_t (by omega) (by omega), h]
theorem enB_b {x : Int32} {a : Nat} (h : x.toInt = (a : Int) + 40) (ha : a < 40) : (enB x).toInt = -((a : Int) + 1) := by
  unfold enB
  rw [if_neg (by omega), iI_t (by omega) (by omega), h]
  omega
def MsT (f95 f96 f97 f98 f99 : Nat → Int32) (ar sN : Nat) (pr bY : Nat → Int32) (P : Nat → Nat) : Prop := ∀ w, w < 12 → pr w ≠ 536870912 → w ≠ sN → ∀ u a c, u < 12 → Lk f95 f96 f97 f98 f99 ar (bY w) w u a c → P w ≤ P u + 1
def MsE (f95 f96 f97 f98 f99 : Nat → Int32) (ar : Nat) (pr : Nat → Int32) (P bf bb : Nat → Nat) : Prop := ∀ a x y, a < ar → x < 12 → y < 12 → f95 a = nI x → f96 a = nI y → ((f99 a).toInt < (f97 a).toInt → pr x ≠ 536870912 → P x < bf a → (pr y).toInt ≤ (pr x).toInt + (f98 a).toInt) ∧ (0 < (f99 a).toInt → pr y ≠ 536870912 → P y < bb a → (pr x).toInt ≤ (pr y).toInt - (f98 a).toInt)
/-- up to the arc i a turn has looked -/
def upB (k i : Nat) : Nat → Nat := fun a => if a < i then k + 1 else k
/-- at the head of a turn (k turns are done), or within one -/
def MsG (f95 f96 f97 f98 f99 : Nat → Int32) (ar sN : Nat) (R : Nat → Prop) (p : Nat → Int) (pr bY : Nat → Int32) (k : Nat) (ch : Int) (bf bb : Nat → Nat) : Prop := ∃ T tm P, BfI f95 f96 f97 f98 f99 ar sN R p pr bY T tm ∧ (∀ v, P v ≤ k) ∧ P sN = 0 ∧ (ch = 0 → ∀ v, P v < k) ∧ MsT f95 f96 f97 f98 f99 ar sN pr bY P ∧ MsE f95 f96 f97 f98 f99 ar pr P bf bb
def PoX (f95 f96 f97 f98 f99 : Nat → Int32) (ar sN : Nat) (R : Nat → Prop) (p : Nat → Int) : Prop := PoO f95 f96 f97 f98 f99 ar R p ∧ (∀ v, R v → 0 ≤ p v) ∧ p sN = 0 ∧ R sN
theorem MsG.start {f95 f96 f97 f98 f99 pr bY : Nat → Int32} {ar sN : Nat} {R : Nat → Prop} {p : Nat → Int} {k : Nat} {ch : Int} (hX : PoX f95 f96 f97 f98 f99 ar sN R p) (hs : sN < 12) (h : ∀ n, n < 12 → pr n = if n = sN then 0 else 536870912) (hk : k = 0) (hc : ch = 1) : MsG f95 f96 f97 f98 f99 ar sN R p pr bY k ch (fun _ => k) (fun _ => k) := by
  subst hk hc
  refine ⟨fun _ => 0, 0, fun _ => 0, BfI.init hs hX.2.2.2 hX.2.2.1 h, fun _ => Nat.le_refl _, rfl, fun h9 => absurd h9 (by decide), fun w _ _ _ u a c _ _ => Nat.zero_le _, fun a x y _ _ _ _ _ => ⟨fun _ _ h9 => absurd h9 (Nat.not_lt_zero _), fun _ _ h9 => absurd h9 (Nat.not_lt_zero _)⟩⟩
theorem MsG.go {f95 f96 f97 f98 f99 pr bY : Nat → Int32} {ar sN : Nat} {R : Nat → Prop} {p : Nat → Int} {k i : Nat} {ch c2 : Int} (h : MsG f95 f96 f97 f98 f99 ar sN R p pr bY k ch (fun _ => k) (fun _ => k)) (hi : i = 0) : MsG f95 f96 f97 f98 f99 ar sN R p pr bY (k + 1) c2 (upB k i) (upB k i) := by
  subst hi
  obtain ⟨T, tm, P, h1, h2, h3, h4, h5, h6⟩ := h
  have e : ∀ a, upB k 0 a = k := fun a => if_neg (Nat.not_lt_zero a)
  refine ⟨T, tm, P, h1, fun v => by have := h2 v; omega, h3, fun _ v => by have := h2 v; omega, h5, fun a x y k1 k2 k3 k4 k5 => ?_⟩
  rw [e]
  exact h6 a x y k1 k2 k3 k4 k5
theorem MsG.out {f95 f96 f97 f98 f99 pr bY : Nat → Int32} {ar sN : Nat} {R : Nat → Prop} {p : Nat → Int} {k i k2 : Nat} {ch : Int} (h : MsG f95 f96 f97 f98 f99 ar sN R p pr bY (k + 1) ch (upB k i) (upB k i)) (hi : ar ≤ i) (hk : k2 = k + 1) : MsG f95 f96 f97 f98 f99 ar sN R p pr bY k2 ch (fun _ => k2) (fun _ => k2) := by
  subst hk
  obtain ⟨T, tm, P, h1, h2, h3, h4, h5, h6⟩ := h
  refine ⟨T, tm, P, h1, h2, h3, h4, h5, fun a x y k1 k2 k3 k4 k5 => ?_⟩
  have h9 := h6 a x y k1 k2 k3 k4 k5
  have e : upB k i a = k + 1 := if_pos (by omega)
  rw [e] at h9
  exact h9
/-- an arc that asks for nothing, ahead and back -/
theorem MsG.skipF {f95 f96 f97 f98 f99 pr bY : Nat → Int32} {ar sN : Nat} {R : Nat → Prop} {p : Nat → Int} {k i x y : Nat} {ch : Int} (h : MsG f95 f96 f97 f98 f99 ar sN R p pr bY (k + 1) ch (upB k i) (upB k i)) (hx : x < 12) (hy : y < 12) (ex : f95 i = nI x) (ey : f96 i = nI y) (hn : (f99 i).toInt < (f97 i).toInt → pr x ≠ 536870912 → (pr y).toInt ≤ (pr x).toInt + (f98 i).toInt) : MsG f95 f96 f97 f98 f99 ar sN R p pr bY (k + 1) ch (upB k (i + 1)) (upB k i) := by
  obtain ⟨T, tm, P, h1, h2, h3, h4, h5, h6⟩ := h
  refine ⟨T, tm, P, h1, h2, h3, h4, h5, fun a x' y' k1 k2 k3 k4 k5 => ?_⟩
  have h9 := h6 a x' y' k1 k2 k3 k4 k5
  refine ⟨fun q1 q2 q3 => ?_, h9.2⟩
  by_cases e : a = i
  · subst e
    have e1 : x' = x := (nI_eq (by omega) (by omega)).mp (k4.symm.trans ex)
    have e2 : y' = y := (nI_eq (by omega) (by omega)).mp (k5.symm.trans ey)
    subst e1 e2
    exact hn q1 q2
  · refine h9.1 q1 q2 ?_
    have e2 : upB k (i + 1) a = upB k i a := by
      unfold upB
      by_cases e3 : a < i
      · rw [if_pos e3, if_pos (by omega)]
      · rw [if_neg e3, if_neg (by omega)]
    rw [← e2]
    exact q3
theorem MsG.skipB {f95 f96 f97 f98 f99 pr bY : Nat → Int32} {ar sN : Nat} {R : Nat → Prop} {p : Nat → Int} {k i x y : Nat} {ch : Int} (h : MsG f95 f96 f97 f98 f99 ar sN R p pr bY (k + 1) ch (upB k (i + 1)) (upB k i)) (hx : x < 12) (hy : y < 12) (ex : f95 i = nI x) (ey : f96 i = nI y) (hn : 0 < (f99 i).toInt → pr y ≠ 536870912 → (pr x).toInt ≤ (pr y).toInt - (f98 i).toInt) : MsG f95 f96 f97 f98 f99 ar sN R p pr bY (k + 1) ch (upB k (i + 1)) (upB k (i + 1)) := by
  obtain ⟨T, tm, P, h1, h2, h3, h4, h5, h6⟩ := h
  refine ⟨T, tm, P, h1, h2, h3, h4, h5, fun a x' y' k1 k2 k3 k4 k5 => ?_⟩
  have h9 := h6 a x' y' k1 k2 k3 k4 k5
  refine ⟨h9.1, fun q1 q2 q3 => ?_⟩
  by_cases e : a = i
  · subst e
    have e1 : x' = x := (nI_eq (by omega) (by omega)).mp (k4.symm.trans ex)
    have e2 : y' = y := (nI_eq (by omega) (by omega)).mp (k5.symm.trans ey)
    subst e1 e2
    exact hn q1 q2
  · refine h9.2 q1 q2 ?_
    have e2 : upB k (i + 1) a = upB k i a := by
      unfold upB
      by_cases e3 : a < i
      · rw [if_pos e3, if_pos (by omega)]
      · rw [if_neg e3, if_neg (by omega)]
    rw [← e2]
    exact q3
/-- a length is mended: v from u over the arc i -/
theorem MsG.mend {f95 f96 f97 f98 f99 pr bY pr2 bY2 : Nat → Int32} {ar sN : Nat} {R : Nat → Prop} {p : Nat → Int} {k : Nat} {ch : Int} {bf bb bf2 bb2 : Nat → Nat} {u v a : Nat} {c : Int} {b : Int32} (h : MsG f95 f96 f97 f98 f99 ar sN R p pr bY (k + 1) ch bf bb) (hX : PoX f95 f96 f97 f98 f99 ar sN R p) (hu : u < 12) (hv : v < 12) (huv : u ≠ v) (hc : -1000 ≤ c ∧ c ≤ 1000) (hL : Lk f95 f96 f97 f98 f99 ar b v u a c) (hpo : R u → R v ∧ p v ≤ p u + c) (hfu : pr u ≠ 536870912) (hl : (pr u).toInt + c < (pr v).toInt) (e1 : (pr2 v).toInt = (pr u).toInt + c) (e2 : ∀ w, w ≠ v → pr2 w = pr w) (e3 : bY2 v = b) (e4 : ∀ w, w ≠ v → bY2 w = bY w)
    (hP : ∀ P : Nat → Nat, MsE f95 f96 f97 f98 f99 ar pr P bf bb → k ≤ P u)
    (hE : ∀ P P2 : Nat → Nat, (∀ w, w ≠ v → P2 w = P w) → P2 v = k + 1 → MsE f95 f96 f97 f98 f99 ar pr P bf bb → MsE f95 f96 f97 f98 f99 ar pr2 P2 bf2 bb2) : MsG f95 f96 f97 f98 f99 ar sN R p pr2 bY2 (k + 1) 1 bf2 bb2 := by
  obtain ⟨T, tm, P, h1, h2, h3, h4, h5, h6⟩ := h
  have hB := BfI.relax h1 hX.2.1 hX.2.2.1 hu hv huv hc hL hpo hfu hl e1 e2 e3 e4
  have hvs : v ≠ sN := fun e9 => by
    have q1 := hB.1.1.1
    have q2 := h1.1.1
    rw [← e9] at q1 q2
    omega
  have hPu := hP P h6
  refine ⟨_, _, fun w => if w = v then k + 1 else P w, hB.1, fun w => ?_, ?_, fun h9 => absurd h9 (by decide), ?_, hE P _ (fun w hw => if_neg hw) (if_pos rfl) h6⟩
  · show (if w = v then k + 1 else P w) ≤ k + 1
    by_cases e : w = v
    · rw [if_pos e]; exact Nat.le_refl _
    · rw [if_neg e]; exact h2 w
  · show (if sN = v then k + 1 else P sN) = 0
    rw [if_neg (Ne.symm hvs)]
    exact h3
  · intro w hw hwl hws u9 a9 c9 hu9 hk9
    show (if w = v then k + 1 else P w) ≤ (if u9 = v then k + 1 else P u9) + 1
    by_cases e : w = v
    · rw [if_pos e]
      have hk : Lk f95 f96 f97 f98 f99 ar b v u9 a9 c9 := by rw [e, e3] at hk9; exact hk9
      have eu : u9 = u := by
        obtain ⟨g1, g2⟩ := hk
        obtain ⟨l1, l2⟩ := hL
        rcases g2 with ⟨j1, j2, j3, _⟩ | ⟨j1, j2, j3, _⟩
        · rcases l2 with ⟨m1, m2, m3, _⟩ | ⟨m1, m2, m3, _⟩
          · have ea : a9 = a := by omega
            subst ea
            exact (nI_eq (by omega) (by omega)).mp (j2.symm.trans m2)
          · omega
        · rcases l2 with ⟨m1, m2, m3, _⟩ | ⟨m1, m2, m3, _⟩
          · omega
          · have ea : a9 = a := by omega
            subst ea
            exact (nI_eq (by omega) (by omega)).mp (j2.symm.trans m2)
      rw [eu, if_neg huv]
      omega
    · rw [if_neg e]
      rw [e2 w e] at hwl
      rw [e4 w e] at hk9
      have h9 := h5 w hw hwl hws u9 a9 c9 hu9 hk9
      by_cases e9 : u9 = v
      · rw [if_pos e9]
        have := h2 w
        omega
      · rw [if_neg e9]; exact h9
theorem MsG.mendF {f95 f96 f97 f98 f99 pr bY pr2 bY2 : Nat → Int32} {ar sN : Nat} {R : Nat → Prop} {p : Nat → Int} {k i x y : Nat} {ch : Int} (h : MsG f95 f96 f97 f98 f99 ar sN R p pr bY (k + 1) ch (upB k i) (upB k i)) (hX : PoX f95 f96 f97 f98 f99 ar sN R p) (hi : i < ar) (h40 : ar ≤ 40) (hx : x < 12) (hy : y < 12) (hxy : x ≠ y) (ex : f95 i = nI x) (ey : f96 i = nI y) (hc : 0 ≤ (f98 i).toInt ∧ (f98 i).toInt ≤ 1000) (hr : (f99 i).toInt < (f97 i).toInt) (hfx : pr x ≠ 536870912) (hl : (pr x).toInt + (f98 i).toInt < (pr y).toInt) (e1 : (pr2 y).toInt = (pr x).toInt + (f98 i).toInt) (e2 : ∀ w, w ≠ y → pr2 w = pr w) (e3 : (bY2 y).toInt = (i : Int) + 1) (e4 : ∀ w, w ≠ y → bY2 w = bY w) : MsG f95 f96 f97 f98 f99 ar sN R p pr2 bY2 (k + 1) 1 (upB k (i + 1)) (upB k i) := by
  have e0 : upB k i i = k := if_neg (Nat.lt_irrefl i)
  refine MsG.mend (a := i) h hX hx hy hxy (by omega) ⟨hi, Or.inl ⟨e3, ex, ey, hr, rfl⟩⟩ (fun hR => (hX.1 i x y hi hx hy ex ey).1 hr hR) hfx hl e1 e2 rfl e4 (fun P hE => ?_) (fun P P2 q1 q2 hE => ?_)
  · have h9 := (hE i x y hi hx hy ex ey).1 hr hfx
    rw [e0] at h9
    exact Nat.le_of_not_lt (fun h8 => by have := h9 h8; omega)
  · intro a x' y' k1 k2 k3 k4 k5
    have h9 := hE a x' y' k1 k2 k3 k4 k5
    have hd : (pr2 y').toInt ≤ (pr y').toInt := by
      by_cases e : y' = y
      · rw [e, e1]; omega
      · rw [e2 y' e]; exact Int.le_refl _
    have hd2 : (pr2 x').toInt ≤ (pr x').toInt := by
      by_cases e : x' = y
      · rw [e, e1]; omega
      · rw [e2 x' e]; exact Int.le_refl _
    have ub : ∀ b : Nat, upB k b a ≤ k + 1 := fun b => by
      unfold upB
      by_cases e : a < b
      · rw [if_pos e]; exact Nat.le_refl _
      · rw [if_neg e]; omega
    refine ⟨fun r1 r2 r3 => ?_, fun r1 r2 r3 => ?_⟩
    · by_cases ev : x' = y
      · rw [ev, q2] at r3
        have := ub (i + 1)
        omega
      · rw [e2 x' ev] at r2 ⊢
        rw [q1 x' ev] at r3
        by_cases ea : a = i
        · subst ea
          have g1 : x' = x := (nI_eq (by omega) (by omega)).mp (k4.symm.trans ex)
          have g2 : y' = y := (nI_eq (by omega) (by omega)).mp (k5.symm.trans ey)
          rw [g2, e1, g1]
          exact Int.le_refl _
        · have e5 : upB k (i + 1) a = upB k i a := by
            unfold upB
            by_cases e3 : a < i
            · rw [if_pos e3, if_pos (by omega)]
            · rw [if_neg e3, if_neg (by omega)]
          rw [e5] at r3
          have := h9.1 r1 r2 r3
          omega
    · by_cases ev : y' = y
      · rw [ev, q2] at r3
        have := ub i
        omega
      · rw [e2 y' ev] at r2 ⊢
        rw [q1 y' ev] at r3
        have := h9.2 r1 r2 r3
        omega
theorem MsG.mendB {f95 f96 f97 f98 f99 pr bY pr2 bY2 : Nat → Int32} {ar sN : Nat} {R : Nat → Prop} {p : Nat → Int} {k i x y : Nat} {ch : Int} (h : MsG f95 f96 f97 f98 f99 ar sN R p pr bY (k + 1) ch (upB k (i + 1)) (upB k i)) (hX : PoX f95 f96 f97 f98 f99 ar sN R p) (hi : i < ar) (h40 : ar ≤ 40) (hx : x < 12) (hy : y < 12) (hxy : x ≠ y) (ex : f95 i = nI x) (ey : f96 i = nI y) (hc : 0 ≤ (f98 i).toInt ∧ (f98 i).toInt ≤ 1000) (hr : 0 < (f99 i).toInt) (hfy : pr y ≠ 536870912) (hl : (pr y).toInt - (f98 i).toInt < (pr x).toInt) (e1 : (pr2 x).toInt = (pr y).toInt - (f98 i).toInt) (e2 : ∀ w, w ≠ x → pr2 w = pr w) (e3 : (bY2 x).toInt = -((i : Int) + 1)) (e4 : ∀ w, w ≠ x → bY2 w = bY w) : MsG f95 f96 f97 f98 f99 ar sN R p pr2 bY2 (k + 1) 1 (upB k (i + 1)) (upB k (i + 1)) := by
  have e0 : upB k i i = k := if_neg (Nat.lt_irrefl i)
  refine MsG.mend (u := y) (v := x) (a := i) (c := -(f98 i).toInt) h hX hy hx (Ne.symm hxy) (by omega) ⟨hi, Or.inr ⟨e3, ey, ex, hr, rfl⟩⟩ (fun hR => by have h9 := (hX.1 i x y hi hx hy ex ey).2 hr hR; exact ⟨h9.1, by omega⟩) hfy (by omega) (by omega) e2 rfl e4 (fun P hE => ?_) (fun P P2 q1 q2 hE => ?_)
  · have h9 := (hE i x y hi hx hy ex ey).2 hr hfy
    rw [e0] at h9
    exact Nat.le_of_not_lt (fun h8 => by have := h9 h8; omega)
  · intro a x' y' k1 k2 k3 k4 k5
    have h9 := hE a x' y' k1 k2 k3 k4 k5
    have hd : (pr2 y').toInt ≤ (pr y').toInt := by
      by_cases e : y' = x
      · rw [e, e1]; omega
      · rw [e2 y' e]; exact Int.le_refl _
    have hd2 : (pr2 x').toInt ≤ (pr x').toInt := by
      by_cases e : x' = x
      · rw [e, e1]; omega
      · rw [e2 x' e]; exact Int.le_refl _
    have ub : ∀ b : Nat, upB k b a ≤ k + 1 := fun b => by
      unfold upB
      by_cases e : a < b
      · rw [if_pos e]; exact Nat.le_refl _
      · rw [if_neg e]; omega
    refine ⟨fun r1 r2 r3 => ?_, fun r1 r2 r3 => ?_⟩
    · by_cases ev : x' = x
      · rw [ev, q2] at r3
        have := ub (i + 1)
        omega
      · rw [e2 x' ev] at r2 ⊢
        rw [q1 x' ev] at r3
        have := h9.1 r1 r2 r3
        omega
    · by_cases ev : y' = x
      · rw [ev, q2] at r3
        have := ub (i + 1)
        omega
      · rw [e2 y' ev] at r2 ⊢
        rw [q1 y' ev] at r3
        by_cases ea : a = i
        · subst ea
          have g1 : x' = x := (nI_eq (by omega) (by omega)).mp (k4.symm.trans ex)
          have g2 : y' = y := (nI_eq (by omega) (by omega)).mp (k5.symm.trans ey)
          rw [g1, e1, g2]
          exact Int.le_refl _
        · have e5 : upB k (i + 1) a = upB k i a := by
            unfold upB
            by_cases e3 : a < i
            · rw [if_pos e3, if_pos (by omega)]
            · rw [if_neg e3, if_neg (by omega)]
          rw [e5] at r3
          have := h9.2 r1 r2 r3
          omega
/-- at the end no arc with room undercuts the lengths -/
theorem MsG.done {f95 f96 f97 f98 f99 pr bY : Nat → Int32} {ar sN : Nat} {R : Nat → Prop} {p : Nat → Int} {k : Nat} {ch : Int} (h : MsG f95 f96 f97 f98 f99 ar sN R p pr bY k ch (fun _ => k) (fun _ => k)) (hX : PoX f95 f96 f97 f98 f99 ar sN R p) (hk : 12 ≤ k ∨ ch = 0) : PrC f95 f96 f97 f98 f99 ar pr ∧ (∃ rk, TrK f95 f96 f97 f98 f99 ar sN pr bY rk) ∧ (pr sN).toInt = 0 ∧ ∀ v, v < 12 → 0 ≤ (pr v).toInt ∧ (pr v).toInt ≤ 536870912 ∧ (pr v ≠ 536870912 → (pr v).toInt ≤ 11000) := by
  obtain ⟨T, tm, P, h1, h2, h3, h4, h5, h6⟩ := h
  obtain ⟨rk, hT⟩ := BfI.rank h1 hX.2.1
  have hlow : ∀ m v, rk v < m → v < 12 → pr v ≠ 536870912 → P v ≤ cntB (fun q => decide (rk q < rk v)) 12 := by
    intro m
    induction m with
    | zero => intro v h9; exact absurd h9 (Nat.not_lt_zero _)
    | succ m ih =>
      intro v hv1 hv2 hv3
      by_cases e : v = sN
      · rw [e, h3]; exact Nat.zero_le _
      · obtain ⟨u, a, c, g1, g2, g3, g4, g5, g6⟩ := hT v hv2 hv3 e
        have q1 := h5 v hv2 hv3 e u a c g1 g3
        have q2 := ih u (by omega) g1 g4
        have q3 := cntB_lt (p := fun q => decide (rk q < rk u)) (q := fun q => decide (rk q < rk v)) (n := 12) (i := u) (fun q _ h9 => decide_eq_true (by have := of_decide_eq_true h9; omega)) g1 (decide_eq_false (Nat.lt_irrefl _)) (decide_eq_true g6)
        omega
  have h11 : ∀ v, v < 12 → pr v ≠ 536870912 → P v < k := by
    intro v hv hl
    rcases hk with hk | hk
    · have q1 := hlow (rk v + 1) v (by omega) hv hl
      have q2 := cntB_miss (p := fun q => decide (rk q < rk v)) (n := 12) (i := v) hv (decide_eq_false (Nat.lt_irrefl _))
      omega
    · exact h4 hk v
  refine ⟨fun a x y k1 k2 k3 k4 k5 => ?_, ⟨rk, hT⟩, h1.1.1, fun v hv => ?_⟩
  · have h9 := h6 a x y k1 k2 k3 k4 k5
    exact ⟨fun r1 r2 => h9.1 r1 r2 (h11 x k2 r2), fun r1 r2 => h9.2 r1 r2 (h11 y k3 r2)⟩
  · have h9 := h1.1.bd hX.2.1 hv
    exact ⟨h9.1, h9.2.1, fun h8 => (h9.2.2 h8).1⟩
theorem MsG.bd {f95 f96 f97 f98 f99 pr bY : Nat → Int32} {ar sN : Nat} {R : Nat → Prop} {p : Nat → Int} {k : Nat} {ch : Int} {bf bb : Nat → Nat} (h : MsG f95 f96 f97 f98 f99 ar sN R p pr bY k ch bf bb) (hX : PoX f95 f96 f97 f98 f99 ar sN R p) : ∀ v, v < 12 → 0 ≤ (pr v).toInt ∧ (pr v).toInt ≤ 536870912 ∧ (pr v ≠ 536870912 → (pr v).toInt ≤ 11000) := by
  obtain ⟨T, tm, P, h1, _⟩ := h
  intro v hv
  have h9 := h1.1.bd hX.2.1 hv
  exact ⟨h9.1, h9.2.1, fun h8 => (h9.2.2 h8).1⟩
theorem msIni {L0 L1 : Nat → Int32} {p : Int32} (h : ∀ q, q < 12 → L0 q = 536870912) (e : L1 = upd L0 p.toNatClampNeg 0) : ∀ n, n < 12 → L1 n = if n = p.toInt.toNat then 0 else 536870912 := by
  intro n hn
  rw [e]
  show (if n = p.toInt.toNat then (0 : Int32) else L0 n) = _
  by_cases e9 : n = p.toInt.toNat
  · rw [if_pos e9, if_pos e9]
  · rw [if_neg e9, if_neg e9]
    exact h n hn
/-- a row's entry by the node's number -/
theorem rowAt {L f : Nat → Int32} {v i : Int32} {x I : Nat} (hv : v = L i.toNatClampNeg) (hi : i = f I) (hx : x < 12) (e : f I = nI x) : L x = v := by
  rw [hv, hi, e]
  show L x = L (nI x).toInt.toNat
  rw [nI_toInt (by omega)]
  rfl
theorem ixAt {f : Nat → Int32} {i : Int32} {x I : Nat} (hi : i = f I) (hx : x < 12) (e : f I = nI x) : i.toNatClampNeg = x := by
  rw [hi, e]
  show (nI x).toInt.toNat = x
  rw [nI_toInt (by omega)]
  rfl
theorem updAt {L L2 : Nat → Int32} {i y : Int32} {x : Nat} (h : L2 = upd L i.toNatClampNeg y) (hi : i.toNatClampNeg = x) : L2 x = y ∧ ∀ w, w ≠ x → L2 w = L w := by
  rw [h, hi]
  exact ⟨if_pos rfl, fun w hw => if_neg hw⟩

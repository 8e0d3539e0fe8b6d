/-! the cheapest flow: potentials -/
theorem fin_bd (p : Nat → Int) : ∀ n : Nat, ∃ k : Int, 0 ≤ k ∧ ∀ x, x < n → -k ≤ p x := by
  intro n
  induction n with
  | zero => exact ⟨0, Int.le_refl _, fun x hx => absurd hx (Nat.not_lt_zero x)⟩
  | succ n ih =>
    obtain ⟨k, h0, h⟩ := ih
    by_cases e : -k ≤ p n
    · refine ⟨k, h0, fun x hx => ?_⟩
      by_cases e2 : x = n
      · rw [e2]; exact e
      · exact h x (by omega)
    · refine ⟨-(p n), by omega, fun x hx => ?_⟩
      by_cases e2 : x = n
      · rw [e2]; omega
      · have := h x (by omega)
        omega
/-- potentials for all nodes are kept by a push -/
theorem PoO.all {f95 f96 f97 f98 f99 g99 : Nat → Int32} {ar sN : Nat} {pr bY : Nat → Int32} {rk : Nat → Nat} (hA : ArO f95 f96 f97 f98 ar) (hT : TrK f95 f96 f97 f98 f99 ar sN pr bY rk) (hC : PrC f95 f96 f97 f98 f99 ar pr) (hb : ∀ v, v < 12 → (pr v).toInt ≤ 536870912 ∧ (pr v ≠ 536870912 → (pr v).toInt ≤ 11000))
    (hg : ∀ a, a < ar → g99 a = f99 a ∨ ∃ w, w < 12 ∧ pr w ≠ 536870912 ∧ w ≠ sN ∧ ((bY w).toInt = (a : Int) + 1 ∨ (bY w).toInt = -((a : Int) + 1))) (hp : ∃ p, PoO f95 f96 f97 f98 f99 ar (fun _ => True) p) :
    ∃ p, PoO f95 f96 f97 f98 g99 ar (fun _ => True) p := by
  obtain ⟨p, hp⟩ := hp
  obtain ⟨k, hk0, hk⟩ := fin_bd p 12
  have hN := PoO.after hA hT hC hb hg
  refine ⟨fun v => if pr v = 536870912 then p v + (k + 20000) else (pr v).toInt, ?_⟩
  have hlo : ∀ v, pr v = 536870912 → (if pr v = 536870912 then p v + (k + 20000) else (pr v).toInt) = p v + (k + 20000) := fun v h => if_pos h
  have hhi : ∀ v, pr v ≠ 536870912 → (if pr v = 536870912 then p v + (k + 20000) else (pr v).toInt) = (pr v).toInt := fun v h => if_neg h
  intro a x y ha hx hy ex ey
  obtain ⟨x', y', a1, a2, a3, a4, a5, a6, a7⟩ := hA a ha
  have ho := hp a x y ha hx hy ex ey
  have hn := hN a x y ha hx hy ex ey
  have kx := hk x hx
  have ky := hk y hy
  have hsame : ¬ (pr x ≠ 536870912 ∧ pr y ≠ 536870912) → g99 a = f99 a := fun hne => by
    rcases hg a ha with e | ⟨w, h1, h2, h3, h4⟩
    · exact e
    · exfalso
      obtain ⟨u, a', c, k1, k2, ⟨k3, k4⟩, k5, k6, k7⟩ := hT w h1 h2 h3
      rcases k4 with ⟨j1, j2, j3, j4, j5⟩ | ⟨j1, j2, j3, j4, j5⟩
      · have ea : a' = a := by omega
        subst ea
        have eu : u = x := (nI_eq (by omega) (by omega)).mp (j2.symm.trans ex)
        have ew : w = y := (nI_eq (by omega) (by omega)).mp (j3.symm.trans ey)
        subst eu ew
        exact hne ⟨k5, h2⟩
      · have ea : a' = a := by omega
        subst ea
        have eu : u = y := (nI_eq (by omega) (by omega)).mp (j2.symm.trans ey)
        have ew : w = x := (nI_eq (by omega) (by omega)).mp (j3.symm.trans ex)
        subst eu ew
        exact hne ⟨h2, k5⟩
  refine ⟨fun h1 _ => ⟨trivial, ?_⟩, fun h1 _ => ⟨trivial, ?_⟩⟩
  · by_cases qx : pr x = 536870912
    · have hs := hsame (fun h => h.1 qx)
      by_cases qy : pr y = 536870912
      · show (if pr y = 536870912 then p y + (k + 20000) else (pr y).toInt) ≤ (if pr x = 536870912 then p x + (k + 20000) else (pr x).toInt) + (f98 a).toInt
        rw [hlo x qx, hlo y qy]
        have := (ho.1 (by rw [← hs]; exact h1) trivial).2
        omega
      · show (if pr y = 536870912 then p y + (k + 20000) else (pr y).toInt) ≤ (if pr x = 536870912 then p x + (k + 20000) else (pr x).toInt) + (f98 a).toInt
        rw [hlo x qx, hhi y qy]
        have := (hb y hy).2 qy
        omega
    · have h2 := hn.1 h1 ⟨hx, qx⟩
      show (if pr y = 536870912 then p y + (k + 20000) else (pr y).toInt) ≤ (if pr x = 536870912 then p x + (k + 20000) else (pr x).toInt) + (f98 a).toInt
      rw [hhi x qx, hhi y h2.1.2]
      exact h2.2
  · by_cases qy : pr y = 536870912
    · have hs := hsame (fun h => h.2 qy)
      by_cases qx : pr x = 536870912
      · show (if pr x = 536870912 then p x + (k + 20000) else (pr x).toInt) ≤ (if pr y = 536870912 then p y + (k + 20000) else (pr y).toInt) - (f98 a).toInt
        rw [hlo x qx, hlo y qy]
        have := (ho.2 (by rw [← hs]; exact h1) trivial).2
        omega
      · show (if pr x = 536870912 then p x + (k + 20000) else (pr x).toInt) ≤ (if pr y = 536870912 then p y + (k + 20000) else (pr y).toInt) - (f98 a).toInt
        rw [hhi x qx, hlo y qy]
        have := (hb x hx).2 qx
        omega
    · have h2 := hn.2 h1 ⟨hy, qy⟩
      show (if pr x = 536870912 then p x + (k + 20000) else (pr x).toInt) ≤ (if pr y = 536870912 then p y + (k + 20000) else (pr y).toInt) - (f98 a).toInt
      rw [hhi x h2.1.2, hhi y qy]
      exact h2.2
/-- costs, and differences of a potential, over a flow -/
def csA (d : NtD) (fl : Nat → Int) : Nat → Int
  | 0 => 0
  | m + 1 => csA d fl m + fl m * tCo d m
def psA (d : NtD) (fl p : Nat → Int) : Nat → Int
  | 0 => 0
  | m + 1 => psA d fl p m + fl m * (p (tTo d m) - p (tFr d m))
theorem psA_same {d : NtD} {fl p q : Nat → Int} : ∀ {m : Nat}, (∀ a, a < m → p (tTo d a) = q (tTo d a) ∧ p (tFr d a) = q (tFr d a)) → psA d fl p m = psA d fl q m := by
  intro m
  induction m with
  | zero => intro _; rfl
  | succ m ih =>
    intro h
    have h9 := h m (by omega)
    show psA d fl p m + fl m * (p (tTo d m) - p (tFr d m)) = psA d fl q m + fl m * (q (tTo d m) - q (tFr d m))
    rw [ih (fun a ha => h a (by omega)), h9.1, h9.2]
/-- one node more -/
theorem psA_add {d : NtD} {fl p q : Nat → Int} {n : Nat} {k : Int} : ∀ {m : Nat}, (∀ x, q x = p x + (if x = n then k else 0)) → psA d fl q m = psA d fl p m + k * psA d fl (fun x => if x = n then 1 else 0) m := by
  intro m h
  induction m with
  | zero => show (0 : Int) = 0 + k * 0; rw [Int.mul_zero]; rfl
  | succ m ih =>
    show psA d fl q m + fl m * (q (tTo d m) - q (tFr d m)) = psA d fl p m + fl m * (p (tTo d m) - p (tFr d m)) + k * (psA d fl (fun x => if x = n then 1 else 0) m + fl m * ((if tTo d m = n then 1 else 0) - (if tFr d m = n then 1 else 0)))
    rw [ih, h, h, Int.mul_add]
    have e : fl m * (p (tTo d m) + (if tTo d m = n then k else 0) - (p (tFr d m) + (if tFr d m = n then k else 0))) = fl m * (p (tTo d m) - p (tFr d m)) + k * (fl m * ((if tTo d m = n then 1 else 0) - (if tFr d m = n then 1 else 0))) := by
      have e1 : (p (tTo d m) + (if tTo d m = n then k else 0) - (p (tFr d m) + (if tFr d m = n then k else 0))) = (p (tTo d m) - p (tFr d m)) + k * ((if tTo d m = n then 1 else 0) - (if tFr d m = n then 1 else 0)) := by
        by_cases q1 : tTo d m = n
        · by_cases q2 : tFr d m = n
          · rw [if_pos q1, if_pos q2, if_pos q1, if_pos q2]; rw [show ((1 : Int) - 1) = 0 from rfl, Int.mul_zero]; omega
          · rw [if_pos q1, if_neg q2, if_pos q1, if_neg q2]; rw [show ((1 : Int) - 0) = 1 from rfl, Int.mul_one]; omega
        · by_cases q2 : tFr d m = n
          · rw [if_neg q1, if_pos q2, if_neg q1, if_pos q2]; rw [show ((0 : Int) - 1) = -1 from rfl, Int.mul_neg, Int.mul_one]; omega
          · rw [if_neg q1, if_neg q2, if_neg q1, if_neg q2]; rw [show ((0 : Int) - 0) = 0 from rfl, Int.mul_zero]; omega
      rw [e1, Int.mul_add, Int.mul_left_comm]
    rw [e]
    omega
/-- a single node: out of what is told of every set -/
theorem psA_one {d : NtD} {fl : Nat → Int} {n : Nat} : ∀ {m : Nat}, psA d fl (fun x => if x = n then 1 else 0) m = rsA d fl (fun x => decide (x = n)) m - cpA d (fun x => decide (x = n)) m := by
  intro m
  induction m with
  | zero => rfl
  | succ m ih =>
    show psA d fl (fun x => if x = n then 1 else 0) m + fl m * ((if tTo d m = n then 1 else 0) - (if tFr d m = n then 1 else 0)) = (rsA d fl (fun x => decide (x = n)) m + rsB (decide (tFr d m = n)) (decide (tTo d m = n)) (tRo d m) (fl m)) - (cpA d (fun x => decide (x = n)) m + rsB (decide (tFr d m = n)) (decide (tTo d m = n)) (tRo d m) 0)
    rw [ih]
    have e : fl m * ((if tTo d m = n then 1 else 0) - (if tFr d m = n then 1 else 0)) = rsB (decide (tFr d m = n)) (decide (tTo d m = n)) (tRo d m) (fl m) - rsB (decide (tFr d m = n)) (decide (tTo d m = n)) (tRo d m) 0 := by
      by_cases q1 : tTo d m = n
      · by_cases q2 : tFr d m = n
        · rw [if_pos q1, if_pos q2, decide_eq_true q1, decide_eq_true q2]
          show fl m * (1 - 1) = 0 - 0
          rw [show ((1 : Int) - 1) = 0 from rfl, Int.mul_zero]; rfl
        · rw [if_pos q1, if_neg q2, decide_eq_true q1, decide_eq_false q2]
          show fl m * (1 - 0) = fl m - 0
          rw [show ((1 : Int) - 0) = 1 from rfl, Int.mul_one]; omega
      · by_cases q2 : tFr d m = n
        · rw [if_neg q1, if_pos q2, decide_eq_false q1, decide_eq_true q2]
          show fl m * (0 - 1) = (tRo d m - fl m) - (tRo d m - 0)
          rw [show ((0 : Int) - 1) = -1 from rfl, Int.mul_neg, Int.mul_one]; omega
        · rw [if_neg q1, if_neg q2, decide_eq_false q1, decide_eq_false q2]
          show fl m * (0 - 0) = 0 - 0
          rw [show ((0 : Int) - 0) = 0 from rfl, Int.mul_zero] <;> rfl
    rw [e]
    omega
/-- for every potential -/
theorem rsI.pot {d : NtD} {s t m : Nat} {fl : Nat → Int} {v : Int} (h : rsI d s t fl v m) (hs : s < 12) (ht : t < 12) (hv : ∀ a, a < m → tFr d a < 12 ∧ tTo d a < 12) (p : Nat → Int) : psA d fl p m = v * (p t - p s) := by
  have key : ∀ k : Nat, psA d fl (fun x => if x < k then p x else 0) m = v * ((if t < k then p t else 0) - (if s < k then p s else 0)) := by
    intro k
    induction k with
    | zero =>
      rw [if_neg (Nat.not_lt_zero t), if_neg (Nat.not_lt_zero s)]
      have h0 : ∀ m, psA d fl (fun x => if x < 0 then p x else 0) m = 0 := by
        intro m
        induction m with
        | zero => rfl
        | succ m ih =>
          show psA d fl (fun x => if x < 0 then p x else 0) m + fl m * ((if tTo d m < 0 then p (tTo d m) else 0) - (if tFr d m < 0 then p (tFr d m) else 0)) = 0
          rw [ih, if_neg (Nat.not_lt_zero _), if_neg (Nat.not_lt_zero _), show ((0 : Int) - 0) = 0 from rfl, Int.mul_zero]
          rfl
      rw [h0, show ((0 : Int) - 0) = 0 from rfl, Int.mul_zero]
    | succ k ih =>
      rw [psA_add (p := fun x => if x < k then p x else 0) (n := k) (k := p k) (fun x => by
        show (if x < k + 1 then p x else 0) = (if x < k then p x else 0) + (if x = k then p k else 0)
        by_cases q1 : x = k
        · rw [if_pos (by omega), if_neg (by omega), if_pos q1, q1]; omega
        · by_cases q2 : x < k
          · rw [if_pos (by omega), if_pos q2, if_neg q1]; omega
          · rw [if_neg (by omega), if_neg q2, if_neg q1]; rfl), ih, psA_one, h (fun x => decide (x = k))]
      have e : ∀ n, (if n < k + 1 then p n else 0) = (if n < k then p n else 0) + (if n = k then p k else 0) := fun n => by
        by_cases q1 : n = k
        · rw [if_pos (by omega), if_neg (by omega), if_pos q1, q1]; omega
        · by_cases q2 : n < k
          · rw [if_pos (by omega), if_pos q2, if_neg q1]; omega
          · rw [if_neg (by omega), if_neg q2, if_neg q1]; rfl
      rw [e t, e s]
      have es : ∀ n, sW (fun x => decide (x = k)) n v = if n = k then v else 0 := fun n => by
        by_cases q1 : n = k
        · rw [if_pos q1]; exact sW_in (decide_eq_true q1) v
        · rw [if_neg q1]; exact sW_out (decide_eq_false q1) v
      rw [es, es]
      have e2 : ∀ A B : Int, cpA d (fun x => decide (x = k)) m - (A - B) - cpA d (fun x => decide (x = k)) m = B - A := fun A B => by omega
      rw [e2]
      have e3 : ∀ n, p k * (if n = k then v else 0) = v * (if n = k then p k else 0) := fun n => by
        by_cases q1 : n = k
        · rw [if_pos q1, if_pos q1, Int.mul_comm]
        · rw [if_neg q1, if_neg q1, Int.mul_zero, Int.mul_zero]
      rw [Int.mul_sub (p k), e3, e3, ← Int.mul_sub, ← Int.mul_add]
      congr 1
      omega
  have h12 := key 12
  rw [if_pos ht, if_pos hs] at h12
  rw [← h12]
  exact psA_same (fun a ha => by
    have h9 := hv a ha
    show p (tTo d a) = (if tTo d a < 12 then p (tTo d a) else 0) ∧ p (tFr d a) = (if tFr d a < 12 then p (tFr d a) else 0)
    rw [if_pos h9.1, if_pos h9.2]
    exact ⟨rfl, rfl⟩)
def PoF (d : NtD) (fl p : Nat → Int) (m : Nat) : Prop := ∀ a, a < m → (fl a < tRo d a → p (tTo d a) ≤ p (tFr d a) + tCo d a) ∧ (0 < fl a → p (tFr d a) ≤ p (tTo d a) - tCo d a)
theorem PoF.le {d : NtD} {x y p : Nat → Int} : ∀ {m : Nat}, PoF d x p m → (∀ a, a < m → 0 ≤ x a ∧ x a ≤ tRo d a) → (∀ a, a < m → 0 ≤ y a ∧ y a ≤ tRo d a) → csA d x m - psA d x p m ≤ csA d y m - psA d y p m := by
  intro m
  induction m with
  | zero => intro _ _ _; exact Int.le_refl _
  | succ m ih =>
    intro h hx hy
    have h1 := ih (fun a ha => h a (by omega)) (fun a ha => hx a (by omega)) (fun a ha => hy a (by omega))
    have h2 := h m (by omega)
    have bx := hx m (by omega)
    have bY := hy m (by omega)
    show csA d x m + x m * tCo d m - (psA d x p m + x m * (p (tTo d m) - p (tFr d m))) ≤ csA d y m + y m * tCo d m - (psA d y p m + y m * (p (tTo d m) - p (tFr d m)))
    have key : x m * tCo d m - x m * (p (tTo d m) - p (tFr d m)) ≤ y m * tCo d m - y m * (p (tTo d m) - p (tFr d m)) := by
      rw [← Int.mul_sub, ← Int.mul_sub]
      generalize hr : tCo d m - (p (tTo d m) - p (tFr d m)) = r
      rcases Int.lt_trichotomy r 0 with q | q | q
      · have e : x m = tRo d m := Classical.byContradiction (fun e9 => by have := h2.1 (by omega); omega)
        rw [e]
        have h3 : y m ≤ tRo d m := bY.2
        exact Int.mul_le_mul_of_nonpos_right h3 (by omega)
      · rw [q, Int.mul_zero, Int.mul_zero]
        exact Int.le_refl _
      · have e : x m = 0 := Classical.byContradiction (fun e9 => by have := h2.2 (by omega); omega)
        rw [e, Int.zero_mul]
        exact Int.mul_nonneg bY.1 (by omega)
    omega
/-- the answer of cheapest -/
def mnC (d : NtD) (s t : Nat) (am r : Int) : Prop := (am < 0 ∧ r = -1) ∨ (0 ≤ am ∧ r = -1 ∧ ∃ q, mxF d s t q ∧ q < am) ∨ (0 ≤ am ∧ ∃ fl p, (∀ a, a < d.1.toNat → 0 ≤ fl a ∧ fl a ≤ tRo d a) ∧ rsI d s t fl am d.1.toNat ∧ PoF d fl p d.1.toNat ∧ r = csA d fl d.1.toNat)
theorem mnC.eq {d : NtD} {s t : Nat} {am r q : Int} (hs : s < 12) (ht : t < 12) (hd : tVal d) (h : mnC d s t am r) (h2 : mnC d s t am q) : r = q := by
  have hv : ∀ a, a < d.1.toNat → tFr d a < 12 ∧ tTo d a < 12 := fun a ha => by
    have h9 := hd a (by omega)
    exact ⟨h9.1, h9.2.1⟩
  have no : ∀ {fl : Nat → Int}, (∀ a, a < d.1.toNat → 0 ≤ fl a ∧ fl a ≤ tRo d a) → rsI d s t fl am d.1.toNat → (∃ q, mxF d s t q ∧ q < am) → False := fun hf hI ⟨q, ⟨⟨R, hR, e⟩, _⟩, hq⟩ => by
    have := hI.le hf hR
    omega
  rcases h with ⟨a1, a2⟩ | ⟨a1, a2, a3⟩ | ⟨a1, fl, p, a2, a3, a4, a5⟩
  · rcases h2 with ⟨b1, b2⟩ | ⟨b1, b2, b3⟩ | ⟨b1, gl, p2, b2, b3, b4, b5⟩
    · omega
    · omega
    · omega
  · rcases h2 with ⟨b1, b2⟩ | ⟨b1, b2, b3⟩ | ⟨b1, gl, p2, b2, b3, b4, b5⟩
    · omega
    · omega
    · exact (no b2 b3 a3).elim
  · rcases h2 with ⟨b1, b2⟩ | ⟨b1, b2, b3⟩ | ⟨b1, gl, p2, b2, b3, b4, b5⟩
    · omega
    · exact (no a2 a3 b3).elim
    · have h3 := PoF.le a4 a2 b2
      have h4 := PoF.le b4 b2 a2
      rw [a3.pot hs ht hv p, b3.pot hs ht hv p] at h3
      rw [a3.pot hs ht hv p2, b3.pot hs ht hv p2] at h4
      omega
theorem PoO.f {f95 f96 f97 f98 f99 : Nat → Int32} {ar : Nat} {p : Nat → Int} (hA : ArO f95 f96 f97 f98 ar) (h : PoO f95 f96 f97 f98 f99 ar (fun _ => True) p) : PoF (((ar : Nat) : Int), f95, f96, f97, f98) (fI f99) p ar := by
  intro a ha
  obtain ⟨x, y, hx, hy, hxy, ex, ey, hr, hc⟩ := hA a ha
  have h9 := h a x y ha hx hy ex ey
  rw [tFr_nI (d := (((ar : Nat) : Int), f95, f96, f97, f98)) hx ex, tTo_nI (d := (((ar : Nat) : Int), f95, f96, f97, f98)) hy ey]
  exact ⟨fun h1 => (h9.1 h1 trivial).2, fun h1 => (h9.2 h1 trivial).2⟩
theorem mul_i {x y : Int32} {k : Int} (h : x.toInt * y.toInt = k) (h0 : -2147483648 ≤ k) (h1 : k < 2147483648) : (x * y).toInt = k := by
  have e : x * y = Int32.ofInt (x.toInt * y.toInt) := by rw [Int32.ofInt_mul, Int32.ofInt_toInt, Int32.ofInt_toInt]
  rw [e, h]
  exact Int32.toInt_ofInt_of_le h0 h1
theorem csA.step {d : NtD} {fl : Nat → Int} {m : Nat} {n g c : Int32} (h : n.toInt = csA d fl m ∧ 0 ≤ n.toInt ∧ n.toInt ≤ 1000000 * (m : Int)) (hm : m < 40) (hg : g.toInt = fl m) (hc : c.toInt = tCo d m) (bg : 0 ≤ g.toInt ∧ g.toInt ≤ 1000) (bc : 0 ≤ c.toInt ∧ c.toInt ≤ 1000) : (n + g * c).toInt = csA d fl (m + 1) ∧ 0 ≤ (n + g * c).toInt ∧ (n + g * c).toInt ≤ 1000000 * ((m + 1 : Nat) : Int) := by
  have h1 : 0 ≤ g.toInt * c.toInt := Int.mul_nonneg bg.1 bc.1
  have h2 : g.toInt * c.toInt ≤ 1000 * 1000 := Int.mul_le_mul bg.2 bc.2 bc.1 (by decide)
  have e := mul_i (x := g) (y := c) (k := g.toInt * c.toInt) rfl (by omega) (by omega)
  have e2 : (n + g * c).toInt = n.toInt + g.toInt * c.toInt := by
    rw [addB (by omega) (by rw [e]; omega), e]
  have e3 : csA d fl (m + 1) = csA d fl m + fl m * tCo d m := rfl
  rw [e2, e3, ← hg, ← hc]
  omega
theorem mnC.none {f95 f96 f97 f98 f99 : Nat → Int32} {ar sN tN : Nat} {v am r : Int} (hF : FlO f97 f99 ar) (h : rsI (((ar : Nat) : Int), f95, f96, f97, f98) sN tN (fI f99) v ar) (hE : v < am → ∃ R, sep sN tN R ∧ flC (((ar : Nat) : Int), f95, f96, f97, f98) (fI f99) R ar) (ha : 0 ≤ am) (hl : v < am) (hr : r = -1) : mnC (((ar : Nat) : Int), f95, f96, f97, f98) sN tN am r := by
  obtain ⟨R, hR, hc⟩ := hE hl
  exact Or.inr (Or.inl ⟨ha, hr, v, rsI.max (fl := fI f99) h (FlO.ro hF) hR hc, hl⟩)
theorem mnC.some {f95 f96 f97 f98 f99 : Nat → Int32} {ar sN tN : Nat} {v am r : Int} (hA : ArO f95 f96 f97 f98 ar) (hF : FlO f97 f99 ar) (h : rsI (((ar : Nat) : Int), f95, f96, f97, f98) sN tN (fI f99) v ar) (hp : ∃ p, PoO f95 f96 f97 f98 f99 ar (fun _ => True) p) (ha : 0 ≤ am) (hv : v = am) (hr : r = csA (((ar : Nat) : Int), f95, f96, f97, f98) (fI f99) ar) : mnC (((ar : Nat) : Int), f95, f96, f97, f98) sN tN am r := by
  obtain ⟨p, hp⟩ := hp
  rw [hv] at h
  exact Or.inr (Or.inr ⟨ha, fI f99, p, FlO.ro hF, h, PoO.f hA hp, hr⟩)

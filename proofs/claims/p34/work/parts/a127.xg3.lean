/-! the cheapest flow: the class's push -/
/-- the arc over which a node was come to, the node before it, and what is left on the arc -/
def qA (bef : Nat → Int32) (n : Nat) : Nat := if (bef n).toInt < 40 then (bef n).toInt.toNat else ((bef n).toInt - 40).toNat
def qU (f95 f96 bef : Nat → Int32) (n : Nat) : Nat := if (bef n).toInt < 40 then (f95 (qA bef n)).toInt.toNat else (f96 (qA bef n)).toInt.toNat
def qR (f97 f99 bef : Nat → Int32) (n : Nat) : Int := if (bef n).toInt < 40 then (f97 (qA bef n)).toInt - (f99 (qA bef n)).toInt else (f99 (qA bef n)).toInt
def qS (bef : Nat → Int32) (n : Nat) (k : Int) : Int := if (bef n).toInt < 40 then k else -k
def qIt (f95 f96 bef : Nat → Int32) (t : Nat) : Nat → Nat
  | 0 => t
  | k + 1 => qU f95 f96 bef (qIt f95 f96 bef t k)
theorem TrK.cls {f95 f96 f97 f98 f99 pr bef : Nat → Int32} {ar sN : Nat} {rk : Nat → Nat} (hT : TrK f95 f96 f97 f98 f99 ar sN pr (fun w => enB (bef w)) rk) (hb : ∀ q : Nat, 0 ≤ (bef q).toInt ∧ (bef q).toInt ≤ 79) {n : Nat} (hn : n < 12) (hl : pr n ≠ 536870912) (hs : n ≠ sN) : ∃ c, Lk f95 f96 f97 f98 f99 ar (enB (bef n)) n (qU f95 f96 bef n) (qA bef n) c ∧ qU f95 f96 bef n < 12 ∧ pr (qU f95 f96 bef n) ≠ 536870912 ∧ (pr (qU f95 f96 bef n)).toInt + c ≤ (pr n).toInt ∧ rk (qU f95 f96 bef n) < rk n ∧ 1 ≤ qR f97 f99 bef n ∧ c = qS bef n (f98 (qA bef n)).toInt := by
  obtain ⟨u, a, c, g1, g2, ⟨g3, g4⟩, g5, g6, g7⟩ := hT n hn hl hs
  have hx := hb n
  rcases g4 with ⟨j1, j2, j3, j4, j5⟩ | ⟨j1, j2, j3, j4, j5⟩
  · have h40 : (bef n).toInt < 40 := Classical.byContradiction (fun h9 => by
      have e : (enB (bef n)).toInt = -((((bef n).toInt - 40).toNat : Int) + 1) ∨ ¬ (bef n).toInt < 80 := by
        by_cases h8 : (bef n).toInt < 80
        · exact Or.inl (enB_b (by omega) (by omega))
        · exact Or.inr h8
      have j1' : (enB (bef n)).toInt = (a : Int) + 1 := j1
      omega)
    have ea : qA bef n = a := by
      unfold qA
      rw [if_pos h40]
      have e := enB_f (x := bef n) (a := (bef n).toInt.toNat) (by omega) (by omega)
      have j1' : (enB (bef n)).toInt = (a : Int) + 1 := j1
      omega
    have eu : qU f95 f96 bef n = u := by
      unfold qU
      rw [if_pos h40, ea, j2, nI_toInt (by omega)]
      omega
    refine ⟨c, ?_, by rw [eu]; exact g1, by rw [eu]; exact g5, by rw [eu]; exact g6, by rw [eu]; exact g7, ?_, ?_⟩
    · rw [ea, eu]
      exact ⟨g3, Or.inl ⟨j1, j2, j3, j4, j5⟩⟩
    · unfold qR
      rw [if_pos h40, ea]
      omega
    · unfold qS
      rw [if_pos h40, ea]
      exact j5
  · have h40 : ¬ (bef n).toInt < 40 := fun h9 => by
      have e := enB_f (x := bef n) (a := (bef n).toInt.toNat) (by omega) (by omega)
      have j1' : (enB (bef n)).toInt = -((a : Int) + 1) := j1
      omega
    have ea : qA bef n = a := by
      unfold qA
      rw [if_neg h40]
      have e := enB_b (x := bef n) (a := ((bef n).toInt - 40).toNat) (by omega) (by omega)
      have j1' : (enB (bef n)).toInt = -((a : Int) + 1) := j1
      omega
    have eu : qU f95 f96 bef n = u := by
      unfold qU
      rw [if_neg h40, ea, j2, nI_toInt (by omega)]
      omega
    refine ⟨c, ?_, by rw [eu]; exact g1, by rw [eu]; exact g5, by rw [eu]; exact g6, by rw [eu]; exact g7, ?_, ?_⟩
    · rw [ea, eu]
      exact ⟨g3, Or.inr ⟨j1, j2, j3, j4, j5⟩⟩
    · unfold qR
      rw [if_neg h40, ea]
      omega
    · unfold qS
      rw [if_neg h40, ea]
      exact j5
def qV (rk : Nat → Nat) (n : Nat) : Nat := cntB (fun q => decide (rk q < rk n)) 12
theorem qV_lt {rk : Nat → Nat} {u n : Nat} (hu : u < 12) (h : rk u < rk n) : qV rk u < qV rk n := by
  have q3 := cntB_lt (p := fun q => decide (rk q < rk u)) (q := fun q => decide (rk q < rk n)) (n := 12) (i := u) (fun q _ h9 => decide_eq_true (by have := of_decide_eq_true h9; omega)) hu (decide_eq_false (Nat.lt_irrefl _)) (decide_eq_true h)
  exact q3
theorem qV_le {rk : Nat → Nat} {n : Nat} (hn : n < 12) : qV rk n ≤ 11 := by
  have q2 := cntB_miss (p := fun q => decide (rk q < rk n)) (n := 12) (i := n) hn (decide_eq_false (Nat.lt_irrefl _))
  have e : qV rk n = cntB (fun q => decide (rk q < rk n)) 12 := rfl
  omega
/-- the way back is measured -/
def Qk1 (f95 f96 f97 f99 pr bef : Nat → Int32) (rk : Nat → Nat) (t : Nat) (mo : Int) (i n : Nat) (w : Int) : Prop := n = qIt f95 f96 bef t i ∧ n < 12 ∧ pr n ≠ 536870912 ∧ qV rk n + i ≤ 11 ∧ 1 ≤ w ∧ w ≤ mo ∧ ∀ k, k < i → w ≤ qR f97 f99 bef (qIt f95 f96 bef t k)
theorem Qk1.start {f95 f96 f97 f99 pr bef : Nat → Int32} {rk : Nat → Nat} {t i n : Nat} {mo w : Int} (ht : t < 12) (hl : pr t ≠ 536870912) (hi : i = 0) (hn : n = t) (hw : w = mo) (hm : 1 ≤ mo) : Qk1 f95 f96 f97 f99 pr bef rk t mo i n w := by
  subst hi hn hw
  have := qV_le (rk := rk) ht
  exact ⟨rfl, ht, hl, by omega, hm, Int.le_refl _, fun k hk => absurd hk (Nat.not_lt_zero k)⟩
theorem Qk1.step {f95 f96 f97 f98 f99 pr bef : Nat → Int32} {rk : Nat → Nat} {ar sN t i i2 n n2 : Nat} {mo w w2 : Int} (h : Qk1 f95 f96 f97 f99 pr bef rk t mo i n w) (hT : TrK f95 f96 f97 f98 f99 ar sN pr (fun w => enB (bef w)) rk) (hb : ∀ q : Nat, 0 ≤ (bef q).toInt ∧ (bef q).toInt ≤ 79) (hs : n ≠ sN) (hn : n2 = qU f95 f96 bef n) (hi : i2 = i + 1) (h1 : w2 ≤ w) (h2 : w2 ≤ qR f97 f99 bef n) (h3 : w2 = w ∨ w2 = qR f97 f99 bef n) : Qk1 f95 f96 f97 f99 pr bef rk t mo i2 n2 w2 := by
  obtain ⟨b1, b2, b3, b4, b5, b6, b7⟩ := h
  obtain ⟨c, g1, g2, g3, g4, g5, g6, g7⟩ := hT.cls hb b2 b3 hs
  have h4 := qV_lt g2 g5
  subst hi hn
  refine ⟨?_, g2, g3, by omega, by omega, by omega, fun k hk => ?_⟩
  · show qU f95 f96 bef n = qU f95 f96 bef (qIt f95 f96 bef t i)
    rw [← b1]
  · by_cases e : k = i
    · rw [e, ← b1]; exact h2
    · have := b7 k (by omega)
      omega
/-- the way back is used -/
def Qk2 (d : NtD) (f95 f96 f97 f98 f99 g99 pr bef : Nat → Int32) (rk : Nat → Nat) (ar sN t : Nat) (w : Int) (I0 i n : Nat) : Prop := n = qIt f95 f96 bef t i ∧ n < 12 ∧ pr n ≠ 536870912 ∧ qV rk n + i ≤ 11 ∧ i ≤ I0 ∧ FlO f97 g99 ar ∧ (∀ S, rsA d (fI g99) S ar = rsA d (fI f99) S ar - (sW S n w - sW S t w)) ∧ (∀ a, a < ar → g99 a = f99 a ∨ ∃ m, m < 12 ∧ pr m ≠ 536870912 ∧ m ≠ sN ∧ ((enB (bef m)).toInt = (a : Int) + 1 ∨ (enB (bef m)).toInt = -((a : Int) + 1))) ∧ (∀ m, m < 12 → pr m ≠ 536870912 → m ≠ sN → rk m ≤ rk n → g99 (qA bef m) = f99 (qA bef m)) ∧ csA d (fI g99) ar = csA d (fI f99) ar + w * ((pr t).toInt - (pr n).toInt)
theorem Qk2.start {d : NtD} {f95 f96 f97 f98 f99 pr bef : Nat → Int32} {rk : Nat → Nat} {ar sN t I0 i n : Nat} {w : Int} (hF : FlO f97 f99 ar) (ht : t < 12) (hl : pr t ≠ 536870912) (hi : i = 0) (hn : n = t) : Qk2 d f95 f96 f97 f98 f99 f99 pr bef rk ar sN t w I0 i n := by
  subst hi hn
  have := qV_le (rk := rk) ht
  refine ⟨rfl, ht, hl, by omega, Nat.zero_le _, hF, fun S => by omega, fun a _ => Or.inl rfl, fun _ _ _ _ _ => rfl, ?_⟩
  rw [show (pr n).toInt - (pr n).toInt = 0 from by omega, Int.mul_zero]
  omega
theorem csA_same {d : NtD} {fl gl : Nat → Int} : ∀ {m : Nat}, (∀ a, a < m → gl a = fl a) → csA d gl m = csA d fl m := by
  intro m
  induction m with
  | zero => intro _; rfl
  | succ m ih =>
    intro h
    show csA d gl m + gl m * tCo d m = csA d fl m + fl m * tCo d m
    rw [ih (fun a ha => h a (by omega)), h m (by omega)]
theorem csA_put {d : NtD} {fl gl : Nat → Int} {a : Nat} {k : Int} : ∀ {m : Nat}, a < m → gl a = fl a + k → (∀ b, b ≠ a → gl b = fl b) → csA d gl m = csA d fl m + k * tCo d a := by
  intro m
  induction m with
  | zero => intro h; exact absurd h (Nat.not_lt_zero a)
  | succ m ih =>
    intro ha h1 h2
    show csA d gl m + gl m * tCo d m = csA d fl m + fl m * tCo d m + k * tCo d a
    by_cases e : a = m
    · subst e
      rw [csA_same (fun b hb => h2 b (by omega)), h1, Int.add_mul]
      omega
    · rw [ih (by omega) h1 h2, h2 m (Ne.symm e)]
      omega
theorem Qk2.step {f95 f96 f97 f98 f99 g99 k99 pr bef : Nat → Int32} {rk : Nat → Nat} {ar sN t I0 i i2 n n2 m : Nat} {mo w : Int} {y : Int32} (h : Qk2 (((ar : Nat) : Int), f95, f96, f97, f98) f95 f96 f97 f98 f99 g99 pr bef rk ar sN t w I0 i n) (hA : ArO f95 f96 f97 f98 ar) (hT : TrK f95 f96 f97 f98 f99 ar sN pr (fun w => enB (bef w)) rk) (hC : PrC f95 f96 f97 f98 f99 ar pr) (hF : FlO f97 f99 ar) (hb : ∀ q : Nat, 0 ≤ (bef q).toInt ∧ (bef q).toInt ≤ 79) (h1 : Qk1 f95 f96 f97 f99 pr bef rk t mo I0 m w) (hm : m = sN) (hs : n ≠ sN) (hn : n2 = qU f95 f96 bef n) (hi : i2 = i + 1) (hk : k99 = upd g99 (qA bef n) y) (hy : y.toInt = (g99 (qA bef n)).toInt + qS bef n w) : Qk2 (((ar : Nat) : Int), f95, f96, f97, f98) f95 f96 f97 f98 f99 k99 pr bef rk ar sN t w I0 i2 n2 := by
  obtain ⟨b1, b2, b3, b4, b5, b6, b7, b8, b9, b10⟩ := h
  obtain ⟨c, g1, g2, g3, g4, g5, g6, g7⟩ := hT.cls hb b2 b3 hs
  have hq := qV_lt g2 g5
  have hi9 : i ≠ I0 := fun e9 => hs (by rw [b1, e9, ← h1.1, hm])
  have hw := h1.2.2.2.2.2.2 i (by omega)
  rw [← b1] at hw
  have hw1 := h1.2.2.2.2.1
  have hun := b9 n b2 b3 hs (Nat.le_refl _)
  have ha := g1.1
  have hfa := hF (qA bef n) ha
  have hk1 : k99 (qA bef n) = y := by rw [hk]; exact if_pos rfl
  have hk2 : ∀ a, a ≠ qA bef n → k99 a = g99 a := fun a h9 => by rw [hk]; exact if_neg h9
  subst hi hn
  have tight : (pr n).toInt = (pr (qU f95 f96 bef n)).toInt + c := by
    obtain ⟨_, l2⟩ := g1
    rcases l2 with ⟨j1, j2, j3, j4, j5⟩ | ⟨j1, j2, j3, j4, j5⟩
    · have h9 := (hC (qA bef n) (qU f95 f96 bef n) n ha g2 b2 j2 j3).1 j4 g3
      omega
    · have h9 := (hC (qA bef n) n (qU f95 f96 bef n) ha b2 g2 j3 j2).2 j4 g3
      omega
  refine ⟨?_, g2, g3, by omega, by omega, ?_, ?_, ?_, ?_, ?_⟩
  · show qU f95 f96 bef n = qU f95 f96 bef (qIt f95 f96 bef t i)
    rw [← b1]
  · intro a h9
    by_cases e : a = qA bef n
    · rw [e, hk1, hy, hun]
      by_cases q : (bef n).toInt < 40
      · have e1 : qS bef n w = w := if_pos q
        have e2 : qR f97 f99 bef n = (f97 (qA bef n)).toInt - (f99 (qA bef n)).toInt := if_pos q
        omega
      · have e1 : qS bef n w = -w := if_neg q
        have e2 : qR f97 f99 bef n = (f99 (qA bef n)).toInt := if_neg q
        omega
    · rw [hk2 a e]; exact b6 a h9
  · intro S
    rw [rsA_put (fl := fI g99) (gl := fI k99) (a := qA bef n) (k := qS bef n w) ha (by show (k99 (qA bef n)).toInt = (g99 (qA bef n)).toInt + qS bef n w; rw [hk1, hy]) (fun b h9 => by show (k99 b).toInt = (g99 b).toInt; rw [hk2 b h9]), b7 S]
    obtain ⟨_, l2⟩ := g1
    by_cases q : (bef n).toInt < 40
    · have e1 : qS bef n w = w := if_pos q
      rcases l2 with ⟨j1, j2, j3, j4, j5⟩ | ⟨j1, j2, j3, j4, j5⟩
      · rw [tFr_nI (d := (((ar : Nat) : Int), f95, f96, f97, f98)) g2 j2, tTo_nI (d := (((ar : Nat) : Int), f95, f96, f97, f98)) b2 j3, e1]
        omega
      · have e := enB_f (x := bef n) (a := (bef n).toInt.toNat) (by have := hb n; omega) (by omega)
        omega
    · have e1 : qS bef n w = -w := if_neg q
      rcases l2 with ⟨j1, j2, j3, j4, j5⟩ | ⟨j1, j2, j3, j4, j5⟩
      · have e := enB_b (x := bef n) (a := ((bef n).toInt - 40).toNat) (by omega) (by have := hb n; omega)
        omega
      · rw [tFr_nI (d := (((ar : Nat) : Int), f95, f96, f97, f98)) b2 j3, tTo_nI (d := (((ar : Nat) : Int), f95, f96, f97, f98)) g2 j2, e1, sW_neg, sW_neg]
        omega
  · intro a h9
    by_cases e : a = qA bef n
    · refine Or.inr ⟨n, b2, b3, hs, ?_⟩
      obtain ⟨_, l2⟩ := g1
      rcases l2 with ⟨j1, _⟩ | ⟨j1, _⟩
      · rw [e]; exact Or.inl j1
      · rw [e]; exact Or.inr j1
    · rw [hk2 a e]; exact b8 a h9
  · intro q hq1 hq2 hq3 hq4
    rw [hk2 _ (fun e => by
      obtain ⟨c9, k1, k2, k3, k4, k5, _⟩ := hT.cls hb hq1 hq2 hq3
      rw [e] at k1
      have ew := hT.apart hq1 b2 k2 g2 k1 g1 k5 g5
      rw [ew] at hq4
      omega)]
    exact b9 q hq1 hq2 hq3 (by omega)
  · rw [csA_put (fl := fI g99) (gl := fI k99) (a := qA bef n) (k := qS bef n w) ha (by show (k99 (qA bef n)).toInt = (g99 (qA bef n)).toInt + qS bef n w; rw [hk1, hy]) (fun b h9 => by show (k99 b).toInt = (g99 b).toInt; rw [hk2 b h9]), b10]
    have e5 : qS bef n w * tCo (((ar : Nat) : Int), f95, f96, f97, f98) (qA bef n) = w * c := by
      show qS bef n w * (f98 (qA bef n)).toInt = w * c
      rw [g7]
      by_cases q : (bef n).toInt < 40
      · rw [show qS bef n w = w from if_pos q, show qS bef n (f98 (qA bef n)).toInt = (f98 (qA bef n)).toInt from if_pos q]
      · rw [show qS bef n w = -w from if_neg q, show qS bef n (f98 (qA bef n)).toInt = -(f98 (qA bef n)).toInt from if_neg q, Int.neg_mul, Int.mul_neg]
    rw [e5, show (pr t).toInt - (pr (qU f95 f96 bef n)).toInt = ((pr t).toInt - (pr n).toInt) + c from by omega, Int.mul_add]
    omega
theorem Qk2.wid {d : NtD} {f95 f96 f97 f98 f99 g99 pr bef : Nat → Int32} {rk : Nat → Nat} {ar sN t I0 i n m : Nat} {mo w : Int} (h : Qk2 d f95 f96 f97 f98 f99 g99 pr bef rk ar sN t w I0 i n) (h1 : Qk1 f95 f96 f97 f99 pr bef rk t mo I0 m w) (hm : m = sN) (hs : n ≠ sN) : w ≤ qR f97 f99 bef n := by
  obtain ⟨b1, b2, b3, b4, b5, _⟩ := h
  have hi9 : i ≠ I0 := fun e9 => hs (by rw [b1, e9, ← h1.1, hm])
  have hw := h1.2.2.2.2.2.2 i (by omega)
  rw [← b1] at hw
  exact hw
theorem csA_bd {f95 f96 f97 f98 f99 : Nat → Int32} {ar : Nat} (hA : ArO f95 f96 f97 f98 ar) (hF : FlO f97 f99 ar) : ∀ m, m ≤ ar → 0 ≤ csA (((ar : Nat) : Int), f95, f96, f97, f98) (fI f99) m ∧ csA (((ar : Nat) : Int), f95, f96, f97, f98) (fI f99) m ≤ 1000000 * (m : Int) := by
  intro m
  induction m with
  | zero => intro _; exact ⟨Int.le_refl _, Int.le_refl _⟩
  | succ m ih =>
    intro h
    have h1 := ih (by omega)
    obtain ⟨x, y, hx, hy, hxy, ex, ey, hr, hc⟩ := hA m (by omega)
    have hf := hF m (by omega)
    have e : csA (((ar : Nat) : Int), f95, f96, f97, f98) (fI f99) (m + 1) = csA (((ar : Nat) : Int), f95, f96, f97, f98) (fI f99) m + (f99 m).toInt * (f98 m).toInt := rfl
    have h2 : 0 ≤ (f99 m).toInt * (f98 m).toInt := Int.mul_nonneg hf.1 hc.1
    have h3 : (f99 m).toInt * (f98 m).toInt ≤ 1000 * 1000 := Int.mul_le_mul (by omega) hc.2 hc.1 (by decide)
    rw [e]
    omega
/-- what leastCost keeps -/
def LcI (f95 f96 f97 f98 f99 : Nat → Int32) (ar sN t : Nat) (v s : Int) : Prop := FlO f97 f99 ar ∧ rsI (((ar : Nat) : Int), f95, f96, f97, f98) sN t (fI f99) v ar ∧ (∃ R p, PoX f95 f96 f97 f98 f99 ar sN R p) ∧ (∃ p, PoO f95 f96 f97 f98 f99 ar (fun _ => True) p) ∧ s = csA (((ar : Nat) : Int), f95, f96, f97, f98) (fI f99) ar
theorem LcI.start {f95 f96 f97 f98 f99 : Nat → Int32} {ar sN t : Nat} {v s : Int} (hA : ArO f95 f96 f97 f98 ar) (h : ∀ a, a < ar → f99 a = 0) (hv : v = 0) (hs : s = 0) : LcI f95 f96 f97 f98 f99 ar sN t v s := by
  subst hv hs
  refine ⟨FlO.init (f95 := f95) (f96 := f96) (f98 := f98) hA h, rsI.start (fun a ha => by unfold fI; (try dsimp only); rw [h a ha]; decide), ⟨fun _ => True, fun _ => 0, PoO.init hA h, fun _ _ => Int.le_refl _, rfl, trivial⟩, ⟨_, PoO.init hA h⟩, ?_⟩
  have key : ∀ m, m ≤ ar → csA (((ar : Nat) : Int), f95, f96, f97, f98) (fI f99) m = 0 := by
    intro m
    induction m with
    | zero => intro _; rfl
    | succ m ih =>
      intro h9
      show csA (((ar : Nat) : Int), f95, f96, f97, f98) (fI f99) m + (f99 m).toInt * (f98 m).toInt = 0
      rw [ih (by omega), h m (by omega), show (0 : Int32).toInt = 0 from by decide, Int.zero_mul]
      rfl
  exact (key ar (Nat.le_refl _)).symm
theorem LcI.more {f95 f96 f97 f98 f99 g99 pr bef : Nat → Int32} {ar sN t : Nat} {v s v2 s2 r : Int} {rk : Nat → Nat} (h : LcI f95 f96 f97 f98 f99 ar sN t v s) (hA : ArO f95 f96 f97 f98 ar) (hs : sN < 12) (hC : PrC f95 f96 f97 f98 f99 ar pr) (hT : TrK f95 f96 f97 f98 f99 ar sN pr (fun w => enB (bef w)) rk) (h0 : (pr sN).toInt = 0) (hb : ∀ v, v < 12 → 0 ≤ (pr v).toInt ∧ (pr v).toInt ≤ 536870912 ∧ (pr v ≠ 536870912 → (pr v).toInt ≤ 11000)) (g1 : FlO f97 g99 ar) (g2 : ∀ S, rsA (((ar : Nat) : Int), f95, f96, f97, f98) (fI g99) S ar = rsA (((ar : Nat) : Int), f95, f96, f97, f98) (fI f99) S ar - (sW S sN r - sW S t r)) (g3 : ∀ a, a < ar → g99 a = f99 a ∨ ∃ m, m < 12 ∧ pr m ≠ 536870912 ∧ m ≠ sN ∧ ((enB (bef m)).toInt = (a : Int) + 1 ∨ (enB (bef m)).toInt = -((a : Int) + 1))) (g4 : csA (((ar : Nat) : Int), f95, f96, f97, f98) (fI g99) ar = csA (((ar : Nat) : Int), f95, f96, f97, f98) (fI f99) ar + r * ((pr t).toInt - (pr sN).toInt)) (hv : v2 = v + r) (hs2 : s2 = s + r * (pr t).toInt) : LcI f95 f96 f97 f98 g99 ar sN t v2 s2 := by
  obtain ⟨k1, k2, k3, k4, k5⟩ := h
  have hbb : ∀ v, v < 12 → (pr v).toInt ≤ 536870912 ∧ (pr v ≠ 536870912 → (pr v).toInt ≤ 11000) := fun v hv => ⟨(hb v hv).2.1, (hb v hv).2.2⟩
  refine ⟨g1, k2.more g2 hv, ⟨fun v => v < 12 ∧ pr v ≠ 536870912, fun v => (pr v).toInt, PoO.after hA hT hC hbb g3, fun v hv => (hb v hv.1).1, h0, hs, fun e9 => ?_⟩, PoO.all hA hT hC hbb g3 k4, ?_⟩
  · rw [e9] at h0
    exact absurd h0 (by decide)
  · rw [hs2, k5, g4, h0, show (pr t).toInt - 0 = (pr t).toInt from by omega]
theorem LcI.none {f95 f96 f97 f98 f99 pr : Nat → Int32} {ar sN t : Nat} {v s am r : Int} (h : LcI f95 f96 f97 f98 f99 ar sN t v s) (hA : ArO f95 f96 f97 f98 ar) (hC : PrC f95 f96 f97 f98 f99 ar pr) (h0 : (pr sN).toInt = 0) (hb : ∀ v, v < 12 → 0 ≤ (pr v).toInt ∧ (pr v).toInt ≤ 536870912 ∧ (pr v ≠ 536870912 → (pr v).toInt ≤ 11000)) (ht : t < 12) (hf : (pr t).toInt ≥ 536870912) (ha : 0 ≤ am) (hl : v < am) (hr : r = -1) : mnC (((ar : Nat) : Int), f95, f96, f97, f98) sN t am r :=
  mnC.none h.1 h.2.1 (fun _ => flC_end hA h.1 hC (fun v hv => ⟨(hb v hv).2.1, (hb v hv).2.2⟩) h0 ht hf) ha hl hr
theorem LcI.some {f95 f96 f97 f98 f99 : Nat → Int32} {ar sN t : Nat} {v s am : Int} (h : LcI f95 f96 f97 f98 f99 ar sN t v s) (hA : ArO f95 f96 f97 f98 ar) (ha : 0 ≤ am) (hv : v = am) : mnC (((ar : Nat) : Int), f95, f96, f97, f98) sN t am s :=
  mnC.some hA h.1 h.2.1 h.2.2.2.1 ha hv h.2.2.2.2
theorem LcI.lim {f95 f96 f97 f98 f99 : Nat → Int32} {ar sN t : Nat} {v s : Int} (h : LcI f95 f96 f97 f98 f99 ar sN t v s) (hA : ArO f95 f96 f97 f98 ar) (h40 : ar ≤ 40) (hts : t ≠ sN) : v ≤ 40000 ∧ 0 ≤ s ∧ s ≤ 40000000 := by
  have h1 := rsI.lim hA h40 h.1 hts h.2.1
  have h2 := csA_bd hA h.1 ar (Nat.le_refl _)
  have h3 := h.2.2.2.2
  omega
theorem ArO.z0 : ArO (fun _ => 0) (fun _ => 0) (fun _ => 0) (fun _ => 0) (0 : Int32).toInt.toNat := fun a ha => by
  rw [show (0 : Int32).toInt.toNat = 0 from by decide] at ha
  exact absurd ha (Nat.not_lt_zero a)

/-! flows: what is left across a set of nodes -/
def sB : Bool → Int → Int
  | true, k => k
  | false, _ => 0
def sW (S : Nat → Bool) (n : Nat) (k : Int) : Int := sB (S n) k
theorem sB_add (b : Bool) (k m : Int) : sB b (k + m) = sB b k + sB b m := by
  cases b
  · rfl
  · rfl
theorem sB_neg (b : Bool) (k : Int) : sB b (-k) = - sB b k := by
  cases b
  · rfl
  · rfl
theorem sW_add (S : Nat → Bool) (n : Nat) (k m : Int) : sW S n (k + m) = sW S n k + sW S n m := sB_add _ _ _
theorem sW_neg (S : Nat → Bool) (n : Nat) (k : Int) : sW S n (-k) = - sW S n k := sB_neg _ _
theorem sW_0 (S : Nat → Bool) (n : Nat) : sW S n 0 = 0 := by
  unfold sW
  cases S n
  · rfl
  · rfl
theorem sW_in {S : Nat → Bool} {n : Nat} (h : S n = true) (k : Int) : sW S n k = k := by
  unfold sW
  rw [h]
  rfl
theorem sW_out {S : Nat → Bool} {n : Nat} (h : S n = false) (k : Int) : sW S n k = 0 := by
  unfold sW
  rw [h]
  rfl
def tRo (d : NtD) (b : Nat) : Int := (d.2.2.2.1 b).toInt
/-- an arc's part of what is left from within a set to without -/
def rsB : Bool → Bool → Int → Int → Int
  | true, false, r, f => r - f
  | false, true, _, f => f
  | _, _, _, _ => 0
theorem rsB_add (b c : Bool) (r f k : Int) : rsB b c r (f + k) = rsB b c r f - (sB b k - sB c k) := by
  cases b
  · cases c
    · show (0 : Int) = 0 - (0 - 0)
      omega
    · show f + k = f - (0 - k)
      omega
  · cases c
    · show r - (f + k) = r - f - (k - 0)
      omega
    · show (0 : Int) = 0 - (k - k)
      omega
theorem rsB_pos (b c : Bool) {r f : Int} (h0 : 0 ≤ f) (h1 : f ≤ r) : 0 ≤ rsB b c r f := by
  cases b
  · cases c
    · exact Int.le_refl _
    · exact h0
  · cases c
    · show 0 ≤ r - f
      omega
    · exact Int.le_refl _
def rsA (d : NtD) (fl : Nat → Int) (S : Nat → Bool) : Nat → Int
  | 0 => 0
  | m + 1 => rsA d fl S m + rsB (S (tFr d m)) (S (tTo d m)) (tRo d m) (fl m)
/-- the room across a set -/
def cpA (d : NtD) (S : Nat → Bool) (m : Nat) : Int := rsA d (fun _ => 0) S m
def fI (f : Nat → Int32) : Nat → Int := fun a => (f a).toInt
theorem rsA_same {d : NtD} {S : Nat → Bool} {fl gl : Nat → Int} : ∀ {m : Nat}, (∀ a, a < m → gl a = fl a) → rsA d gl S m = rsA d fl S m := by
  intro m
  induction m with
  | zero => intro _; rfl
  | succ m ih =>
    intro h
    show rsA d gl S m + rsB _ _ _ (gl m) = rsA d fl S m + rsB _ _ _ (fl m)
    rw [ih (fun a ha => h a (by omega)), h m (by omega)]
theorem rsA_put {d : NtD} {S : Nat → Bool} {fl gl : Nat → Int} {a : Nat} {k : Int} : ∀ {m : Nat}, a < m → gl a = fl a + k → (∀ b, b ≠ a → gl b = fl b) → rsA d gl S m = rsA d fl S m - (sW S (tFr d a) k - sW S (tTo d a) k) := by
  intro m
  induction m with
  | zero => intro h; exact absurd h (Nat.not_lt_zero a)
  | succ m ih =>
    intro ha h1 h2
    show rsA d gl S m + rsB (S (tFr d m)) (S (tTo d m)) (tRo d m) (gl m) = rsA d fl S m + rsB (S (tFr d m)) (S (tTo d m)) (tRo d m) (fl m) - (sW S (tFr d a) k - sW S (tTo d a) k)
    by_cases e : a = m
    · subst e
      rw [rsA_same (fun b hb => h2 b (by omega)), h1, rsB_add]
      unfold sW
      omega
    · rw [ih (by omega) h1 h2, h2 m (Ne.symm e)]
      omega
theorem rsA_pos {d : NtD} {S : Nat → Bool} {fl : Nat → Int} : ∀ {m : Nat}, (∀ a, a < m → 0 ≤ fl a ∧ fl a ≤ tRo d a) → 0 ≤ rsA d fl S m := by
  intro m
  induction m with
  | zero => intro _; exact Int.le_refl _
  | succ m ih =>
    intro h
    show 0 ≤ rsA d fl S m + rsB _ _ _ (fl m)
    have h1 := ih (fun a ha => h a (by omega))
    have h2 := h m (by omega)
    have h3 := rsB_pos (S (tFr d m)) (S (tTo d m)) h2.1 h2.2
    omega
/-- no room is left from within to without -/
def flC (d : NtD) (fl : Nat → Int) (S : Nat → Bool) (m : Nat) : Prop := ∀ a, a < m → (S (tFr d a) = true → S (tTo d a) = false → fl a = tRo d a) ∧ (S (tFr d a) = false → S (tTo d a) = true → fl a = 0)
theorem flC.zero {d : NtD} {S : Nat → Bool} {fl : Nat → Int} : ∀ {m : Nat}, flC d fl S m → rsA d fl S m = 0 := by
  intro m
  induction m with
  | zero => intro _; rfl
  | succ m ih =>
    intro h
    show rsA d fl S m + rsB (S (tFr d m)) (S (tTo d m)) (tRo d m) (fl m) = 0
    rw [ih (fun a ha => h a (by omega))]
    have h9 := h m (by omega)
    cases e1 : S (tFr d m)
    · cases e2 : S (tTo d m)
      · rfl
      · show 0 + fl m = 0
        rw [h9.2 e1 e2]
        rfl
    · cases e2 : S (tTo d m)
      · show 0 + (tRo d m - fl m) = 0
        rw [h9.1 e1 e2]
        omega
      · rfl
theorem flC.of {d : NtD} {S : Nat → Bool} {fl : Nat → Int} : ∀ {m : Nat}, (∀ a, a < m → 0 ≤ fl a ∧ fl a ≤ tRo d a) → rsA d fl S m = 0 → flC d fl S m := by
  intro m
  induction m with
  | zero => intro _ _ a ha; exact absurd ha (Nat.not_lt_zero a)
  | succ m ih =>
    intro h h0
    have h1 : rsA d fl S m + rsB (S (tFr d m)) (S (tTo d m)) (tRo d m) (fl m) = 0 := h0
    have h2 := rsA_pos (d := d) (S := S) (fl := fl) (m := m) (fun a ha => h a (by omega))
    have h4 := h m (by omega)
    have h3 := rsB_pos (S (tFr d m)) (S (tTo d m)) h4.1 h4.2
    have h5 := ih (fun a ha => h a (by omega)) (by omega)
    have h6 : rsB (S (tFr d m)) (S (tTo d m)) (tRo d m) (fl m) = 0 := by omega
    intro a ha
    by_cases e : a = m
    · subst e
      constructor
      · intro e1 e2
        rw [e1, e2] at h6
        have h7 : tRo d a - fl a = 0 := h6
        omega
      · intro e1 e2
        rw [e1, e2] at h6
        exact h6
    · exact h5 a (by omega)
theorem cpA_le {d : NtD} {S : Nat → Bool} : ∀ {m : Nat}, (∀ a, a < m → 0 ≤ tRo d a ∧ tRo d a ≤ 1000) → cpA d S m ≤ 1000 * (m : Int) := by
  intro m
  induction m with
  | zero => intro _; exact Int.le_refl _
  | succ m ih =>
    intro h
    have h1 : cpA d S m ≤ 1000 * (m : Int) := ih (fun a ha => h a (by omega))
    have h2 := h m (by omega)
    have h3 : rsB (S (tFr d m)) (S (tTo d m)) (tRo d m) 0 ≤ 1000 := by
      cases S (tFr d m)
      · cases S (tTo d m)
        · show (0 : Int) ≤ 1000; omega
        · show (0 : Int) ≤ 1000; omega
      · cases S (tTo d m)
        · show tRo d m - 0 ≤ 1000; omega
        · show (0 : Int) ≤ 1000; omega
    show cpA d S m + rsB (S (tFr d m)) (S (tTo d m)) (tRo d m) 0 ≤ 1000 * ((m + 1 : Nat) : Int)
    omega
def sep (s t : Nat) (S : Nat → Bool) : Prop := S s = true ∧ S t = false
/-- the greatest flow: the room across the narrowest set -/
def mxF (d : NtD) (s t : Nat) (r : Int) : Prop := (∃ R, sep s t R ∧ cpA d R d.1.toNat = r) ∧ ∀ S, sep s t S → r ≤ cpA d S d.1.toNat
theorem mxF.eq {d : NtD} {s t : Nat} {r q : Int} (h : mxF d s t r) (h2 : mxF d s t q) : r = q := by
  obtain ⟨⟨R, hR, eR⟩, hr⟩ := h
  obtain ⟨⟨Q, hQ, eQ⟩, hq⟩ := h2
  have h3 := hr Q hQ
  have h4 := hq R hR
  omega
/-- the narrowest set that is within all narrowest ones -/
def mxC (d : NtD) (s t : Nat) (x : Int32) : Prop := sep s t (bI x) ∧ (∀ S, sep s t S → cpA d (bI x) d.1.toNat ≤ cpA d S d.1.toNat) ∧ (∀ S, sep s t S → cpA d S d.1.toNat = cpA d (bI x) d.1.toNat → ∀ n, n < 12 → bI x n = true → S n = true) ∧ ∀ n, bI x n = true → n < 12
theorem mxC.eq {d : NtD} {s t : Nat} {x y : Int32} (h : mxC d s t x) (h2 : mxC d s t y) : x = y := by
  obtain ⟨a1, a2, a3, a4⟩ := h
  obtain ⟨b1, b2, b3, b4⟩ := h2
  have e : cpA d (bI y) d.1.toNat = cpA d (bI x) d.1.toNat := by
    have h3 := a2 (bI y) b1
    have h4 := b2 (bI x) a1
    omega
  refine bI_ext (fun j _ => ?_)
  cases e1 : bI x j
  · cases e2 : bI y j
    · rfl
    · have := b3 (bI x) a1 e.symm j (b4 j e2) e2
      rw [e1] at this
      cases this
  · exact (a3 (bI y) b1 e j (a4 j e1) e1).symm
/-- what a flow shows -/
def rsI (d : NtD) (s t : Nat) (fl : Nat → Int) (v : Int) (m : Nat) : Prop := ∀ S, rsA d fl S m = cpA d S m - (sW S s v - sW S t v)
theorem rsI.start {d : NtD} {s t m : Nat} {fl : Nat → Int} (h : ∀ a, a < m → fl a = 0) : rsI d s t fl 0 m := fun S => by
  rw [sW_0, sW_0]
  have h9 := rsA_same (d := d) (S := S) (fl := fun _ => 0) (gl := fl) (m := m) h
  show rsA d fl S m = rsA d (fun _ => 0) S m - (0 - 0)
  omega
theorem rsI.more {d : NtD} {s t m : Nat} {fl gl : Nat → Int} {v k w : Int} (h : rsI d s t fl v m) (h2 : ∀ S, rsA d gl S m = rsA d fl S m - (sW S s k - sW S t k)) (hw : w = v + k) : rsI d s t gl w m := fun S => by
  rw [h2 S, h S, hw, sW_add, sW_add]
  omega
theorem rsI.le {d : NtD} {s t m : Nat} {fl : Nat → Int} {v : Int} (h : rsI d s t fl v m) (hf : ∀ a, a < m → 0 ≤ fl a ∧ fl a ≤ tRo d a) {S : Nat → Bool} (hS : sep s t S) : v ≤ cpA d S m := by
  have h1 := rsA_pos (d := d) (S := S) (fl := fl) (m := m) hf
  have h2 := h S
  rw [sW_in hS.1, sW_out hS.2] at h2
  omega
theorem rsI.at {d : NtD} {s t m : Nat} {fl : Nat → Int} {v : Int} (h : rsI d s t fl v m) {S : Nat → Bool} (hS : sep s t S) (hc : flC d fl S m) : cpA d S m = v := by
  have h2 := h S
  rw [sW_in hS.1, sW_out hS.2, hc.zero] at h2
  omega
theorem rsI.max {d : NtD} {s t : Nat} {fl : Nat → Int} {v : Int} (h : rsI d s t fl v d.1.toNat) (hf : ∀ a, a < d.1.toNat → 0 ≤ fl a ∧ fl a ≤ tRo d a) {R : Nat → Bool} (hR : sep s t R) (hc : flC d fl R d.1.toNat) : mxF d s t v :=
  ⟨⟨R, hR, h.at hR hc⟩, fun _ hS => h.le hf hS⟩
theorem rsI.cut {d : NtD} {s t : Nat} {fl : Nat → Int} {v : Int} {x : Int32} (h : rsI d s t fl v d.1.toNat) (hf : ∀ a, a < d.1.toNat → 0 ≤ fl a ∧ fl a ≤ tRo d a) {R : Nat → Bool} (hR : sep s t R) (hRc : flC d fl R d.1.toNat) (ht : t < 12) (hx : bI x s = true) (hc : flC d fl (bI x) d.1.toNat) (hm : ∀ S, S s = true → flC d fl S d.1.toNat → ∀ n, n < 12 → bI x n = true → S n = true) (hn : ∀ n, bI x n = true → n < 12) : mxC d s t x := by
  have hs : sep s t (bI x) := by
    refine ⟨hx, ?_⟩
    cases e : bI x t
    · rfl
    · have h9 := hm R hR.1 hRc t ht e
      rw [hR.2] at h9
      cases h9
  have e1 := h.at hs hc
  refine ⟨hs, fun S hS => ?_, fun S hS e n hn9 hx9 => ?_, hn⟩
  · rw [e1]; exact h.le hf hS
  · rw [e1] at e
    have h2 := h S
    rw [sW_in hS.1, sW_out hS.2, e] at h2
    exact hm S hS.1 (flC.of hf (by omega)) n hn9 hx9
theorem tFr_nI {d : NtD} {b x : Nat} (hx : x < 12) (h : d.2.1 b = nI x) : tFr d b = x := by
  unfold tFr
  rw [h, nI_toInt (by omega)]
  omega
theorem tTo_nI {d : NtD} {b x : Nat} (hx : x < 12) (h : d.2.2.1 b = nI x) : tTo d b = x := by
  unfold tTo
  rw [h, nI_toInt (by omega)]
  omega
/-- rooms -/
def tRm (d : NtD) : Prop := ∀ b : Nat, (b : Int) < d.1 → 0 ≤ tRo d b ∧ tRo d b ≤ 1000 ∧ tFr d b ≠ tTo d b
theorem flC_end {f95 f96 f97 f98 f99 pr : Nat → Int32} {ar sN tN : Nat} (hA : ArO f95 f96 f97 f98 ar) (hF : FlO f97 f99 ar) (hC : PrC f95 f96 f97 f98 f99 ar pr) (hb : ∀ v, v < 12 → (pr v).toInt ≤ 536870912 ∧ (pr v ≠ 536870912 → (pr v).toInt ≤ 11000)) (h0 : (pr sN).toInt = 0) (ht12 : tN < 12) (ht : (pr tN).toInt ≥ 536870912) : ∃ R, sep sN tN R ∧ flC (((ar : Nat) : Int), f95, f96, f97, f98) (fI f99) R ar := by
  have hF9 : (536870912 : Int32).toInt = 536870912 := by decide
  have hns : pr sN ≠ 536870912 := fun e => by rw [e, hF9] at h0; omega
  have hnt : pr tN = 536870912 := by
    have h9 := (hb tN ht12).1
    exact Int32.toInt_inj.mp (by rw [hF9]; omega)
  refine ⟨fun v => decide (pr v ≠ 536870912), ⟨decide_eq_true hns, decide_eq_false (fun h => h hnt)⟩, ?_⟩
  intro a ha
  obtain ⟨x, y, hx, hy, hxy, ex, ey, hr, hc⟩ := hA a ha
  have hf := hF a ha
  have hp := hC a x y ha hx hy ex ey
  have bx := hb x hx
  have bY := hb y hy
  rw [tFr_nI (d := (((ar : Nat) : Int), f95, f96, f97, f98)) hx ex, tTo_nI (d := (((ar : Nat) : Int), f95, f96, f97, f98)) hy ey]
  constructor
  · intro k1 k2
    have n1 : pr x ≠ 536870912 := of_decide_eq_true k1
    have n2 : pr y = 536870912 := Classical.not_not.mp (of_decide_eq_false k2)
    show (f99 a).toInt = (f97 a).toInt
    by_cases e : (f99 a).toInt < (f97 a).toInt
    · have h9 := hp.1 e n1
      rw [n2, hF9] at h9
      have h8 := bx.2 n1
      omega
    · omega
  · intro k1 k2
    have n1 : pr x = 536870912 := Classical.not_not.mp (of_decide_eq_false k1)
    have n2 : pr y ≠ 536870912 := of_decide_eq_true k2
    show (f99 a).toInt = 0
    by_cases e : 0 < (f99 a).toInt
    · have h9 := hp.2 e n2
      rw [n1, hF9] at h9
      have h8 := bY.2 n2
      omega
    · omega
theorem FlO.ro {f95 f96 f97 f98 f99 : Nat → Int32} {ar : Nat} (hF : FlO f97 f99 ar) : ∀ a, a < (((ar : Nat) : Int)).toNat → 0 ≤ fI f99 a ∧ fI f99 a ≤ tRo (((ar : Nat) : Int), f95, f96, f97, f98) a := fun a ha => hF a (by omega)
theorem ArO.ro {f95 f96 f97 f98 : Nat → Int32} {ar : Nat} (hA : ArO f95 f96 f97 f98 ar) : ∀ a, a < ar → 0 ≤ tRo (((ar : Nat) : Int), f95, f96, f97, f98) a ∧ tRo (((ar : Nat) : Int), f95, f96, f97, f98) a ≤ 1000 := fun a ha => by
  obtain ⟨x, y, hx, hy, hxy, ex, ey, hr, hc⟩ := hA a ha
  exact hr
theorem ArO.rm {f95 f96 f97 f98 : Nat → Int32} {ar : Nat} (hA : ArO f95 f96 f97 f98 ar) : tRm (((ar : Nat) : Int), f95, f96, f97, f98) := fun a ha => by
  obtain ⟨x, y, hx, hy, hxy, ex, ey, hr, hc⟩ := hA a (by (try dsimp only at ha); omega)
  rw [tFr_nI (d := (((ar : Nat) : Int), f95, f96, f97, f98)) hx ex, tTo_nI (d := (((ar : Nat) : Int), f95, f96, f97, f98)) hy ey]
  exact ⟨hr.1, hr.2, hxy⟩
/-- a flow of a hundred thousand can't be sent -/
theorem rsI.lim {f95 f96 f97 f98 f99 : Nat → Int32} {ar sN tN : Nat} {v : Int} (hA : ArO f95 f96 f97 f98 ar) (h40 : ar ≤ 40) (hF : FlO f97 f99 ar) (hts : tN ≠ sN) (h : rsI (((ar : Nat) : Int), f95, f96, f97, f98) sN tN (fI f99) v ar) : v ≤ 40000 := by
  have h1 := h.le (S := fun n => decide (n = sN)) (fun a ha => hF a ha) ⟨decide_eq_true rfl, decide_eq_false hts⟩
  have h2 := cpA_le (d := (((ar : Nat) : Int), f95, f96, f97, f98)) (S := fun n => decide (n = sN)) (m := ar) (ArO.ro hA)
  omega
theorem rsI.great {f95 f96 f97 f98 f99 : Nat → Int32} {ar sN tN : Nat} {v a : Int} (hA : ArO f95 f96 f97 f98 ar) (h40 : ar ≤ 40) (hF : FlO f97 f99 ar) (hts : tN ≠ sN) (h : rsI (((ar : Nat) : Int), f95, f96, f97, f98) sN tN (fI f99) v ar) (hE : v < a → ∃ R, sep sN tN R ∧ flC (((ar : Nat) : Int), f95, f96, f97, f98) (fI f99) R ar) (ha : a = 100000) : mxF (((ar : Nat) : Int), f95, f96, f97, f98) sN tN v := by
  obtain ⟨R, hR, hc⟩ := hE (by have := rsI.lim hA h40 hF hts h; omega)
  exact rsI.max (fl := fI f99) h (FlO.ro hF) hR hc
theorem bI_pow {i j : Nat} (hi : i < 12) : bI (nI (2 ^ i)) j = decide (j = i) := by
  rw [← pow_bit i (by omega)]
  exact bI_1 (by omega)
theorem bI_set {a s y n : Nat} (hy : y < 12) (e : nI a ||| ((1 : Int32) <<< (nI y &&& 31)) = nI s) : bI (nI s) n = (bI (nI a) n || decide (n = y)) := by
  rw [← e, bI_or, bI_1 (by omega)]
theorem bI_onej (j : Nat) : bI 1 j = decide (j = 0) := by
  have h := bI_1 (i := 0) (j := j) (by decide)
  rw [show ((1 : Int32) <<< (nI 0 &&& 31)) = 1 from by decide] at h
  exact h
theorem bI_and1t {y : Int32} (h : bI y 0 = true) : (y &&& 1) = 1 := by
  refine bI_ext (fun j _ => ?_)
  rw [bI_and, bI_onej]
  by_cases e : j = 0
  · rw [e, h]
    rfl
  · rw [decide_eq_false e, Bool.and_false]
theorem bI_oneT {x : Int32} {k : Nat} (hk : k < 32) (h : bI x k = true) : ((x >>> (nI k &&& 31)) &&& 1) = 1 := bI_and1t (by rw [bI_shr hk]; exact h)
theorem bI_one {x : Int32} {k : Nat} (hk : k < 32) (h : ((x >>> (nI k &&& 31)) &&& 1) = 1) : bI x k = true := by
  cases e : bI x k
  · have h9 := (bI_test hk).mpr e
    rw [h] at h9
    exact absurd h9 (by decide)
  · rfl
theorem flC.ahead {d : NtD} {fl : Nat → Int} {S : Nat → Bool} {m a x y : Nat} (h : flC d fl S m) (ha : a < m) (ex : tFr d a = x) (ey : tTo d a = y) (h1 : S x = true) (h2 : fl a < tRo d a) : S y = true := by
  subst ex ey
  cases e : S (tTo d a)
  · have h9 := (h a ha).1 h1 e
    omega
  · rfl
theorem flC.back {d : NtD} {fl : Nat → Int} {S : Nat → Bool} {m a x y : Nat} (h : flC d fl S m) (ha : a < m) (ex : tFr d a = x) (ey : tTo d a = y) (h1 : S y = true) (h2 : 0 < fl a) : S x = true := by
  subst ex ey
  cases e : S (tFr d a)
  · have h9 := (h a ha).2 e h1
    omega
  · rfl
theorem flC.next {d : NtD} {fl : Nat → Int} {S : Nat → Bool} {a x y : Nat} (h : flC d fl S a) (ex : tFr d a = x) (ey : tTo d a = y) (hb : 0 ≤ fl a ∧ fl a ≤ tRo d a) (h1 : ¬ (fl a < tRo d a ∧ S x = true ∧ S y = false)) (h2 : ¬ (0 < fl a ∧ S y = true ∧ S x = false)) : flC d fl S (a + 1) := by
  intro b hb9
  by_cases e : b = a
  · subst e ex ey
    refine ⟨fun k1 k2 => Classical.byContradiction (fun e9 => h1 ⟨by omega, k1, k2⟩), fun k1 k2 => Classical.byContradiction (fun e9 => h2 ⟨by omega, k2, k1⟩)⟩
  · exact h b (by omega)
theorem rsI.seen {f95 f96 f97 f98 f99 : Nat → Int32} {ar sN tN : Nat} {v a : Int} {x : Int32} (hA : ArO f95 f96 f97 f98 ar) (h40 : ar ≤ 40) (hF : FlO f97 f99 ar) (hts : tN ≠ sN) (h : rsI (((ar : Nat) : Int), f95, f96, f97, f98) sN tN (fI f99) v ar) (hE : v < a → ∃ R, sep sN tN R ∧ flC (((ar : Nat) : Int), f95, f96, f97, f98) (fI f99) R ar) (ha : a = 100000) (ht : tN < 12) (hx : bI x sN = true) (hc : flC (((ar : Nat) : Int), f95, f96, f97, f98) (fI f99) (bI x) ar) (hm : ∀ S, S sN = true → flC (((ar : Nat) : Int), f95, f96, f97, f98) (fI f99) S ar → ∀ n, bI x n = true → S n = true) (hn : ∀ n, bI x n = true → n < 12) : mxC (((ar : Nat) : Int), f95, f96, f97, f98) sN tN x := by
  obtain ⟨R, hR, hRc⟩ := hE (by have := rsI.lim hA h40 hF hts h; omega)
  exact rsI.cut (fl := fI f99) h (FlO.ro hF) hR hRc ht hx hc (fun S h1 h2 n _ h3 => hm S h1 h2 n h3) hn
theorem setMin {f95 f96 f97 f98 f99 : Nat → Int32} {ar sN se s7 y : Nat} (hy : y < 12) (e : nI se ||| ((1 : Int32) <<< (nI y &&& 31)) = nI s7) (hm : ∀ S, S sN = true → flC (((ar : Nat) : Int), f95, f96, f97, f98) (fI f99) S ar → ∀ n, bI (nI se) n = true → S n = true) (hn : ∀ S, S sN = true → flC (((ar : Nat) : Int), f95, f96, f97, f98) (fI f99) S ar → S y = true) : ∀ S, S sN = true → flC (((ar : Nat) : Int), f95, f96, f97, f98) (fI f99) S ar → ∀ n, bI (nI s7) n = true → S n = true := by
  intro S h1 h2 n h9
  rw [bI_set hy e, Bool.or_eq_true] at h9
  rcases h9 with h9 | h9
  · exact hm S h1 h2 n h9
  · rw [of_decide_eq_true h9]
    exact hn S h1 h2
theorem setLow {se s7 y : Nat} (hy : y < 12) (e : nI se ||| ((1 : Int32) <<< (nI y &&& 31)) = nI s7) (h : ∀ n, bI (nI se) n = true → n < 12) : ∀ n, bI (nI s7) n = true → n < 12 := by
  intro n h9
  rw [bI_set hy e, Bool.or_eq_true] at h9
  rcases h9 with h9 | h9
  · exact h n h9
  · have := of_decide_eq_true h9
    omega
theorem tVal.z0 : tVal ((0 : Int32).toInt, (fun _ => 0), (fun _ => 0), (fun _ => 0), (fun _ => 0)) := by
  have h := tVal.z
  rw [ntZ_x (x := (0 : Int32).toInt) (by decide)] at h
  exact h
theorem tRm.z : tRm ntZ := fun b hb => by
  have h9 : ((b : Nat) : Int) < 0 := hb
  omega
theorem tRm.z0 : tRm ((0 : Int32).toInt, (fun _ => 0), (fun _ => 0), (fun _ => 0), (fun _ => 0)) := by
  have h := tRm.z
  rw [ntZ_x (x := (0 : Int32).toInt) (by decide)] at h
  exact h

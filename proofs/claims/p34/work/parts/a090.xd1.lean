/-- what stands on the desk of nets: how many arcs, from, to, room, cost -/
abbrev NtD := Int × (Nat → Int32) × (Nat → Int32) × (Nat → Int32) × (Nat → Int32)
/-- what stands on the desk of clauses: how many, wants, wants not, weight -/
abbrev ClD := Int × (Nat → Int32) × (Nat → Int32) × (Nat → Int32)
/-- what stands on the desk of values: how many holders, how many rules -/
abbrev VlD := Int × Int
def ntZ : NtD := (0, fun _ => 0, fun _ => 0, fun _ => 0, fun _ => 0)
def clZ : ClD := (0, fun _ => 0, fun _ => 0, fun _ => 0)
def vlZ : VlD := (0, 0)
def ntAdd (d : NtD) (a b r p : Int32) : NtD := (d.1 + 1, upd d.2.1 d.1.toNat a, upd d.2.2.1 d.1.toNat b, upd d.2.2.2.1 d.1.toNat r, upd d.2.2.2.2 d.1.toNat p)
def ntDrop (d : NtD) : NtD := (d.1 - 1, d.2)
def clAdd (d : ClD) (y n w : Int32) : ClD := (d.1 + 1, upd d.2.1 d.1.toNat y, upd d.2.2.1 d.1.toNat n, upd d.2.2.2 d.1.toNat w)
def clDrop (d : ClD) : ClD := (d.1 - 1, d.2)
theorem ntAdd_of {n x : Int} {i : Nat} {f1 f2 f3 f4 g1 g2 g3 g4 : Nat → Int32} {a b r p : Int32} (hx : x = n + 1) (hi : i = n.toNat) (h1 : g1 = upd f1 i a) (h2 : g2 = upd f2 i b) (h3 : g3 = upd f3 i r) (h4 : g4 = upd f4 i p) : (x, g1, g2, g3, g4) = ntAdd (n, f1, f2, f3, f4) a b r p := by
  subst hx hi h1 h2 h3 h4
  rfl
theorem ntDrop_of {n x : Int} {f1 f2 f3 f4 : Nat → Int32} (hx : x = n - 1) : (x, f1, f2, f3, f4) = ntDrop (n, f1, f2, f3, f4) := by
  subst hx
  rfl
theorem clAdd_of {n x : Int} {i : Nat} {f1 f2 f3 g1 g2 g3 : Nat → Int32} {y m w : Int32} (hx : x = n + 1) (hi : i = n.toNat) (h1 : g1 = upd f1 i y) (h2 : g2 = upd f2 i m) (h3 : g3 = upd f3 i w) : (x, g1, g2, g3) = clAdd (n, f1, f2, f3) y m w := by
  subst hx hi h1 h2 h3
  rfl
theorem clDrop_of {n x : Int} {f1 f2 f3 : Nat → Int32} (hx : x = n - 1) : (x, f1, f2, f3) = clDrop (n, f1, f2, f3) := by
  subst hx
  rfl
/-- a set of holders; a holder; a rule -/
def SetV (a h : Int32) : Prop := 0 < a.toInt ∧ a.toInt < ((1 : Int32) <<< (h &&& 31)).toInt
def HdV (i h : Int32) : Prop := 0 ≤ i.toInt ∧ i.toInt < h.toInt
def RulX (k a b c h : Int32) : Prop := (k.toInt = 0 ∧ SetV a h) ∨ (k.toInt = 1 ∧ HdV a h ∧ HdV c h ∧ -15 ≤ b.toInt ∧ b.toInt ≤ 15) ∨ (k.toInt = 2 ∧ SetV a h ∧ (-200 ≤ b.toInt ∧ b.toInt ≤ 200) ∧ -200 ≤ c.toInt ∧ c.toInt ≤ 200) ∨ (k.toInt = 3 ∧ SetV a h ∧ (-200 ≤ b.toInt ∧ b.toInt ≤ 200) ∧ 0 ≤ c.toInt ∧ c.toInt ≤ 15) ∨ (k.toInt = 4 ∧ HdV a h ∧ HdV b h ∧ a.toInt ≠ b.toInt)
theorem ntZ_x {x : Int} (h : x = 0) : ntZ = (x, (fun _ => 0), (fun _ => 0), (fun _ => 0), (fun _ => 0)) := by
  subst h
  rfl
theorem clZ_x {x : Int} (h : x = 0) : clZ = (x, (fun _ => 0), (fun _ => 0), (fun _ => 0)) := by
  subst h
  rfl
theorem vlZ_x {x y : Int} (h : x = 0) (h2 : y = 0) : vlZ = (x, y) := by
  subst h h2
  rfl
theorem vl_x {x y a b : Int} (h : x = a) (h2 : y = b) : ((a, b) : VlD) = (x, y) := by
  subst h h2
  rfl
theorem i32z0 : (0 : Int32).toInt = 0 := by decide
theorem ntAdd_0 {x : Int} {g1 g2 g3 g4 : Nat → Int32} {a b r p : Int32} (hx : x = (0 : Int32).toInt + 1) (h1 : g1 = upd (fun _ => 0) (0 : Int32).toInt.toNat a) (h2 : g2 = upd (fun _ => 0) (0 : Int32).toInt.toNat b) (h3 : g3 = upd (fun _ => 0) (0 : Int32).toInt.toNat r) (h4 : g4 = upd (fun _ => 0) (0 : Int32).toInt.toNat p) : ntAdd ntZ a b r p = (x, g1, g2, g3, g4) := by
  rw [i32z0] at hx h1 h2 h3 h4
  subst hx h1 h2 h3 h4
  rfl
theorem clAdd_0 {x : Int} {g1 g2 g3 : Nat → Int32} {y m w : Int32} (hx : x = (0 : Int32).toInt + 1) (h1 : g1 = upd (fun _ => 0) (0 : Int32).toInt.toNat y) (h2 : g2 = upd (fun _ => 0) (0 : Int32).toInt.toNat m) (h3 : g3 = upd (fun _ => 0) (0 : Int32).toInt.toNat w) : clAdd clZ y m w = (x, g1, g2, g3) := by
  rw [i32z0] at hx h1 h2 h3
  subst hx h1 h2 h3
  rfl
/-- how many below n -/
def cntB (f : Nat → Bool) : Nat → Nat
  | 0 => 0
  | n + 1 => cntB f n + (if f n = true then 1 else 0)
theorem cntB_le (f : Nat → Bool) (n : Nat) : cntB f n ≤ n := by
  induction n with
  | zero => exact Nat.le_refl 0
  | succ n ih => unfold cntB; split <;> omega
theorem cntB_all {f : Nat → Bool} {n : Nat} (h : cntB f n = n) : ∀ i, i < n → f i = true := by
  induction n with
  | zero => intro i hi; omega
  | succ n ih =>
    intro i hi
    unfold cntB at h
    have := cntB_le f n
    by_cases e : f n = true
    · rw [if_pos e] at h
      by_cases e2 : i = n
      · rw [e2]; exact e
      · exact ih (by omega) i (by omega)
    · rw [if_neg e] at h; omega
theorem cntB_some {f : Nat → Bool} {n : Nat} (h : cntB f n < n) : ∃ i, i < n ∧ f i = false := by
  induction n with
  | zero => omega
  | succ n ih =>
    unfold cntB at h
    by_cases e : f n = true
    · rw [if_pos e] at h
      obtain ⟨i, h1, h2⟩ := ih (by omega)
      exact ⟨i, by omega, h2⟩
    · exact ⟨n, by omega, by cases h9 : f n; rfl; exact absurd h9 e⟩
theorem cntB_congr {f g : Nat → Bool} {n : Nat} (h : ∀ i, i < n → f i = g i) : cntB f n = cntB g n := by
  induction n with
  | zero => rfl
  | succ n ih => unfold cntB; rw [ih (fun i hi => h i (by omega)), h n (by omega)]
theorem cntB_set {f g : Nat → Bool} {n a : Nat} (ha : a < n) (hf : f a = false) (hg : ∀ i, g i = true ↔ (f i = true ∨ i = a)) : cntB g n = cntB f n + 1 := by
  induction n with
  | zero => omega
  | succ n ih =>
    unfold cntB
    by_cases e : a = n
    · subst e
      have e1 : cntB g a = cntB f a := cntB_congr (fun i hi => by
        cases h1 : g i <;> cases h2 : f i
        · rfl
        · exact absurd ((hg i).mpr (Or.inl h2)) (by rw [h1]; decide)
        · rcases (hg i).mp h1 with h3 | h3
          · rw [h2] at h3; cases h3
          · omega
        · rfl)
      rw [e1, if_pos ((hg a).mpr (Or.inr rfl)), if_neg (by rw [hf]; decide)]
    · rw [ih (by omega)]
      have e1 : (g n = true) ↔ (f n = true) := ⟨fun h => ((hg n).mp h).elim id (fun h2 => absurd h2.symm e), fun h => (hg n).mpr (Or.inl h)⟩
      by_cases e2 : f n = true
      · rw [if_pos (e1.mpr e2), if_pos e2] <;> omega
      · rw [if_neg (fun h => e2 (e1.mp h)), if_neg e2]
theorem cntB_mono {p q : Nat → Bool} {n : Nat} (h : ∀ i, i < n → p i = true → q i = true) : cntB p n ≤ cntB q n := by
  induction n with
  | zero => exact Nat.le_refl 0
  | succ n ih =>
    have ih2 := ih (fun i hi => h i (by omega))
    unfold cntB
    by_cases e : p n = true
    · rw [if_pos e, if_pos (h n (by omega) e)]; omega
    · rw [if_neg e]
      split <;> omega
theorem cntB_lt {p q : Nat → Bool} {n i : Nat} (h : ∀ i, i < n → p i = true → q i = true) (hi : i < n) (hp : p i = false) (hq : q i = true) : cntB p n + 1 ≤ cntB q n := by
  induction n with
  | zero => omega
  | succ n ih =>
    unfold cntB
    by_cases e : i = n
    · subst e
      have := cntB_mono (p := p) (q := q) (n := i) (fun k hk => h k (by omega))
      rw [if_neg (by rw [hp]; decide), if_pos hq]; omega
    · have ih2 := ih (fun k hk => h k (by omega)) (by omega)
      by_cases e2 : p n = true
      · rw [if_pos e2, if_pos (h n (by omega) e2)]; omega
      · rw [if_neg e2]
        split <;> omega
theorem cntB_miss {p : Nat → Bool} {n i : Nat} (hi : i < n) (hp : p i = false) : cntB p n + 1 ≤ n := by
  have h1 := cntB_lt (p := p) (q := fun _ => true) (n := n) (i := i) (fun _ _ _ => rfl) hi hp rfl
  have h2 := cntB_le (fun _ => true) n
  omega

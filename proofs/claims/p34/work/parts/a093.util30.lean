/-- who takes a value: holders below i, none of them twice -/
def TkB (tk : Nat → Int32) (i : Nat) : Prop := (∀ v, v < 16 → tk v = -1 ∨ ∃ h, h < i ∧ tk v = nI h) ∧ ∀ v w, v < 16 → w < 16 → tk v = tk w → tk v ≠ -1 → v = w
theorem nI_nm1 {h : Nat} (hh : h < 2 ^ 31) : nI h ≠ -1 := fun e => by
  have h1 := nI_toInt hh
  rw [e] at h1
  have h2 : ((-1 : Int32)).toInt = -1 := by decide
  omega
/-- the search: what was looked at, each for a value that is taken and that was come to from an earlier one -/
def Bfs (tk cm lk : Nat → Int32) (i M : Nat) : Prop := lk 0 = nI i ∧ (∀ a b, a < b → b < M → lk a ≠ lk b) ∧ (∀ q, 0 < q → q < M → ∃ v q', v < 16 ∧ q' < q ∧ tk v = lk q ∧ cm v = lk q') ∧ ∀ q, q < M → ∃ h, h < 10 ∧ lk q = nI h ∧ (0 < q → h < i)
theorem Bfs.init {tk cm lk : Nat → Int32} {i : Nat} (hi : i < 10) (h : lk 0 = nI i) : Bfs tk cm lk i 1 :=
  ⟨h, fun a b h1 h2 => absurd h1 (by omega), fun q h1 h2 => absurd h1 (by omega), fun q hq => by
    have : q = 0 := by omega
    subst this; exact ⟨i, hi, h, fun h9 => absurd h9 (by omega)⟩⟩
theorem Bfs.mark {tk cm cm2 lk : Nat → Int32} {i M v : Nat} (h : Bfs tk cm lk i M) (hv : cm v = -1) (e : ∀ w, w ≠ v → cm2 w = cm w) : Bfs tk cm2 lk i M :=
  ⟨h.1, h.2.1, fun q h1 h2 => by
    obtain ⟨v', q', k1, k2, k3, k4⟩ := h.2.2.1 q h1 h2
    refine ⟨v', q', k1, k2, k3, ?_⟩
    rw [e v' (fun e9 => by
      obtain ⟨h9, h8, h7, _⟩ := h.2.2.2 q' (by omega)
      rw [e9, hv, h7] at k4
      exact nI_nm1 (by omega) k4.symm)]
    exact k4, h.2.2.2⟩
theorem Bfs.push {tk cm cm2 lk lk2 : Nat → Int32} {i M v k : Nat} (h : Bfs tk cm lk i M) (hT : TkB tk i) (hi : i < 10) (hv16 : v < 16) (hv : cm v = -1) (ht : tk v ≠ -1) (hk : k < M) (e : ∀ w, w ≠ v → cm2 w = cm w) (e1 : cm2 v = lk k) (e2 : ∀ q, q < M → lk2 q = lk q) (e3 : lk2 M = tk v) : Bfs tk cm2 lk2 i (M + 1) := by
  obtain ⟨h9, hh9, eh9⟩ := (hT.1 v hv16).resolve_left ht
  have hM : 0 < M := by omega
  refine ⟨by rw [e2 0 hM]; exact h.1, fun a b h1 h2 => ?_, fun q h1 h2 => ?_, fun q hq => ?_⟩
  · by_cases eb : b = M
    · subst eb
      rw [e2 a h1, e3, eh9]
      by_cases ea : a = 0
      · subst ea; rw [h.1]; intro e9
        have := (nI_eq (by omega) (by omega)).mp e9; omega
      · obtain ⟨v', q', k1, k2, k3, k4⟩ := h.2.2.1 a (by omega) h1
        intro e9
        rw [← k3, ← eh9] at e9
        have hne : tk v' ≠ -1 := by rw [e9]; exact ht
        have := hT.2 v' v k1 hv16 e9 hne
        subst this
        obtain ⟨h8, h7, h6, _⟩ := h.2.2.2 q' (by omega)
        rw [hv, h6] at k4
        exact nI_nm1 (by omega) k4.symm
    · rw [e2 a (by omega), e2 b (by omega)]; exact h.2.1 a b h1 (by omega)
  · by_cases eq : q = M
    · subst eq
      exact ⟨v, k, hv16, hk, e3.symm, by rw [e1, e2 k hk]⟩
    · obtain ⟨v', q', k1, k2, k3, k4⟩ := (h.mark hv e).2.2.1 q h1 (by omega)
      exact ⟨v', q', k1, k2, by rw [e2 q (by omega)]; exact k3, by rw [e2 q' (by omega)]; exact k4⟩
  · by_cases eq : q = M
    · subst eq; exact ⟨h9, by omega, by rw [e3, eh9], fun _ => hh9⟩
    · rw [e2 q (by omega)]; exact h.2.2.2 q (by omega)
/-- how many values were come to -/
def nvs (cm : Nat → Int32) : Nat → Nat
  | 0 => 0
  | n + 1 => nvs cm n + (if cm n = -1 then 0 else 1)
theorem nvs_le (cm : Nat → Int32) : ∀ n, nvs cm n ≤ n := by
  intro n
  induction n with
  | zero => exact Nat.le_refl _
  | succ n ih => simp only [nvs]; split <;> omega
theorem nvs_congr {cm cm2 : Nat → Int32} : ∀ n, (∀ w, w < n → cm2 w = cm w) → nvs cm2 n = nvs cm n := by
  intro n
  induction n with
  | zero => intro _; rfl
  | succ n ih => intro h; simp only [nvs]; rw [ih (fun w hw => h w (by omega)), h n (by omega)]
theorem nvs_up {cm cm2 : Nat → Int32} {v : Nat} (hv : cm v = -1) (h2 : cm2 v ≠ -1) (e : ∀ w, w ≠ v → cm2 w = cm w) : ∀ n, v < n → nvs cm2 n = nvs cm n + 1 := by
  intro n
  induction n with
  | zero => intro h; omega
  | succ n ih =>
    intro h
    simp only [nvs]
    by_cases e9 : v = n
    · subst e9; rw [nvs_congr v (fun w hw => e w (by omega)), if_neg h2, if_pos hv]
    · rw [ih (by omega), e n (by omega)]; omega
/-- the chain back: each below q is taken by a value that was come to from an earlier one -/
def Chn (tk cm lk : Nat → Int32) (i q : Nat) : Prop := lk 0 = nI i ∧ (∀ a b, a < b → b ≤ q → lk a ≠ lk b) ∧ ∀ p, 0 < p → p ≤ q → ∃ v p', v < 16 ∧ p' < p ∧ tk v = lk p ∧ cm v = lk p' ∧ tk v ≠ -1
theorem Bfs.chn {tk cm lk : Nat → Int32} {i M q : Nat} (h : Bfs tk cm lk i M) (hq : q < M) : Chn tk cm lk i q :=
  ⟨h.1, fun a b h1 h2 => h.2.1 a b h1 (by omega), fun p h1 h2 => by
    obtain ⟨v, p', k1, k2, k3, k4⟩ := h.2.2.1 p h1 (by omega)
    obtain ⟨h9, h8, h7, _⟩ := h.2.2.2 p (by omega)
    exact ⟨v, p', k1, k2, k3, k4, by rw [k3, h7]; exact nI_nm1 (by omega)⟩⟩
/-- one step of the way back: the one who took w takes v -/
theorem Chn.step {tk tk2 cm lk : Nat → Int32} {i q v w : Nat} (h : Chn tk cm lk i q) (hT : TkB tk i) (hv : v < 16) (hw : w < 16) (hv0 : tk v = -1) (hq : 0 < q) (hwq : tk w = lk q) (hw1 : tk w ≠ -1) (e1 : tk2 v = lk q) (e2 : tk2 w = -1) (e3 : ∀ x, x ≠ v → x ≠ w → tk2 x = tk x) :
    TkB tk2 i ∧ ∃ q', q' < q ∧ cm w = lk q' ∧ Chn tk2 cm lk i q' := by
  have hvw : v ≠ w := fun e => hw1 (by rw [← e]; exact hv0)
  obtain ⟨v1, p1, k1, k2, k3, k4, k5⟩ := h.2.2 q hq (Nat.le_refl _)
  have ev : v1 = w := hT.2 v1 w k1 hw (by rw [k3, hwq]) k5
  subst ev
  refine ⟨⟨fun x hx => ?_, fun x y hx hy e hne => ?_⟩, p1, k2, k4, h.1, fun a b h1 h2 => h.2.1 a b h1 (by omega), fun p h1 h2 => ?_⟩
  · by_cases xa : x = v
    · subst xa; rw [e1, ← k3]; exact (hT.1 v1 k1).imp (fun h9 => absurd h9 hw1) id
    · by_cases xb : x = v1
      · subst xb; exact Or.inl e2
      · rw [e3 x xa xb]; exact hT.1 x hx
  · by_cases xa : x = v
    · subst xa
      by_cases ya : y = x
      · exact ya.symm
      · exfalso
        by_cases yb : y = v1
        · subst yb; rw [e2] at e; exact hne e
        · rw [e3 y ya yb, e1, ← k3] at e
          exact yb (hT.2 v1 y k1 hy e hw1).symm
    · by_cases xb : x = v1
      · subst xb; exact absurd e2 hne
      · rw [e3 x xa xb] at e hne
        by_cases ya : y = v
        · subst ya; exfalso; rw [e1, ← k3] at e
          exact xb (hT.2 x v1 hx k1 e hne)
        · by_cases yb : y = v1
          · subst yb; rw [e2] at e; exact absurd e hne
          · rw [e3 y ya yb] at e; exact hT.2 x y hx hy e hne
  · obtain ⟨v2, p2, j1, j2, j3, j4, j5⟩ := h.2.2 p h1 (by omega)
    have a1 : v2 ≠ v := fun e9 => j5 (by rw [e9]; exact hv0)
    have a2 : v2 ≠ v1 := fun e9 => h.2.1 p q (by omega) (Nat.le_refl _) (by rw [← j3, e9]; exact k3)
    exact ⟨v2, p2, j1, j2, by rw [e3 v2 a1 a2]; exact j3, j4, by rw [e3 v2 a1 a2]; exact j5⟩
theorem TkB.last {tk tk2 : Nat → Int32} {i v : Nat} (hT : TkB tk i) (hi : i < 2 ^ 31) (hv : v < 16) (e1 : tk2 v = nI i) (e3 : ∀ x, x ≠ v → tk2 x = tk x) : TkB tk2 (i + 1) := by
  refine ⟨fun x hx => ?_, fun x y hx hy e hne => ?_⟩
  · by_cases xa : x = v
    · subst xa; exact Or.inr ⟨i, by omega, e1⟩
    · rw [e3 x xa]; exact (hT.1 x hx).imp id (fun ⟨h, h1, h2⟩ => ⟨h, by omega, h2⟩)
  · have key : ∀ z, z < 16 → z ≠ v → tk z ≠ nI i := fun z hz _ e9 => by
      rcases hT.1 z hz with h9 | ⟨h, h1, h2⟩
      · rw [e9] at h9; exact nI_nm1 hi h9
      · rw [e9] at h2; have := (nI_eq (by omega) (by omega)).mp h2; omega
    by_cases xa : x = v
    · subst xa
      by_cases ya : y = x
      · exact ya.symm
      · rw [e1, e3 y ya] at e; exact absurd e.symm (key y hy ya)
    · rw [e3 x xa] at e hne
      by_cases ya : y = v
      · subst ya; rw [e1] at e; exact absurd e (key x hx xa)
      · rw [e3 y ya] at e; exact hT.2 x y hx hy e hne
theorem TkB.fresh {tk : Nat → Int32} {i : Nat} (hT : TkB tk i) (hi : i < 2 ^ 31) {v : Nat} (hv : v < 16) : tk v ≠ nI i := fun e9 => by
  rcases hT.1 v hv with h9 | ⟨h, h1, h2⟩
  · rw [e9] at h9; exact nI_nm1 hi h9
  · rw [e9] at h2; have := (nI_eq (by omega) (by omega)).mp h2; omega
theorem TkB.up {tk : Nat → Int32} {i : Nat} (hT : TkB tk i) : TkB tk (i + 1) := ⟨fun v hv => (hT.1 v hv).imp id (fun ⟨h, h1, h2⟩ => ⟨h, by omega, h2⟩), hT.2⟩

/-! a tableau's exchange as the program reckons it; labels as functions -/
theorem pl_lt {C T i j : Nat} (hi : i < T) (hj : j ≤ C) : i * (C + 1) + j < T * (C + 1) := by
  have h : (i + 1) * (C + 1) ≤ T * (C + 1) := Nat.mul_le_mul_right _ hi
  rw [Nat.succ_mul] at h; omega
theorem pl_inj {C i j k l : Nat} (hj : j ≤ C) (hl : l ≤ C) (h : i * (C + 1) + j = k * (C + 1) + l) : i = k ∧ j = l := by
  have e : i = k := by
    rcases Nat.lt_trichotomy i k with h1 | h1 | h1
    · have h2 : (i + 1) * (C + 1) ≤ k * (C + 1) := Nat.mul_le_mul_right _ h1
      rw [Nat.succ_mul] at h2; omega
    · exact h1
    · have h2 : (k + 1) * (C + 1) ≤ i * (C + 1) := Nat.mul_le_mul_right _ h1
      rw [Nat.succ_mul] at h2; omega
  subst e; omega
def nvT (r c : Nat) (g : Int) (t : Nat → Nat → Int) (D : Int) : Nat → Nat → Int := fun i j => if i = r then (if j = c then g * D else g * t r j) else if j = c then -(g * t i c) else g * ((t i j * t r c - t i c * t r j).tdiv D)
def uP (f : Nat → Nat) (r x : Nat) : Nat → Nat := fun i => if i = r then x else f i
theorem map_set (f : Nat → Nat) (T r x : Nat) : ((List.range T).map f).set r x = (List.range T).map (uP f r x) := by
  apply List.ext_getElem
  · simp
  · intro i h1 h2
    simp only [List.length_set, List.length_map, List.length_range] at h1
    rw [List.getElem_set, List.getElem_map, List.getElem_map, List.getElem_range]
    unfold uP
    by_cases e : r = i
    · rw [if_pos e, if_pos e.symm]
    · rw [if_neg e, if_neg (fun h => e h.symm)]
def RepF (T n : Nat) (a : Nat → Nat → Int) (D : Int) (t : Nat → Nat → Int) (rl cl : Nat → Nat) : Prop := ∃ e, Rep T n a e D t ((List.range T).map rl) cl
theorem RepF.exact {T n : Nat} {a : Nat → Nat → Int} {D : Int} {t : Nat → Nat → Int} {rl cl : Nat → Nat} (h : RepF T n a D t rl cl) {r c i j : Nat} (hr : r < T) (hc : c < n) (hi : i < T) (hj : j < n) (hne : i ≠ r) : ∃ q, t i j * t r c - t i c * t r j = D * q := by
  obtain ⟨e, h⟩ := h
  exact ⟨_, h.exact hr hc hi hj hne⟩
theorem nv_exact {D X : Int} (hD : D ≠ 0) {q : Int} (h : X = D * q) (g : Int) : D * (g * X.tdiv D) = g * X := by
  rw [h, Int.mul_tdiv_cancel_left _ hD, Int.mul_left_comm]
theorem RepF.next {T n : Nat} {a : Nat → Nat → Int} {D : Int} {t : Nat → Nat → Int} {rl cl : Nat → Nat} (h : RepF T n a D t rl cl) {r c : Nat} (hr : r < T) (hc : c < n) {g : Int} (hg : g = 1 ∨ g = -1) (hD : D ≠ 0) :
    RepF T n a (g * t r c) (nvT r c g t D) (uP rl r (cl c)) (uP cl c (rl r)) := by
  have hx := @RepF.exact T n a D t rl cl h r c
  obtain ⟨e, h⟩ := h
  refine ⟨g * e, ?_⟩
  rw [← map_set]
  refine Rep.pivot h hr hc hg hD ?_ ?_ ?_ ?_ ?_ ?_
  · unfold nvT; rw [if_pos rfl, if_pos rfl]
  · intro j _ hj; unfold nvT; rw [if_pos rfl, if_neg hj]
  · intro i _ hi; unfold nvT; rw [if_neg hi, if_pos rfl]
  · intro i hi hne j hj hjc
    unfold nvT
    rw [if_neg hne, if_neg hjc]
    obtain ⟨q, hq⟩ := hx hr hc hi hj hne
    exact nv_exact hD hq g
  · unfold uP; rw [if_pos rfl, List.getElem_map, List.getElem_range]
  · intro j _ hj; unfold uP; rw [if_neg hj]
theorem RepF.piv {T n : Nat} {a : Nat → Nat → Int} {D : Int} {t : Nat → Nat → Int} {rl cl : Nat → Nat} (h : RepF T n a D t rl cl) {r c : Nat} (hr : r < T) (hc : c < n) {g : Int} (hg : g = 1 ∨ g = -1) (hD : 0 < D) (hp : 0 < g * t r c) :
    Piv T n (t, D, rl, cl) (nvT r c g t D, g * t r c, uP rl r (cl c), uP cl c (rl r)) r c g := by
  refine ⟨hr, hc, by rcases hg with h | h <;> rw [h] <;> rfl, hD, hp, rfl, ?_, ?_, ?_, ?_, ?_, ?_, ?_, ?_⟩
  · show nvT r c g t D r c = _; unfold nvT; rw [if_pos rfl, if_pos rfl]
  · intro j _ hj; show nvT r c g t D r j = _; unfold nvT; rw [if_pos rfl, if_neg hj]
  · intro i _ hi; show nvT r c g t D i c = _; unfold nvT; rw [if_neg hi, if_pos rfl]
  · intro i hi hne j hj hjc
    show D * nvT r c g t D i j = _
    unfold nvT
    rw [if_neg hne, if_neg hjc]
    obtain ⟨q, hq⟩ := h.exact hr hc hi hj hne
    exact nv_exact (by omega) hq g
  · show uP rl r (cl c) r = _; unfold uP; rw [if_pos rfl]
  · intro i _ hi; show uP rl r (cl c) i = _; unfold uP; rw [if_neg hi]
  · show uP cl c (rl r) c = _; unfold uP; rw [if_pos rfl]
  · intro j _ hj; show uP cl c (rl r) j = _; unfold uP; rw [if_neg hj]
theorem nodup_map {T : Nat} {f : Nat → Nat} (h : ∀ i k, i < T → k < T → f i = f k → i = k) : ((List.range T).map f).Nodup := by
  rw [List.nodup_iff_pairwise_ne, List.pairwise_map]
  refine List.Pairwise.imp_of_mem ?_ (List.nodup_iff_pairwise_ne.mp (List.nodup_range (n := T)))
  intro i k hi hk hne e
  exact hne (h i k (List.mem_range.mp hi) (List.mem_range.mp hk) e)
theorem RepF.bd {T C R : Nat} {a : Nat → Nat → Int} {D : Int} {t : Nat → Nat → Int} {rl cl : Nat → Nat} (h : RepF T (C + 1) a D t rl cl) (hL : Lb T (C + 1) (t, D, rl, cl)) (hgl : ∀ i, R ≤ i → i < T → rl i = C + 1 + i) {W Bc GM k : Nat} (hW : 1 ≤ W) (hG : 1 ≤ GM) (hk : R ≤ k ∨ C + 1 ≤ k)
    (hrow : ∀ i, i < R → sumN C (fun q => (a i q).natAbs) ≤ W) (hcon : ∀ i, i < R → (a i C).natAbs ≤ Bc) (hall : ∀ i, R ≤ i → i < T → sumN (C + 1) (fun q => (a i q).natAbs) ≤ GM) (hRT : R ≤ T) :
    D.natAbs ≤ bF W Bc 1 k * 1 ∧ ∀ i, i < T → ∀ j, j < C + 1 → (t i j).natAbs ≤ bF W Bc 1 k * (if i < R then 1 else GM) := by
  obtain ⟨e, h1, h2, h3, h4⟩ := h
  obtain ⟨l1, l2, l3⟩ := hL
  have he : ∀ x : Int, (e * x).natAbs = x.natAbs := fun x => by rcases h2 with h | h <;> rw [h] <;> omega
  constructor
  · rw [h3, he]
    refine dL_bd (g0 := T) (GM := 1) (nodup_map l1) hW (Nat.le_refl _) hk hRT hrow hcon (fun s h5 h6 _ => ?_) (fun h => absurd h (by omega))
    exact List.mem_map.mpr ⟨s, List.mem_range.mpr h6, hgl s h5 h6⟩
  · intro i hi j hj
    have nd : ((List.range T).map (uP rl i (cl j))).Nodup := nodup_map (by
      intro x y hx hy hxy
      unfold uP at hxy
      by_cases e1 : x = i <;> by_cases e2 : y = i
      · omega
      · rw [if_pos e1, if_neg e2] at hxy; exact absurd hxy.symm (l3 y j hy hj)
      · rw [if_neg e1, if_pos e2] at hxy; exact absurd hxy (l3 x j hx hj)
      · rw [if_neg e1, if_neg e2] at hxy; exact l1 x y hx hy hxy)
    have mem : ∀ s, R ≤ s → s < T → s ≠ i → C + 1 + s ∈ (List.range T).map (uP rl i (cl j)) := fun s h5 h6 h7 => by
      refine List.mem_map.mpr ⟨s, List.mem_range.mpr h6, ?_⟩
      unfold uP; rw [if_neg h7]; exact hgl s h5 h6
    rw [h4 i hi j hj, he, map_set]
    by_cases hiR : i < R
    · rw [if_pos hiR]
      exact dL_bd (g0 := T) (GM := 1) nd hW (Nat.le_refl _) hk hRT hrow hcon (fun s h5 h6 _ => mem s h5 h6 (by omega)) (fun h => absurd h (by omega))
    · rw [if_neg hiR]
      exact dL_bd (g0 := i) nd hW hG hk (by omega) hrow hcon mem (fun _ => hall i (by omega) hi)
theorem RepF.init (T n : Nat) (a : Nat → Nat → Int) : RepF T n a 1 a (fun i => n + i) (fun j => j) := by
  refine ⟨1, ?_⟩
  have e : (List.range T).map (fun i => n + i) = List.range' n T := by
    rw [List.range'_eq_map_range]
  rw [e]; exact Rep.init T n a
/-- the tableau (t, D) with labels rl, cl belongs to the columns a: T rows, R of them lines, C columns and the numbers alone -/
def SxF (C R T : Nat) (a : Nat → Nat → Int) (t : Nat → Nat → Int) (D : Int) (rl cl : Nat → Nat) : Prop :=
  RepF T (C + 1) a D t rl cl ∧ 0 < D ∧ Lb T (C + 1) (t, D, rl, cl) ∧ (∀ x, Sys T (C + 1) (t, D, rl, cl) x → Sys T (C + 1) (a, 1, fun i => C + 1 + i, fun j => j) x) ∧ (∀ i, R ≤ i → i < T → rl i = C + 1 + i) ∧ cl C = C ∧ (∀ i, i < T → rl i < C + 1 + T) ∧ ∀ j, j ≤ C → cl j < C + 1 + T
theorem SxF.init (C R T : Nat) (a : Nat → Nat → Int) : SxF C R T a a 1 (fun i => C + 1 + i) (fun j => j) := by
  refine ⟨RepF.init T (C + 1) a, by decide, ⟨fun i k _ _ h => ?_, fun j k _ _ h => h, fun i j _ hj h => ?_⟩, fun x h => h, fun i _ _ => rfl, rfl, fun i hi => ?_, fun j hj => ?_⟩
  · have h : C + 1 + i = C + 1 + k := h
    omega
  · have h : C + 1 + i = j := h
    omega
  · show C + 1 + i < _; omega
  · show j < _; omega
theorem SxF.next {C R T : Nat} {a t : Nat → Nat → Int} {D : Int} {rl cl : Nat → Nat} (h : SxF C R T a t D rl cl) {r c : Nat} (hr : r < R) (hRT : R ≤ T) (hc : c < C) {g : Int} (hg : g = 1 ∨ g = -1) (hp : 0 < g * t r c) :
    SxF C R T a (nvT r c g t D) (g * t r c) (uP rl r (cl c)) (uP cl c (rl r)) ∧ Piv T (C + 1) (t, D, rl, cl) (nvT r c g t D, g * t r c, uP rl r (cl c), uP cl c (rl r)) r c g := by
  obtain ⟨h1, h2, h3, h4, h5, h6, h7, h8⟩ := h
  have hP := h1.piv (show r < T by omega) (show c < C + 1 by omega) hg h2 hp
  refine ⟨⟨h1.next (by omega) (by omega) hg (by omega), hp, hP.lb h3, fun x hx => h4 x (hP.symm.sys hx), fun i hi hT => ?_, ?_, fun i hi => ?_, fun j hj => ?_⟩, hP⟩
  · unfold uP; rw [if_neg (by omega)]; exact h5 i hi hT
  · unfold uP; rw [if_neg (by omega)]; exact h6
  · unfold uP; split
    · exact h8 c (by omega)
    · exact h7 i hi
  · unfold uP; split
    · exact h7 r (by omega)
    · exact h8 j hj
theorem SxF.exact {C R T : Nat} {a t : Nat → Nat → Int} {D : Int} {rl cl : Nat → Nat} (h : SxF C R T a t D rl cl) {r c i j : Nat} (hr : r < T) (hc : c ≤ C) (hi : i < T) (hj : j ≤ C) (hne : i ≠ r) : ∃ q, t i j * t r c - t i c * t r j = D * q := h.1.exact hr (by omega) hi (by omega) hne
theorem SxF.bd {C R T : Nat} {a t : Nat → Nat → Int} {D : Int} {rl cl : Nat → Nat} (h : SxF C R T a t D rl cl) {W Bc GM k : Nat} (hW : 1 ≤ W) (hG : 1 ≤ GM) (hk : R ≤ k ∨ C + 1 ≤ k)
    (hrow : ∀ i, i < R → sumN C (fun q => (a i q).natAbs) ≤ W) (hcon : ∀ i, i < R → (a i C).natAbs ≤ Bc) (hall : ∀ i, R ≤ i → i < T → sumN (C + 1) (fun q => (a i q).natAbs) ≤ GM) (hRT : R ≤ T) :
    D.natAbs ≤ bF W Bc 1 k ∧ ∀ i, i < T → ∀ j, j ≤ C → (t i j).natAbs ≤ bF W Bc 1 k * (if i < R then 1 else GM) := by
  have hb := h.1.bd h.2.2.1 (fun i h1 h2 => h.2.2.2.2.1 i h1 h2) hW hG hk hrow hcon hall hRT
  exact ⟨by have := hb.1; omega, fun i hi j hj => hb.2 i hi j (by omega)⟩
/-- the basic solution -/
theorem basic {C R T : Nat} {a t : Nat → Nat → Int} {D : Int} {rl cl : Nat → Nat} (h : SxF C R T a t D rl cl) : ∃ x : Nat → Int, Sys T (C + 1) (a, 1, fun i => C + 1 + i, fun j => j) x ∧ x C = -D ∧ (∀ j, j < C → x (cl j) = 0) ∧ ∀ i, i < T → x (rl i) = t i C := by
  obtain ⟨h1, h2, ⟨l1, l2, l3⟩, h4, h5, h6, h7, h8⟩ := h
  obtain ⟨x, xC, xr, xc⟩ : ∃ x : Nat → Int, x C = -D ∧ (∀ i, i < T → x (rl i) = t i C) ∧ ∀ j, j < C → x (cl j) = 0 := by
    refine ⟨fun q => if q = C then -D else @dite Int (∃ i, i < T ∧ rl i = q) (Classical.propDecidable _) (fun h => t (Classical.choose h) C) (fun _ => 0), if_pos rfl, fun i hi => ?_, fun j hj => ?_⟩
    · have hne : rl i ≠ C := by rw [← h6]; exact l3 i C hi (by omega)
      dsimp only
      rw [if_neg hne]
      have hex : ∃ k, k < T ∧ rl k = rl i := ⟨i, hi, rfl⟩
      rw [dif_pos hex]
      have hs := Classical.choose_spec hex
      rw [l1 _ i hs.1 hi hs.2]
    · have hne : cl j ≠ C := fun e => by
        have := l2 j C (by omega) (by omega) (by show cl j = cl C; rw [e, h6])
        omega
      dsimp only
      rw [if_neg hne, dif_neg]
      intro ⟨i, hi, e⟩
      exact l3 i j hi (by omega) e
  refine ⟨x, h4 _ (fun i hi => ?_), xC, xc, xr⟩
  show D * x (rl i) + iS (C + 1) (fun j => t i j * x (cl j)) = 0
  rw [xr i hi, iS_one (c := C) (by omega) (fun j hj hne => by rw [xc j (by omega), Int.mul_zero]), h6, xC, Int.mul_neg, Int.mul_comm D]; omega
/-- the help's row and the goal's: their numbers are each other's negatives; and the goal's is nought while the help stands over a column -/
theorem help_row {C R T : Nat} {a t : Nat → Nat → Int} {D : Int} {rl cl : Nat → Nat} (h : SxF C R T a t D rl cl) (hC : 0 < C) (hRT : R < T) (ha : ∀ j, j ≤ C → a R j = if j = C - 1 then 1 else 0) {i : Nat} (hi : i < T) (hl : rl i = C - 1) : t R C + t i C = 0 := by
  obtain ⟨x, hx, x1, x2, x3⟩ := basic h
  have hR := hx R (by omega)
  have e : (1 : Int) * x (C + 1 + R) + iS (C + 1) (fun j => a R j * x j) = 0 := hR
  rw [iS_one (c := C - 1) (by omega) (fun j hj hne => by rw [ha j (by omega), if_neg hne, Int.zero_mul]), ha (C - 1) (by omega), if_pos rfl, Int.one_mul, Int.one_mul] at e
  have e1 := x3 R hRT
  rw [h.2.2.2.2.1 R (Nat.le_refl _) hRT] at e1
  have e2 := x3 i hi
  rw [hl] at e2
  omega

/-! a tableau as minors: labels below n are columns of a, label n + i is the i-th unit vector -/
def vL (n : Nat) (a : Nat → Nat → Int) (q : Nat) (t : Nat) : Int := if q < n then a t q else if t = q - n then 1 else 0
def uL (n : Nat) (q : Nat) : Option Nat := if q < n then none else some (q - n)
theorem uL_unit {n : Nat} {a : Nat → Nat → Int} (q i : Nat) (h : uL n q = some i) (t : Nat) : vL n a q t = if t = i then 1 else 0 := by
  unfold uL at h; unfold vL
  by_cases e : q < n
  · rw [if_pos e] at h; exact absurd h (by simp)
  · rw [if_neg e] at h ⊢; injection h with h; rw [h]
def dL (T n : Nat) (a : Nat → Nat → Int) (B : List Nat) : Int := dT (List.range' 0 T) (B.map (vL n a))
theorem set_mid (P : List Nat) (x : Nat) (Q : List Nat) (y : Nat) {k : Nat} (hk : k = P.length) : (P ++ x :: Q).set k y = P ++ y :: Q := by
  subst hk; rw [List.set_append_right _ _ (Nat.le_refl _), Nat.sub_self]; rfl
theorem set_mid2 (P : List Nat) (x : Nat) (M : List Nat) (z : Nat) (Q : List Nat) (y : Nat) {k : Nat} (hk : k = P.length + 1 + M.length) : (P ++ x :: (M ++ z :: Q)).set k y = P ++ x :: (M ++ y :: Q) := by
  have e : P ++ x :: (M ++ z :: Q) = (P ++ x :: M) ++ z :: Q := by simp
  rw [e, set_mid (P ++ x :: M) z Q y (by rw [hk]; simp; omega)]; simp
theorem two_mid {B : List Nat} {i r : Nat} (h : i < r) (hr : r < B.length) : ∃ P x M z Q, B = P ++ x :: (M ++ z :: Q) ∧ i = P.length ∧ r = P.length + 1 + M.length := by
  refine ⟨B.take i, B[i]'(by omega), (B.drop (i + 1)).take (r - i - 1), B[r], B.drop (r + 1), ?_, ?_, ?_⟩
  · have e1 : B = B.take i ++ B.drop i := (List.take_append_drop i B).symm
    have e2 : B.drop i = B[i]'(by omega) :: B.drop (i + 1) := List.drop_eq_getElem_cons (by omega)
    have e3 : B.drop (i + 1) = (B.drop (i + 1)).take (r - i - 1) ++ (B.drop (i + 1)).drop (r - i - 1) := (List.take_append_drop _ _).symm
    have e4 : (B.drop (i + 1)).drop (r - i - 1) = B[r] :: B.drop (r + 1) := by
      rw [List.drop_drop, show i + 1 + (r - i - 1) = r by omega]; exact List.drop_eq_getElem_cons hr
    rw [← e4, ← e3, ← e2]; exact e1
  · rw [List.length_take]; omega
  · rw [List.length_take, List.length_take, List.length_drop]; omega
theorem exch (T n : Nat) (a : Nat → Nat → Int) (B : List Nat) {i r c j : Nat} (hi : i < B.length) (hr : r < B.length) (hne : i ≠ r) :
    dL T n a B * dL T n a ((B.set r c).set i j) = dL T n a (B.set i j) * dL T n a (B.set r c) - dL T n a (B.set i c) * dL T n a (B.set r j) := by
  unfold dL
  rcases Nat.lt_or_gt_of_ne hne with h | h
  · obtain ⟨P, x, M, z, Q, e, h1, h2⟩ := two_mid h hr
    subst e
    rw [set_mid2 P x M z Q c h2, set_mid P x _ j h1, set_mid P x _ j h1, set_mid P x _ c h1, set_mid2 P x M z Q j h2]
    simp only [List.map_append, List.map_cons]
    exact pivot_exact _ _ _ _ _ _ _ _
  · obtain ⟨P, x, M, z, Q, e, h1, h2⟩ := two_mid h hi
    subst e
    rw [set_mid P x _ c h1, set_mid2 P c M z Q j h2, set_mid2 P x M z Q j h2, set_mid2 P x M z Q c h2, set_mid P x _ j h1]
    simp only [List.map_append, List.map_cons]
    rw [pivot_exact, Int.mul_comm (dT _ (_ ++ vL n a c :: (_ ++ vL n a z :: _))), Int.mul_comm (dT _ (_ ++ vL n a j :: (_ ++ vL n a z :: _)))]
theorem swap2L (T n : Nat) (a : Nat → Nat → Int) (B : List Nat) {i r c : Nat} (hi : i < B.length) (hr : r < B.length) (hne : i ≠ r) : dL T n a ((B.set r c).set i (B[r])) = - dL T n a (B.set i c) := by
  unfold dL
  rcases Nat.lt_or_gt_of_ne hne with h | h
  · obtain ⟨P, x, M, z, Q, e, h1, h2⟩ := two_mid h hr
    subst e
    have eg : (P ++ x :: (M ++ z :: Q))[r] = z := by
      simp [h2]
      rw [List.getElem_append_right (by omega)]
      simp [show P.length + 1 + M.length - P.length = M.length + 1 by omega]
    rw [eg, set_mid2 P x M z Q c h2, set_mid P x _ z h1, set_mid P x _ c h1]
    simp only [List.map_append, List.map_cons]
    exact dT_swap2 _ _ _ _ _ _
  · obtain ⟨P, x, M, z, Q, e, h1, h2⟩ := two_mid h hi
    subst e
    have eg : (P ++ x :: (M ++ z :: Q))[r] = x := by
      simp [h1]
    rw [eg, set_mid P x _ c h1, set_mid2 P c M z Q x h2, set_mid2 P x M z Q c h2]
    simp only [List.map_append, List.map_cons]
    rw [dT_swap2]
/-- the tableau t over the divisor D stands for the columns a: basis B, the columns' labels cl -/
def Rep (T n : Nat) (a : Nat → Nat → Int) (e D : Int) (t : Nat → Nat → Int) (B : List Nat) (cl : Nat → Nat) : Prop :=
  B.length = T ∧ (e = 1 ∨ e = -1) ∧ D = e * dL T n a B ∧ ∀ i, i < T → ∀ j, j < n → t i j = e * dL T n a (B.set i (cl j))
theorem Rep.exact {T n : Nat} {a : Nat → Nat → Int} {e D : Int} {t : Nat → Nat → Int} {B : List Nat} {cl : Nat → Nat} (h : Rep T n a e D t B cl) {r c i j : Nat} (hr : r < T) (hc : c < n) (hi : i < T) (hj : j < n) (hne : i ≠ r) :
    t i j * t r c - t i c * t r j = D * (e * dL T n a ((B.set r (cl c)).set i (cl j))) := by
  obtain ⟨h1, h2, h3, h4⟩ := h
  have hx := exch T n a B (i := i) (r := r) (c := cl c) (j := cl j) (by omega) (by omega) hne
  rw [h3, h4 i hi j hj, h4 r hr c hc, h4 i hi c hc, h4 r hr j hj]
  have ee : e * e = 1 := by rcases h2 with h | h <;> rw [h] <;> rfl
  have k : ∀ x y : Int, e * x * (e * y) = x * y := fun x y => by
    rw [Int.mul_comm e x, Int.mul_assoc, ← Int.mul_assoc e e y, ee, Int.one_mul]
  rw [k, k, k]; exact hx.symm
theorem Rep.pivot {T n : Nat} {a : Nat → Nat → Int} {e D : Int} {t t' : Nat → Nat → Int} {B : List Nat} {cl cl' : Nat → Nat} (h : Rep T n a e D t B cl) {r c : Nat} (hr : r < T) (hc : c < n) {g : Int} (hg : g = 1 ∨ g = -1) (hD : D ≠ 0)
    (e1 : t' r c = g * D) (e2 : ∀ j, j < n → j ≠ c → t' r j = g * t r j) (e3 : ∀ i, i < T → i ≠ r → t' i c = -(g * t i c))
    (e4 : ∀ i, i < T → i ≠ r → ∀ j, j < n → j ≠ c → D * t' i j = g * (t i j * t r c - t i c * t r j))
    (c1 : cl' c = B[r]'(by rw [h.1]; exact hr)) (c2 : ∀ j, j < n → j ≠ c → cl' j = cl j) :
    Rep T n a (g * e) (g * t r c) t' (B.set r (cl c)) cl' := by
  have hx := @Rep.exact T n a e D t B cl h r c
  obtain ⟨h1, h2, h3, h4⟩ := h
  have hge : g * e = 1 ∨ g * e = -1 := by rcases hg with h | h <;> rcases h2 with h' | h' <;> rw [h, h'] <;> simp
  refine ⟨by rw [List.length_set]; exact h1, hge, by rw [h4 r hr c hc, Int.mul_assoc], fun i hi j hj => ?_⟩
  by_cases ei : i = r
  · subst ei
    rw [List.set_set]
    by_cases ej : j = c
    · subst ej
      have e9 : B.set i (B[i]'(by omega)) = B := List.set_getElem_self _
      rw [e1, c1, e9, Int.mul_assoc, ← h3]
    · rw [e2 j hj ej, c2 j hj ej, h4 i hi j hj, Int.mul_assoc]
  · by_cases ej : j = c
    · subst ej
      rw [e3 i hi ei, c1, h4 i hi j hj, swap2L T n a B (by omega) (by omega) ei, Int.mul_neg, Int.mul_assoc]
    · have hh := e4 i hi ei j hj ej
      rw [hx hr hc hi hj ei] at hh
      rw [c2 j hj ej, Int.mul_assoc]
      apply Int.eq_of_mul_eq_mul_left hD
      rw [hh, Int.mul_left_comm]
def sumN : Nat → (Nat → Nat) → Nat
  | 0, _ => 0
  | n + 1, f => sumN n f + f n
theorem sum_below {L : List Nat} (hL : L.Nodup) (f : Nat → Nat) (n : Nat) : (L.map (fun q => if q < n then f q else 0)).sum ≤ sumN n f := by
  induction n with
  | zero =>
    have : L.map (fun q => if q < 0 then f q else 0) = L.map (fun _ => 0) := List.map_congr_left (fun q _ => if_neg (by omega))
    rw [this]
    clear this hL
    induction L with
    | nil => exact Nat.le_refl _
    | cons x L ih => simp only [List.map_cons, List.sum_cons]; omega
  | succ n ih =>
    have : L.map (fun q => if q < n + 1 then f q else 0) = L.map (fun q => (if q < n then f q else 0) + (if q = n then f n else 0)) := List.map_congr_left (fun q _ => by
      by_cases h1 : q < n
      · rw [if_pos (by omega), if_pos h1, if_neg (by omega)]; rfl
      · by_cases h2 : q = n
        · rw [if_pos (by omega), if_neg h1, if_pos h2, h2]; omega
        · rw [if_neg (by omega), if_neg h1, if_neg h2])
    rw [this, sum_add]
    simp only [sumN]
    have := sum_one hL n (f n)
    omega
theorem nonU_le {L : List Nat} (hL : L.Nodup) (n : Nat) : nonU (uL n) L ≤ n := by
  have h := sum_below hL (fun _ => 1) n
  have e1 : sumN n (fun _ => 1) = n := by
    clear h
    induction n with
    | zero => rfl
    | succ n ih => simp only [sumN]; omega
  have e2 : nonU (uL n) L = (L.map (fun q => if q < n then (fun _ => 1) q else 0)).sum := by
    clear h hL
    induction L with
    | nil => rfl
    | cons x L ih =>
      simp only [nonU, List.map_cons, List.sum_cons]
      rw [ih]
      unfold uL
      by_cases e : x < n
      · rw [if_pos e, if_pos e]
      · rw [if_neg e, if_neg e]
  rw [e2]; exact Nat.le_trans h (Nat.le_of_eq e1)
/-- a row's entries in what stands in L, if its unit vector doesn't -/
theorem row_sum {L : List Nat} (hL : L.Nodup) {n : Nat} {a : Nat → Nat → Int} {t : Nat} (hu : ¬ n + t ∈ L) : (L.map (fun q => (vL n a q t).natAbs)).sum ≤ sumN n (fun q => (a t q).natAbs) := by
  refine Nat.le_trans (Nat.le_of_eq ?_) (sum_below hL (fun q => (a t q).natAbs) n)
  congr 1
  refine List.map_congr_left (fun q hq => ?_)
  unfold vL
  by_cases e : q < n
  · rw [if_pos e, if_pos e]
  · rw [if_neg e, if_neg e, if_neg (fun e2 => hu (by rw [show n + t = q by omega]; exact hq))]; rfl
theorem row_but {L : List Nat} (hL : L.Nodup) {C : Nat} {a : Nat → Nat → Int} {t : Nat} (hu : ¬ C + 1 + t ∈ L) : (L.map (fun q => if q = C then 0 else (vL (C + 1) a q t).natAbs)).sum ≤ sumN C (fun q => (a t q).natAbs) := by
  refine Nat.le_trans (Nat.le_of_eq ?_) (sum_below hL (fun q => (a t q).natAbs) C)
  congr 1
  refine List.map_congr_left (fun q hq => ?_)
  unfold vL
  by_cases e : q < C
  · rw [if_neg (by omega), if_pos (by omega), if_pos e]
  · by_cases e2 : q = C
    · rw [if_pos e2, if_neg e]
    · rw [if_neg e2, if_neg e, if_neg (by omega), if_neg (fun e2 => hu (by rw [show C + 1 + t = q by omega]; exact hq))]; rfl
theorem nL_le (R T s : Nat) : nL R (List.range' s T) ≤ R - s := by
  induction T generalizing s with
  | zero => exact Nat.zero_le _
  | succ T ih => rw [List.range'_succ]; simp only [nL]; have := ih (s + 1); split <;> omega
/-- no minor is greater: W bounds a line's sum beside the last column, Bc the last column, GM a goal's sum; k of the rows or columns at most -/
theorem dL_bd {T C : Nat} {a : Nat → Nat → Int} {L : List Nat} (hL : L.Nodup) {W Bc GM R g0 k : Nat} (hW : 1 ≤ W) (hG : 1 ≤ GM) (hk : R ≤ k ∨ C + 1 ≤ k) (hg : R ≤ g0)
    (hrow : ∀ t, t < R → sumN C (fun q => (a t q).natAbs) ≤ W) (hcon : ∀ t, t < R → (a t C).natAbs ≤ Bc) (hgoal : ∀ t, R ≤ t → t < T → t ≠ g0 → C + 1 + t ∈ L) (hg0 : g0 < T → sumN (C + 1) (fun q => (a g0 q).natAbs) ≤ GM) :
    (dL T (C + 1) a L).natAbs ≤ bF W Bc 1 k * GM := by
  unfold dL
  refine Nat.le_trans (dT_bd (vL (C + 1) a) (uL (C + 1)) uL_unit W Bc GM C R g0 hW hG (by unfold uL; rw [if_pos (by omega)]) hg (List.range' 0 T) L List.nodup_range' hL (fun t ht => ?_)) (Nat.mul_le_mul (bF_mono hW (by split <;> omega) ?_) (by split <;> omega))
  · have htT : t < T := by simp [List.mem_range'] at ht; omega
    by_cases hu : C + 1 + t ∈ L
    · exact Or.inl ⟨C + 1 + t, hu, by unfold uL; rw [if_neg (by omega)]; congr 1; omega⟩
    · right
      by_cases e : t < R
      · exact Or.inl ⟨e, Nat.le_trans (row_but hL hu) (hrow t e), by unfold vL; rw [if_pos (by omega)]; exact hcon t e⟩
      · right
        have e0 : t = g0 := Classical.byContradiction fun h => hu (hgoal t (by omega) htT h)
        exact ⟨e0, Nat.le_trans (row_sum hL (a := a) hu) (by rw [e0]; exact hg0 (by omega))⟩
  · have h1 := nonU_le hL (C + 1)
    have h2 := nL_le R T 0
    omega
/-- at the start: unit vectors -/
theorem dT_units (n : Nat) (a : Nat → Nat → Int) (k s : Nat) : dT (List.range' s k) ((List.range' (n + s) k).map (vL n a)) = 1 := by
  induction k generalizing s with
  | zero => rfl
  | succ k ih =>
    rw [List.range'_succ, List.range'_succ, List.map_cons, dT_cons]
    simp only [sR]
    have e1 : vL n a (n + s) s = 1 := by unfold vL; rw [if_neg (by omega), if_pos (by omega)]
    rw [e1, Int.one_mul, show n + s + 1 = n + (s + 1) by omega, ih (s + 1)]
    have z : sR ((List.range' (n + (s + 1)) k).map (vL n a)) (fun w r => w s * dT (List.range' (s + 1) k) (vL n a (n + s) :: r)) = 0 := by
      rw [sR_map]
      have hb := sR_bd (List.range' (n + (s + 1)) k) (fun q r => vL n a q s * dT (List.range' (s + 1) k) (vL n a (n + s) :: r.map (vL n a))) (fun _ => 0) (fun l1 q l2 e => by
        have hq : q ∈ List.range' (n + (s + 1)) k := by rw [e]; exact List.mem_append_right _ List.mem_cons_self
        have hq2 : n + (s + 1) ≤ q := by simp [List.mem_range'] at hq; omega
        have : vL n a q s = 0 := by unfold vL; rw [if_neg (by omega), if_neg (by omega)]
        rw [this, Int.zero_mul]; exact Nat.le_refl _)
      have hz : ∀ L : List Nat, (L.map (fun _ => 0)).sum = 0 := fun L => by
        induction L with
        | nil => rfl
        | cons x L ih => simp only [List.map_cons, List.sum_cons]; omega
      rw [hz] at hb
      omega
    rw [z]; rfl
theorem cS_units (rows : List Nat) (v : Nat → Int) (n : Nat) (a : Nat → Nat → Int) (i : Nat) : ∀ (P Q : List Nat), (∀ q ∈ P, vL n a q i = 0) → (∀ q ∈ Q, vL n a q i = 0) → ∀ x, vL n a x i = 1 →
    cS rows v (fun w => w i) [] ((P ++ x :: Q).map (vL n a)) = dT rows (P.map (vL n a) ++ v :: Q.map (vL n a)) := by
  intro P Q hP hQ x hx
  rw [List.map_append, List.map_cons, cS_app rows v _ [] _ _ (fun w hw => by
    obtain ⟨q, hq, e⟩ := List.mem_map.mp hw
    rw [← e]; exact hP q hq)]
  simp only [List.nil_append, cS]
  rw [cS_none rows v _ _ _ (fun w hw => by
    obtain ⟨q, hq, e⟩ := List.mem_map.mp hw
    rw [← e]; exact hQ q hq), hx, Int.one_mul, Int.add_zero]
theorem Rep.init (T n : Nat) (a : Nat → Nat → Int) : Rep T n a 1 1 a (List.range' n T) (fun j => j) := by
  have hu := dT_units n a T 0
  rw [Nat.add_zero] at hu
  refine ⟨List.length_range', Or.inl rfl, by unfold dL; rw [hu]; rfl, fun i hi j hj => ?_⟩
  rw [Int.one_mul]
  unfold dL
  have hc := cramer (List.range' 0 T) (vL n a j) ((List.range' n T).map (vL n a)) i (by simp [List.mem_range']; omega)
  rw [hu, Int.one_mul] at hc
  have e0 : vL n a j i = a i j := by unfold vL; rw [if_pos hj]
  rw [← e0, hc]
  have eB : List.range' n T = List.range' n i ++ (n + i) :: List.range' (n + i + 1) (T - i - 1) := by
    rw [← List.range'_succ, List.range'_append_1]; congr 1; omega
  rw [eB, cS_units _ _ n a i _ _ (fun q hq => by
      have : q < n + i ∧ n ≤ q := by simp [List.mem_range'] at hq; omega
      unfold vL; rw [if_neg (by omega), if_neg (by omega)]) (fun q hq => by
      have : n + i + 1 ≤ q := by simp [List.mem_range'] at hq; omega
      unfold vL; rw [if_neg (by omega), if_neg (by omega)]) (n + i) (by unfold vL; rw [if_neg (by omega), if_pos (by omega)])]
  rw [set_mid _ _ _ j (by rw [List.length_range']), List.map_append, List.map_cons]

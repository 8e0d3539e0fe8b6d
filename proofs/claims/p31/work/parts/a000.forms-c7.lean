section
/-! sums over the ways of taking one thing out of a list, with alternating signs; forms (minors) by them -/
def sR {α : Type} : List α → (α → List α → Int) → Int
  | [], _ => 0
  | v :: vs, g => g v vs - sR vs (fun w r => g w (v :: r))
theorem sR_congr {α : Type} {vs : List α} {g h : α → List α → Int} (e : ∀ v r, g v r = h v r) : sR vs g = sR vs h := by
  have : g = h := funext fun v => funext fun r => e v r
  rw [this]
theorem sR_sub {α : Type} (vs : List α) (g h : α → List α → Int) : sR vs (fun v r => g v r - h v r) = sR vs g - sR vs h := by
  induction vs generalizing g h with
  | nil => rfl
  | cons x vs ih =>
    simp only [sR]
    rw [ih]
    omega
theorem sR_add {α : Type} (vs : List α) (g h : α → List α → Int) : sR vs (fun v r => g v r + h v r) = sR vs g + sR vs h := by
  induction vs generalizing g h with
  | nil => rfl
  | cons x vs ih =>
    simp only [sR]
    rw [ih]
    omega
theorem sR_neg {α : Type} (vs : List α) (g : α → List α → Int) : sR vs (fun v r => - g v r) = - sR vs g := by
  induction vs generalizing g with
  | nil => rfl
  | cons x vs ih =>
    simp only [sR]
    rw [ih]
    omega
theorem sR_mul {α : Type} (vs : List α) (k : Int) (g : α → List α → Int) : sR vs (fun v r => k * g v r) = k * sR vs g := by
  induction vs generalizing g with
  | nil => simp [sR]
  | cons x vs ih =>
    simp only [sR]
    rw [ih, Int.mul_sub]
theorem sR_zero {α : Type} (vs : List α) : sR vs (fun _ _ => 0) = 0 := by
  induction vs with
  | nil => rfl
  | cons x vs ih => simp only [sR]; rw [ih]; rfl
/-- two taken out, in the other order: the sign turns -/
theorem sR_two {α : Type} (vs : List α) (h : α → α → List α → Int) : sR vs (fun v r => sR r (fun w r' => h v w r')) = - sR vs (fun v r => sR r (fun w r' => h w v r')) := by
  induction vs generalizing h with
  | nil => rfl
  | cons x vs ih =>
    simp only [sR]
    rw [sR_sub, sR_sub]
    have := ih (fun v w r => h v w (x :: r))
    have e1 : sR vs (fun w r' => h x w r') = sR vs (h x) := rfl
    have e2 : sR vs (fun w r' => h w x r') = sR vs (fun w => h w x) := rfl
    omega
/-- minors: rows (coordinates) and vectors -/
def dT : List Nat → List (Nat → Int) → Int
  | [], [] => 1
  | [], _ :: _ => 0
  | t :: rows, vs => sR vs (fun v r => v t * dT rows r)
theorem dT_cons (t : Nat) (rows : List Nat) (vs : List (Nat → Int)) : dT (t :: rows) vs = sR vs (fun v r => v t * dT rows r) := by
  simp only [dT]
theorem dT_nil (l1 : List (Nat → Int)) (a : Nat → Int) (l2 : List (Nat → Int)) : dT [] (l1 ++ a :: l2) = 0 := by
  cases l1 <;> rfl
/-- two neighbours that change places: the sign turns -/
theorem sR_swap {α : Type} (pre : List α) (a b : α) (post : List α) (g : α → List α → Int) (hg : ∀ v l1 l2, g v (l1 ++ a :: b :: l2) = - g v (l1 ++ b :: a :: l2)) : sR (pre ++ a :: b :: post) g = - sR (pre ++ b :: a :: post) g := by
  induction pre generalizing g with
  | nil =>
    simp only [List.nil_append, sR]
    have h : sR post (fun w r => g w (a :: b :: r)) = - sR post (fun w r => g w (b :: a :: r)) := by
      rw [← sR_neg]
      exact sR_congr fun v r => hg v [] r
    omega
  | cons p pre ih =>
    simp only [List.cons_append, sR]
    rw [hg p pre post, ih (fun w r => g w (p :: r)) (fun v l1 l2 => hg v (p :: l1) l2)]
    omega
theorem dT_swap (rows : List Nat) (pre : List (Nat → Int)) (a b : Nat → Int) (post : List (Nat → Int)) : dT rows (pre ++ a :: b :: post) = - dT rows (pre ++ b :: a :: post) := by
  induction rows generalizing pre post with
  | nil => rw [dT_nil, dT_nil]; rfl
  | cons t rows ih =>
    rw [dT_cons, dT_cons]
    exact sR_swap pre a b post _ (fun v l1 l2 => by rw [ih l1 l2, Int.mul_neg])
theorem dT_dup (rows : List Nat) (pre : List (Nat → Int)) (a : Nat → Int) (mid post : List (Nat → Int)) : dT rows (pre ++ a :: (mid ++ a :: post)) = 0 := by
  induction mid generalizing pre with
  | nil =>
    have := dT_swap rows pre a a post
    simp only [List.nil_append]
    omega
  | cons b mid ih =>
    have h1 := dT_swap rows pre a b (mid ++ a :: post)
    have h2 := ih (pre ++ [b])
    rw [List.append_assoc] at h2
    simp only [List.cons_append, List.nil_append] at h1 h2 ⊢
    rw [h1, h2]; rfl
/-- a row twice: nothing -/
theorem dT_row (rows : List Nat) (t : Nat) (ht : t ∈ rows) (vs : List (Nat → Int)) : sR vs (fun v r => v t * dT rows r) = 0 := by
  induction rows generalizing vs with
  | nil => exact absurd ht List.not_mem_nil
  | cons r0 rows ih =>
    have e1 : sR vs (fun v r => v t * dT (r0 :: rows) r) = sR vs (fun v r => sR r (fun w r' => v t * (w r0 * dT rows r'))) :=
      sR_congr fun v r => by rw [dT_cons, sR_mul]
    rw [e1]
    rcases List.mem_cons.mp ht with rfl | h
    · have h2 := sR_two vs (fun v w r' => v t * (w t * dT rows r'))
      have h3 : sR vs (fun v r => sR r (fun w r' => w t * (v t * dT rows r'))) = sR vs (fun v r => sR r (fun w r' => v t * (w t * dT rows r'))) :=
        sR_congr fun v r => sR_congr fun w r' => by rw [← Int.mul_assoc, ← Int.mul_assoc, Int.mul_comm (w t)]
      rw [h3] at h2
      omega
    · rw [sR_two]
      have h4 : sR vs (fun v r => sR r (fun w r' => w t * (v r0 * dT rows r'))) = sR vs (fun _ _ => 0) :=
        sR_congr fun v r => by
          have h5 : sR r (fun w r' => w t * (v r0 * dT rows r')) = v r0 * sR r (fun w r' => w t * dT rows r') := by
            rw [← sR_mul]
            exact sR_congr fun w r' => by rw [← Int.mul_assoc, ← Int.mul_assoc, Int.mul_comm (w t)]
          rw [h5, ih h r, Int.mul_zero]
      rw [h4, sR_zero]; rfl
theorem sR_lin {α : Type} (pre : List α) (x u w : α) (p q : Int) (post : List α) (g : α → List α → Int) (h1 : ∀ r, g x r = p * g u r + q * g w r) (h2 : ∀ v l1 l2, g v (l1 ++ x :: l2) = p * g v (l1 ++ u :: l2) + q * g v (l1 ++ w :: l2)) : sR (pre ++ x :: post) g = p * sR (pre ++ u :: post) g + q * sR (pre ++ w :: post) g := by
  induction pre generalizing g with
  | nil =>
    simp only [List.nil_append, sR]
    have h3 : sR post (fun v r => g v (x :: r)) = p * sR post (fun v r => g v (u :: r)) + q * sR post (fun v r => g v (w :: r)) := by
      rw [← sR_mul, ← sR_mul, ← sR_add]
      exact sR_congr fun v r => h2 v [] r
    rw [h1, h3, Int.mul_sub, Int.mul_sub]
    omega
  | cons y pre ih =>
    simp only [List.cons_append, sR]
    rw [h2 y pre post, ih (fun v r => g v (y :: r)) (fun r => h1 (y :: r)) (fun v l1 l2 => h2 v (y :: l1) l2), Int.mul_sub, Int.mul_sub]
    omega
theorem dT_lin (rows : List Nat) (pre : List (Nat → Int)) (u w : Nat → Int) (p q : Int) (post : List (Nat → Int)) : dT rows (pre ++ (fun t => p * u t + q * w t) :: post) = p * dT rows (pre ++ u :: post) + q * dT rows (pre ++ w :: post) := by
  induction rows generalizing pre post with
  | nil => rw [dT_nil, dT_nil, dT_nil]; omega
  | cons t rows ih =>
    rw [dT_cons, dT_cons, dT_cons]
    refine sR_lin pre _ u w p q post _ (fun r => ?_) (fun v l1 l2 => ?_)
    · rw [Int.add_mul, Int.mul_assoc, Int.mul_assoc]
    · rw [ih l1 l2, Int.mul_add, Int.mul_left_comm, Int.mul_left_comm (v t) q]
/-- only the coordinates in rows count -/
theorem sR_alike {α : Type} (pre : List α) (x y : α) (post : List α) (g : α → List α → Int) (h1 : ∀ r, g x r = g y r) (h2 : ∀ v l1 l2, g v (l1 ++ x :: l2) = g v (l1 ++ y :: l2)) : sR (pre ++ x :: post) g = sR (pre ++ y :: post) g := by
  induction pre generalizing g with
  | nil =>
    simp only [List.nil_append, sR]
    have h3 : sR post (fun w r => g w (x :: r)) = sR post (fun w r => g w (y :: r)) := sR_congr fun v r => h2 v [] r
    rw [h1, h3]
  | cons z pre ih =>
    simp only [List.cons_append, sR]
    rw [h2 z pre post, ih (fun v r => g v (z :: r)) (fun r => h1 (z :: r)) (fun v l1 l2 => h2 v (z :: l1) l2)]
theorem dT_alike (rows : List Nat) (pre : List (Nat → Int)) (x y : Nat → Int) (post : List (Nat → Int)) (h : ∀ t ∈ rows, x t = y t) : dT rows (pre ++ x :: post) = dT rows (pre ++ y :: post) := by
  induction rows generalizing pre post with
  | nil => rw [dT_nil, dT_nil]
  | cons t rows ih =>
    rw [dT_cons, dT_cons]
    exact sR_alike pre x y post _ (fun r => by rw [h t List.mem_cons_self]) (fun v l1 l2 => by rw [ih l1 l2 (fun s hs => h s (List.mem_cons_of_mem _ hs))])
/-- the sum over the places of the second list, a standing there -/
def cS (rows : List Nat) (a : Nat → Int) (f : (Nat → Int) → Int) : List (Nat → Int) → List (Nat → Int) → Int
  | _, [] => 0
  | pre, w :: post => f w * dT rows (pre ++ a :: post) + cS rows a f (pre ++ [w]) post
theorem cS_sR (rows : List Nat) (a : Nat → Int) (f : (Nat → Int) → Int) (pre post : List (Nat → Int)) : sR post (fun w r => f w * dT rows (pre ++ a :: r)) = cS rows a f pre post := by
  induction post generalizing pre with
  | nil => rfl
  | cons w post ih =>
    simp only [sR, cS]
    have h : sR post (fun w' r => f w' * dT rows (pre ++ a :: w :: r)) = - sR post (fun w' r => f w' * dT rows ((pre ++ [w]) ++ a :: r)) := by
      rw [← sR_neg]
      exact sR_congr fun v r => by rw [dT_swap, Int.mul_neg, List.append_assoc]; rfl
    rw [h, ih (pre ++ [w])]
    omega
/-- the sum that stands for a vector, in the coordinates of rows -/
theorem cramer (rows : List Nat) (a : Nat → Int) (B : List (Nat → Int)) (t : Nat) (ht : t ∈ rows) : dT rows B * a t = cS rows a (fun w => w t) [] B := by
  have h := dT_row rows t ht (a :: B)
  simp only [sR] at h
  rw [← cS_sR]
  simp only [List.nil_append]
  rw [Int.mul_comm]
  omega
theorem cS_lin (rows : List Nat) (a : Nat → Int) (P Q : List (Nat → Int)) (pre post : List (Nat → Int)) : dT rows (P ++ (fun t => cS rows a (fun w => w t) pre post) :: Q) = cS rows a (fun x => dT rows (P ++ x :: Q)) pre post := by
  induction post generalizing pre with
  | nil =>
    have h := dT_lin rows P (fun _ => 0) (fun _ => 0) 0 0 Q
    simp only [Int.zero_mul, Int.add_zero] at h
    simp only [cS]
    exact h
  | cons w post ih =>
    simp only [cS]
    have h := dT_lin rows P w (fun t => cS rows a (fun w => w t) (pre ++ [w]) post) (dT rows (pre ++ a :: post)) 1 Q
    rw [ih (pre ++ [w])] at h
    have e : (fun t => w t * dT rows (pre ++ a :: post) + cS rows a (fun w => w t) (pre ++ [w]) post) = (fun t => dT rows (pre ++ a :: post) * w t + 1 * cS rows a (fun w => w t) (pre ++ [w]) post) := by
      funext t; rw [Int.mul_comm, Int.one_mul]
    rw [e, h, Int.one_mul, Int.mul_comm]
/-- the same with a form in the place of a coordinate -/
theorem cramer_form (rows : List Nat) (a : Nat → Int) (B P Q : List (Nat → Int)) : dT rows B * dT rows (P ++ a :: Q) = cS rows a (fun x => dT rows (P ++ x :: Q)) [] B := by
  rw [← cS_lin]
  have h := dT_lin rows P a (fun _ => 0) (dT rows B) 0 Q
  simp only [Int.zero_mul, Int.add_zero] at h
  rw [← h]
  exact dT_alike rows P _ _ Q (fun t ht => cramer rows a B t ht)
theorem cS_app (rows : List Nat) (a : Nat → Int) (f : (Nat → Int) → Int) (pre l1 l2 : List (Nat → Int)) (h : ∀ w ∈ l1, f w = 0) : cS rows a f pre (l1 ++ l2) = cS rows a f (pre ++ l1) l2 := by
  induction l1 generalizing pre with
  | nil => simp
  | cons w l1 ih =>
    simp only [List.cons_append, cS]
    rw [h w List.mem_cons_self, Int.zero_mul, Int.zero_add, ih (pre ++ [w]) (fun v hv => h v (List.mem_cons_of_mem _ hv)), List.append_assoc]
    rfl
theorem cS_none (rows : List Nat) (a : Nat → Int) (f : (Nat → Int) → Int) (pre l1 : List (Nat → Int)) (h : ∀ w ∈ l1, f w = 0) : cS rows a f pre l1 = 0 := by
  have := cS_app rows a f pre l1 [] h
  rw [List.append_nil] at this
  rw [this]; rfl
theorem dT_dupP (rows : List Nat) (P M : List (Nat → Int)) (w : Nat → Int) (hw : w ∈ P) : dT rows (P ++ w :: M) = 0 := by
  obtain ⟨s1, s2, rfl⟩ := List.append_of_mem hw
  have := dT_dup rows s1 w s2 M
  simpa [List.append_assoc] using this
theorem dT_dupQ (rows : List Nat) (P Q : List (Nat → Int)) (w : Nat → Int) (hw : w ∈ Q) : dT rows (P ++ w :: Q) = 0 := by
  obtain ⟨s1, s2, rfl⟩ := List.append_of_mem hw
  exact dT_dup rows P w s1 s2
/-- two that are not neighbours change places -/
theorem dT_swap2 (rows : List Nat) (P : List (Nat → Int)) (x y : Nat → Int) (M Q : List (Nat → Int)) : dT rows (P ++ x :: (M ++ y :: Q)) = - dT rows (P ++ y :: (M ++ x :: Q)) := by
  have h := dT_dup rows P (fun t => 1 * x t + 1 * y t) M Q
  rw [dT_lin, show P ++ x :: (M ++ (fun t => 1 * x t + 1 * y t) :: Q) = (P ++ x :: M) ++ (fun t => 1 * x t + 1 * y t) :: Q by simp, show P ++ y :: (M ++ (fun t => 1 * x t + 1 * y t) :: Q) = (P ++ y :: M) ++ (fun t => 1 * x t + 1 * y t) :: Q by simp, dT_lin, dT_lin] at h
  have h1 := dT_dup rows P x M Q
  have h2 := dT_dup rows P y M Q
  have e1 : P ++ x :: (M ++ x :: Q) = (P ++ x :: M) ++ x :: Q := by simp
  have e2 : P ++ y :: (M ++ y :: Q) = (P ++ y :: M) ++ y :: Q := by simp
  have e3 : P ++ x :: (M ++ y :: Q) = (P ++ x :: M) ++ y :: Q := by simp
  have e4 : P ++ y :: (M ++ x :: Q) = (P ++ y :: M) ++ x :: Q := by simp
  rw [e1] at h1; rw [e2] at h2; rw [e3, e4]
  omega
/-- AN EXCHANGE IS EXACT: of a basis P, bi, M, br, Q (bi ahead of br), br leaves for c; the entry of j in bi's row -/
theorem pivot_exact (rows : List Nat) (P M Q : List (Nat → Int)) (bi br c j : Nat → Int) :
    dT rows (P ++ bi :: (M ++ br :: Q)) * dT rows (P ++ j :: (M ++ c :: Q)) =
    dT rows (P ++ j :: (M ++ br :: Q)) * dT rows (P ++ bi :: (M ++ c :: Q)) - dT rows (P ++ c :: (M ++ br :: Q)) * dT rows (P ++ bi :: (M ++ j :: Q)) := by
  have h := cramer_form rows j (P ++ bi :: (M ++ br :: Q)) P (M ++ c :: Q)
  rw [h, cS_app rows j _ [] P _ (fun w hw => dT_dupP rows P _ w hw)]
  simp only [List.nil_append, cS]
  rw [cS_app rows j _ (P ++ [bi]) M _ (fun w hw => dT_dupQ rows P (M ++ c :: Q) w (List.mem_append_left _ hw))]
  simp only [cS]
  rw [cS_none rows j _ _ Q (fun w hw => dT_dupQ rows P (M ++ c :: Q) w (List.mem_append_right _ (List.mem_cons_of_mem _ hw)))]
  have e := dT_swap2 rows P br c M Q
  have e5 : (P ++ [bi] ++ M) ++ j :: Q = P ++ bi :: (M ++ j :: Q) := by simp
  rw [e, e5, Int.add_zero, Int.neg_mul, Int.mul_comm (dT rows (P ++ bi :: (M ++ c :: Q)))]
  omega
end
section
/-! the least-number rule ends -/
def iS : Nat → (Nat → Int) → Int
  | 0, _ => 0
  | n + 1, f => iS n f + f n
theorem iS_congr {n : Nat} {f g : Nat → Int} (h : ∀ j, j < n → f j = g j) : iS n f = iS n g := by
  induction n with
  | zero => rfl
  | succ n ih => simp only [iS]; rw [ih (fun j hj => h j (by omega)), h n (by omega)]
theorem iS_add (n : Nat) (f g : Nat → Int) : iS n (fun j => f j + g j) = iS n f + iS n g := by
  induction n with
  | zero => rfl
  | succ n ih => simp only [iS]; rw [ih]; omega
theorem iS_mul (n : Nat) (k : Int) (f : Nat → Int) : iS n (fun j => k * f j) = k * iS n f := by
  induction n with
  | zero => simp [iS]
  | succ n ih => simp only [iS]; rw [ih, Int.mul_add]
theorem iS_zero {n : Nat} {f : Nat → Int} (h : ∀ j, j < n → f j = 0) : iS n f = 0 := by
  induction n with
  | zero => rfl
  | succ n ih => simp only [iS]; rw [ih (fun j hj => h j (by omega)), h n (by omega)]; rfl
/-- all but one place -/
theorem iS_split {n c : Nat} (hc : c < n) (f : Nat → Int) : iS n f = iS n (fun j => if j = c then 0 else f j) + f c := by
  induction n with
  | zero => omega
  | succ n ih =>
    simp only [iS]
    by_cases e : c = n
    · rw [if_pos e.symm, e]
      have : iS n (fun j => if j = n then 0 else f j) = iS n f := iS_congr fun j hj => if_neg (by omega)
      rw [this]; omega
    · rw [if_neg (fun h => e h.symm), ih (by omega)]; omega
theorem iS_one {n c : Nat} (hc : c < n) {f : Nat → Int} (h : ∀ j, j < n → j ≠ c → f j = 0) : iS n f = f c := by
  rw [iS_split hc, iS_zero (fun j hj => by by_cases e : j = c; rw [if_pos e]; rw [if_neg e]; exact h j hj e)]
  omega
theorem iS_below {n : Nat} {f : Nat → Int} (h : iS n f < 0) : ∃ j, j < n ∧ f j < 0 := by
  induction n with
  | zero => simp [iS] at h
  | succ n ih =>
    simp only [iS] at h
    by_cases e : f n < 0
    · exact ⟨n, by omega, e⟩
    · obtain ⟨j, hj, hf⟩ := ih (by omega)
      exact ⟨j, by omega, hf⟩
/-- a tableau: entries, the divisor, the labels of rows and columns -/
abbrev Tb : Type := (Nat → Nat → Int) × Int × (Nat → Nat) × (Nat → Nat)
/-- x keeps the rows -/
def Sys (m n : Nat) (S : Tb) (x : Nat → Int) : Prop := ∀ i, i < m → S.2.1 * x (S.2.2.1 i) + iS n (fun j => S.1 i j * x (S.2.2.2 j)) = 0
/-- an exchange in row r, column c; g is the sign of its entry -/
def Piv (m n : Nat) (S S' : Tb) (r c : Nat) (g : Int) : Prop :=
  r < m ∧ c < n ∧ g * g = 1 ∧ 0 < S.2.1 ∧ 0 < S'.2.1 ∧ S'.2.1 = g * S.1 r c ∧ S'.1 r c = g * S.2.1 ∧
  (∀ j, j < n → j ≠ c → S'.1 r j = g * S.1 r j) ∧ (∀ i, i < m → i ≠ r → S'.1 i c = - (g * S.1 i c)) ∧
  (∀ i, i < m → i ≠ r → ∀ j, j < n → j ≠ c → S.2.1 * S'.1 i j = g * (S.1 i j * S.1 r c - S.1 i c * S.1 r j)) ∧
  S'.2.2.1 r = S.2.2.2 c ∧ (∀ i, i < m → i ≠ r → S'.2.2.1 i = S.2.2.1 i) ∧ S'.2.2.2 c = S.2.2.1 r ∧ (∀ j, j < n → j ≠ c → S'.2.2.2 j = S.2.2.2 j)
theorem Piv.symm {m n : Nat} {S S' : Tb} {r c : Nat} {g : Int} (h : Piv m n S S' r c g) : Piv m n S' S r c g := by
  obtain ⟨hr, hc, hg, hD, hD', e1, e2, e3, e4, e5, e6, e7, e8, e9⟩ := h
  have gg : ∀ x : Int, g * (g * x) = x := fun x => by rw [← Int.mul_assoc, hg, Int.one_mul]
  refine ⟨hr, hc, hg, hD', hD, by rw [e2, gg], by rw [e1, gg], fun j hj hn => by rw [e3 j hj hn, gg], fun i hi hn => by rw [e4 i hi hn, Int.mul_neg, gg, Int.neg_neg], fun i hi hn j hj hm => ?_, e8.symm, fun i hi hn => (e7 i hi hn).symm, e6.symm, fun j hj hn => (e9 j hj hn).symm⟩
  have h1 := e5 i hi hn j hj hm
  rw [e2, e4 i hi hn, e3 j hj hm, e1]
  have h2 : g * (S'.1 i j * (g * S.2.1) - -(g * S.1 i c) * (g * S.1 r j)) = g * g * (S.2.1 * S'.1 i j) + g * (g * g) * (S.1 i c * S.1 r j) := by
    rw [Int.mul_sub, Int.neg_mul, Int.mul_neg, Int.sub_neg]
    congr 1
    · rw [Int.mul_left_comm (S'.1 i j) g, ← Int.mul_assoc, Int.mul_comm (S'.1 i j)]
    · rw [Int.mul_assoc g (S.1 i c), Int.mul_left_comm (S.1 i c) g, ← Int.mul_assoc, ← Int.mul_assoc, ← Int.mul_assoc]
      simp [Int.mul_assoc]
  rw [h2, hg, h1, Int.one_mul, Int.mul_one, Int.mul_sub]
  rw [Int.mul_comm (S.1 i j), Int.mul_assoc]
  omega
theorem Piv.sys {m n : Nat} {S S' : Tb} {r c : Nat} {g : Int} (h : Piv m n S S' r c g) {x : Nat → Int} (hx : Sys m n S x) : Sys m n S' x := by
  obtain ⟨hr, hc, hg, hD, hD', e1, e2, e3, e4, e5, e6, e7, e8, e9⟩ := h
  have hrow := hx r hr
  rw [iS_split hc] at hrow
  intro i hi
  rw [iS_split hc]
  by_cases hn : i = r
  · subst hn
    have h1 : iS n (fun j => if j = c then 0 else S'.1 i j * x (S'.2.2.2 j)) = g * iS n (fun j => if j = c then 0 else S.1 i j * x (S.2.2.2 j)) := by
      rw [← iS_mul]
      exact iS_congr fun j hj => by
        by_cases e : j = c
        · rw [if_pos e, if_pos e, Int.mul_zero]
        · rw [if_neg e, if_neg e, e3 j hj e, e9 j hj e, Int.mul_assoc]
    rw [h1, e1, e2, e6, e8]
    have h2 := congrArg (fun z => g * z) hrow
    simp only [Int.mul_zero, Int.mul_add] at h2
    rw [Int.mul_assoc, Int.mul_assoc]
    omega
  · have hri := hx i hi
    rw [iS_split hc] at hri
    have h1 : S.2.1 * iS n (fun j => if j = c then 0 else S'.1 i j * x (S'.2.2.2 j)) = (g * S.1 r c) * iS n (fun j => if j = c then 0 else S.1 i j * x (S.2.2.2 j)) + (- (g * S.1 i c)) * iS n (fun j => if j = c then 0 else S.1 r j * x (S.2.2.2 j)) := by
      rw [← iS_mul, ← iS_mul, ← iS_mul, ← iS_add]
      exact iS_congr fun j hj => by
        by_cases e : j = c
        · rw [if_pos e, if_pos e, if_pos e, Int.mul_zero, Int.mul_zero, Int.mul_zero]; rfl
        · rw [if_neg e, if_neg e, if_neg e, e9 j hj e, ← Int.mul_assoc, e5 i hi hn j hj e, Int.mul_sub, Int.sub_mul, Int.neg_mul]
          rw [Int.mul_comm (S.1 i j), ← Int.mul_assoc g, Int.mul_assoc (g * S.1 r c), ← Int.mul_assoc g, Int.mul_assoc (g * S.1 i c)]
          rfl
    have h2 : S.2.1 * (S'.2.1 * x (S'.2.2.1 i) + (iS n (fun j => if j = c then 0 else S'.1 i j * x (S'.2.2.2 j)) + S'.1 i c * x (S'.2.2.2 c))) = 0 := by
      rw [Int.mul_add, Int.mul_add, h1, e1, e4 i hi hn, e7 i hi hn, e8]
      have a1 := congrArg (fun z => (g * S.1 r c) * z) hri
      have a2 := congrArg (fun z => (g * S.1 i c) * z) hrow
      simp only [Int.mul_zero, Int.mul_add] at a1 a2
      have b1 : S.2.1 * (g * S.1 r c * x (S.2.2.1 i)) = g * S.1 r c * (S.2.1 * x (S.2.2.1 i)) := Int.mul_left_comm _ _ _
      have b2 : S.2.1 * (-(g * S.1 i c) * x (S.2.2.1 r)) = - (g * S.1 i c * (S.2.1 * x (S.2.2.1 r))) := by
        rw [Int.neg_mul, Int.mul_neg, Int.mul_left_comm]
      have b3 : g * S.1 r c * (S.1 i c * x (S.2.2.2 c)) = g * S.1 i c * (S.1 r c * x (S.2.2.2 c)) := by
        rw [Int.mul_assoc, Int.mul_assoc, Int.mul_left_comm (S.1 r c)]
      rw [b1, b2, Int.neg_mul]
      omega
    exact (Int.mul_eq_zero.mp h2).resolve_left (by omega)
/-- labels are apart -/
def Lb (m n : Nat) (S : Tb) : Prop := (∀ i k, i < m → k < m → S.2.2.1 i = S.2.2.1 k → i = k) ∧ (∀ j k, j < n → k < n → S.2.2.2 j = S.2.2.2 k → j = k) ∧ ∀ i j, i < m → j < n → S.2.2.1 i ≠ S.2.2.2 j
theorem Piv.lb {m n : Nat} {S S' : Tb} {r c : Nat} {g : Int} (h : Piv m n S S' r c g) (hL : Lb m n S) : Lb m n S' := by
  obtain ⟨hr, hc, -, -, -, -, -, -, -, -, e6, e7, e8, e9⟩ := h
  obtain ⟨l1, l2, l3⟩ := hL
  refine ⟨fun i k hi hk e => ?_, fun j k hj hk e => ?_, fun i j hi hj e => ?_⟩
  · by_cases a : i = r <;> by_cases b : k = r
    · omega
    · rw [a, e6, e7 k hk b] at e; exact absurd e.symm (l3 k c hk hc)
    · rw [b, e6, e7 i hi a] at e; exact absurd e (l3 i c hi hc)
    · rw [e7 i hi a, e7 k hk b] at e; exact l1 i k hi hk e
  · by_cases a : j = c <;> by_cases b : k = c
    · omega
    · rw [a, e8, e9 k hk b] at e; exact absurd e (l3 r k hr hk)
    · rw [b, e8, e9 j hj a] at e; exact absurd e.symm (l3 r j hr hj)
    · rw [e9 j hj a, e9 k hk b] at e; exact l2 j k hj hk e
  · by_cases a : i = r <;> by_cases b : j = c
    · rw [a, b, e6, e8] at e; exact l3 r c hr hc e.symm
    · rw [a, e6, e9 j hj b] at e; exact b (l2 c j hc hj e).symm
    · rw [b, e8, e7 i hi a] at e; exact a (l1 i r hi hr e)
    · rw [e7 i hi a, e9 j hj b] at e; exact l3 i j hi hj e
/-- the value of a label is nought (or it stands over a column) -/
def Val0 (R C : Nat) (S : Tb) (q : Nat) : Prop := ∀ i, i < R → S.2.2.1 i = q → S.1 i C = 0
/-- the rule's choice: row r (below R), column c; gr is the goal's row, C the column of the numbers alone, st the labels that are held still -/
def Rul (R m n C gr : Nat) (st : Nat → Prop) (S : Tb) (r c : Nat) : Prop :=
  r < R ∧ c < n ∧ c ≠ C ∧ 0 < S.1 r c ∧ S.1 gr c < 0 ∧ ¬ st (S.2.2.2 c) ∧
  (∀ k, k < n → ¬ st (S.2.2.2 k) → S.1 gr k < 0 → S.2.2.2 c ≤ S.2.2.2 k) ∧
  (∀ i, i < R → 0 < S.1 i c → S.1 r C * S.1 i c < S.1 i C * S.1 r c ∨ (S.1 r C * S.1 i c = S.1 i C * S.1 r c ∧ S.2.2.1 r ≤ S.2.2.1 i))
noncomputable def dir (m : Nat) (S : Tb) (c : Nat) (q : Nat) : Int :=
  if q = S.2.2.2 c then S.2.1 else @dite Int (∃ i, i < m ∧ S.2.2.1 i = q) (Classical.propDecidable _) (fun h => - S.1 (Classical.choose h) c) (fun _ => 0)
theorem dir_in {m n : Nat} {S : Tb} {c : Nat} (hc : c < n) (hL : Lb m n S) {i : Nat} (hi : i < m) : dir m S c (S.2.2.1 i) = - S.1 i c := by
  unfold dir
  rw [if_neg (hL.2.2 i c hi hc)]
  have h : ∃ k, k < m ∧ S.2.2.1 k = S.2.2.1 i := ⟨i, hi, rfl⟩
  rw [dif_pos h, hL.1 _ i (Classical.choose_spec h).1 hi (Classical.choose_spec h).2]
theorem dir_c (m : Nat) (S : Tb) (c : Nat) : dir m S c (S.2.2.2 c) = S.2.1 := by
  unfold dir
  rw [if_pos rfl]
theorem dir_out {m n : Nat} {S : Tb} {c : Nat} (hc : c < n) (hL : Lb m n S) {j : Nat} (hj : j < n) (hn : j ≠ c) : dir m S c (S.2.2.2 j) = 0 := by
  unfold dir
  rw [if_neg (fun e => hn (hL.2.1 j c hj hc e)), dif_neg]
  rintro ⟨i, hi, e⟩
  exact hL.2.2 i j hi hj e
theorem dir_sys {m n : Nat} {S : Tb} {c : Nat} (hc : c < n) (hL : Lb m n S) : Sys m n S (dir m S c) := by
  intro i hi
  rw [dir_in hc hL hi, iS_one hc (fun j hj hn => by rw [dir_out hc hL hj hn, Int.mul_zero]), dir_c, Int.mul_neg, Int.mul_comm (S.1 i c)]
  omega
/-- THE CORE: t enters at S1 and leaves at S2, where both say the same, labels above t stand over columns in S2 if in S1, and what is nought in S1 is nought in S2: that can't be -/
theorem bland {R m n C gr : Nat} {st : Nat → Prop} {S1 S2 : Tb} {r1 c1 r2 c2 : Nat} (hRm : R ≤ m) (hgr : R ≤ gr) (hgm : gr < m)
    (L1 : Lb m n S1) (L2 : Lb m n S2) (hD1 : 0 < S1.2.1) (hD2 : 0 < S2.2.1) (f2 : ∀ i, i < R → 0 ≤ S2.1 i C)
    (R1 : Rul R m n C gr st S1 r1 c1) (R2 : Rul R m n C gr st S2 r2 c2) (ht : S1.2.2.2 c1 = S2.2.2.1 r2) (hs : S2.2.2.2 c2 ≤ S1.2.2.2 c1)
    (hsys : ∀ x, Sys m n S2 x → Sys m n S1 x) (hgl : ∀ i, R ≤ i → i < m → S1.2.2.1 i = S2.2.2.1 i)
    (hnon : ∀ j, j < n → (st (S1.2.2.2 j) ∨ S1.2.2.2 c1 < S1.2.2.2 j) → ∃ k, k < n ∧ S2.2.2.2 k = S1.2.2.2 j)
    (hval : ∀ q, Val0 R C S1 q → Val0 R C S2 q) : False := by
  obtain ⟨hr1, hc1, -, hp1, hg1, hst1, hleast1, -⟩ := R1
  obtain ⟨hr2, hc2, -, hp2, hg2, hst2, -, hrat2⟩ := R2
  have hd := hsys _ (dir_sys hc2 L2) gr hgm
  rw [hgl gr hgr hgm, dir_in hc2 L2 hgm] at hd
  have hpos : 0 < S1.2.1 * - S2.1 gr c2 := Int.mul_pos hD1 (by omega)
  obtain ⟨j, hj, hneg⟩ := iS_below (n := n) (f := fun j => S1.1 gr j * dir m S2 c2 (S1.2.2.2 j)) (by omega)
  by_cases h1 : st (S1.2.2.2 j) ∨ S1.2.2.2 c1 < S1.2.2.2 j
  · obtain ⟨k, hk, e⟩ := hnon j hj h1
    have hkc : k ≠ c2 := fun e2 => by
      rw [e2] at e
      rcases h1 with h1 | h1
      · exact hst2 (e ▸ h1)
      · omega
    simp only [← e, dir_out hc2 L2 hk hkc, Int.mul_zero] at hneg
    omega
  · have hns : ¬ st (S1.2.2.2 j) := fun h => h1 (Or.inl h)
    by_cases h2 : S1.2.2.2 j = S1.2.2.2 c1
    · have e := L1.2.1 j c1 hj hc1 h2
      subst e
      simp only [ht, dir_in hc2 L2 (show r2 < m by omega)] at hneg
      have := Int.mul_pos (show 0 < - S1.1 gr j by omega) (show 0 < S2.1 r2 c2 from hp2)
      rw [Int.neg_mul] at this
      rw [Int.mul_neg] at hneg
      omega
    · have hlt : S1.2.2.2 j < S1.2.2.2 c1 := by omega
      have hT : 0 ≤ S1.1 gr j := by
        refine Int.not_lt.mp fun h => ?_
        have := hleast1 j hj hns h
        omega
      have hdn : dir m S2 c2 (S1.2.2.2 j) < 0 := by
        refine Int.not_le.mp fun h => ?_
        have := Int.mul_nonneg hT h
        omega
      by_cases h3 : S1.2.2.2 j = S2.2.2.2 c2
      · rw [h3, dir_c] at hdn; omega
      · by_cases h4 : ∃ i, i < m ∧ S2.2.2.1 i = S1.2.2.2 j
        · obtain ⟨i, hi, e⟩ := h4
          rw [← e, dir_in hc2 L2 hi] at hdn
          by_cases h5 : i < R
          · rcases hrat2 i h5 (by omega) with h6 | ⟨-, h6⟩
            · have h7 : S2.1 i C = 0 := hval (S1.2.2.2 j) (fun k hk ek => absurd ek (L1.2.2 k j (by omega) hj)) i h5 e
              rw [h7, Int.zero_mul] at h6
              have := Int.mul_nonneg (f2 r2 hr2) (show 0 ≤ S2.1 i c2 by omega)
              omega
            · omega
          · have := hgl i (by omega) hi
            exact L1.2.2 i j hi hj (this.trans e)
        · have : dir m S2 c2 (S1.2.2.2 j) = 0 := by
            unfold dir
            rw [if_neg h3, dif_neg h4]
          omega
end
section
/-! runs of exchanges in which the goal does not grow -/
def nb (n : Nat) (S : Tb) (q : Nat) : Prop := ∃ j, j < n ∧ S.2.2.2 j = q
def Gd (R m n C : Nat) (S : Tb) : Prop := Lb m n S ∧ 0 < S.2.1 ∧ ∀ i, i < R → 0 ≤ S.1 i C
/-- one exchange by the rule, e in, l out -/
def Exc (R m n C gr : Nat) (st : Nat → Prop) (S S' : Tb) (e l : Nat) (b : Bool) : Prop :=
  ∃ r c g, Piv m n S S' r c g ∧ Rul R m n C gr st S r c ∧ (b = true → S.1 r C = 0) ∧ e = S.2.2.2 c ∧ l = S.2.2.1 r
theorem Exc.gd {R m n C gr : Nat} {st : Nat → Prop} {S S' : Tb} {e l : Nat} {b : Bool} (hRm : R ≤ m) (hC : C < n) (h : Exc R m n C gr st S S' e l b) (hG : Gd R m n C S) : Gd R m n C S' := by
  obtain ⟨r, c, g, hp, hr, -, -, -⟩ := h
  obtain ⟨hL, hD, hf⟩ := hG
  refine ⟨hp.lb hL, hp.2.2.2.2.1, fun i hi => ?_⟩
  obtain ⟨hrm, hcn, hgg, -, hD', e1, -, e3, -, e5, -⟩ := hp
  obtain ⟨hr, hc, hcC, hpos, -, -, -, hrat⟩ := hr
  have hg : g = 1 := by
    have h1 : 0 < g * S.1 r c := by omega
    have h2 : 0 < g := by
      refine Int.not_le.mp fun h => ?_
      have := Int.mul_nonneg (show 0 ≤ -g by omega) (show 0 ≤ S.1 r c by omega)
      rw [Int.neg_mul] at this
      omega
    have h3 : g ≤ 1 := by
      refine Int.not_lt.mp fun h => ?_
      have := Int.mul_lt_mul_of_pos_left h h2
      omega
    omega
  subst hg
  by_cases hn : i = r
  · subst hn
    rw [e3 C hC (fun e => hcC e.symm), Int.one_mul]
    exact hf i hi
  · have h5 := e5 i (by omega) hn C hC (fun e => hcC e.symm)
    rw [Int.one_mul] at h5
    have h6 : 0 ≤ S.1 i C * S.1 r c - S.1 i c * S.1 r C := by
      have a1 := Int.mul_nonneg (hf i hi) (show 0 ≤ S.1 r c by omega)
      by_cases h7 : 0 < S.1 i c
      · rcases hrat i hi h7 with h | ⟨h, -⟩ <;> rw [Int.mul_comm (S.1 i c)] <;> omega
      · have a2 := Int.mul_nonneg (show 0 ≤ - S.1 i c by omega) (hf r hr)
        rw [Int.neg_mul] at a2
        omega
    refine Int.not_lt.mp fun h => ?_
    have := Int.mul_lt_mul_of_pos_left h hD
    rw [Int.mul_zero] at this
    omega
theorem Exc.val {R m n C gr : Nat} {st : Nat → Prop} {S S' : Tb} {e l : Nat} (hRm : R ≤ m) (hC : C < n) (h : Exc R m n C gr st S S' e l true) (q : Nat) : Val0 R C S q ↔ Val0 R C S' q := by
  obtain ⟨r, c, g, hp, hr, h0, -, -⟩ := h
  have h0 := h0 rfl
  obtain ⟨hrm, hcn, hgg, hD, hD', e1, -, e3, -, e5, e6, e7, -⟩ := hp
  obtain ⟨hr, hc, hcC, -⟩ := hr
  have hk : ∀ i, i < R → i ≠ r → S.2.1 * S'.1 i C = S'.2.1 * S.1 i C := fun i hi hn => by
    rw [e5 i (by omega) hn C hC (fun e => hcC e.symm), h0, Int.mul_zero, Int.sub_zero, e1, Int.mul_comm (S.1 i C), Int.mul_assoc]
  constructor
  · intro h i hi e
    by_cases hn : i = r
    · subst hn
      rw [e3 C hC (fun e => hcC e.symm), h0, Int.mul_zero]
    · rw [e7 i (by omega) hn] at e
      have h1 := hk i hi hn
      rw [h i hi e, Int.mul_zero] at h1
      exact (Int.mul_eq_zero.mp h1).resolve_left (by omega)
  · intro h i hi e
    by_cases hn : i = r
    · subst hn; exact h0
    · have h1 := hk i hi hn
      rw [h i hi (by rw [e7 i (by omega) hn]; exact e), Int.mul_zero] at h1
      exact (Int.mul_eq_zero.mp h1.symm).resolve_left (by omega)
theorem Exc.sys {R m n C gr : Nat} {st : Nat → Prop} {S S' : Tb} {e l : Nat} {b : Bool} (h : Exc R m n C gr st S S' e l b) (x : Nat → Int) : Sys m n S x ↔ Sys m n S' x := by
  obtain ⟨r, c, g, hp, -⟩ := h
  exact ⟨fun hx => hp.sys hx, fun hx => hp.symm.sys hx⟩
theorem Exc.goal {R m n C gr : Nat} {st : Nat → Prop} {S S' : Tb} {e l : Nat} {b : Bool} (h : Exc R m n C gr st S S' e l b) {i : Nat} (h1 : R ≤ i) (h2 : i < m) : S'.2.2.1 i = S.2.2.1 i := by
  obtain ⟨r, c, g, hp, hr, -⟩ := h
  exact hp.2.2.2.2.2.2.2.2.2.2.2.1 i h2 (by have := hr.1; omega)
theorem Exc.stays {R m n C gr : Nat} {st : Nat → Prop} {S S' : Tb} {e l : Nat} {b : Bool} (h : Exc R m n C gr st S S' e l b) {q : Nat} (hq : q ≠ e) (hn : nb n S q) : nb n S' q := by
  obtain ⟨r, c, g, hp, hr, -, he, -⟩ := h
  obtain ⟨j, hj, ej⟩ := hn
  exact ⟨j, hj, by rw [hp.2.2.2.2.2.2.2.2.2.2.2.2.2 j hj (fun e9 => hq (by rw [he, ← e9]; exact ej.symm))]; exact ej⟩
theorem Exc.was {R m n C gr : Nat} {st : Nat → Prop} {S S' : Tb} {e l : Nat} {b : Bool} (h : Exc R m n C gr st S S' e l b) {q : Nat} (hq : q ≠ l) (hn : nb n S' q) : nb n S q := by
  obtain ⟨r, c, g, hp, hr, -, he, hl⟩ := h
  obtain ⟨j, hj, ej⟩ := hn
  by_cases e9 : j = c
  · subst e9
    rw [hp.2.2.2.2.2.2.2.2.2.2.2.2.1] at ej
    exact absurd (hl.trans ej).symm hq
  · exact ⟨j, hj, by rw [← hp.2.2.2.2.2.2.2.2.2.2.2.2.2 j hj e9]; exact ej⟩
theorem Exc.enter {R m n C gr : Nat} {st : Nat → Prop} {S S' : Tb} {e l : Nat} {b : Bool} (h : Exc R m n C gr st S S' e l b) : nb n S e := by
  obtain ⟨r, c, g, hp, hr, -, he, hl⟩ := h
  exact ⟨c, hr.2.1, he.symm⟩
theorem Exc.left {R m n C gr : Nat} {st : Nat → Prop} {S S' : Tb} {e l : Nat} {b : Bool} (h : Exc R m n C gr st S S' e l b) : nb n S' l := by
  obtain ⟨r, c, g, hp, hr, -, he, hl⟩ := h
  exact ⟨c, hr.2.1, by rw [hl]; exact hp.2.2.2.2.2.2.2.2.2.2.2.2.1⟩
theorem Exc.in_ {R m n C gr : Nat} {st : Nat → Prop} {S S' : Tb} {e l : Nat} {b : Bool} (hRm : R ≤ m) (hL : Lb m n S') (h : Exc R m n C gr st S S' e l b) : ¬ nb n S' e := by
  obtain ⟨r, c, g, hp, hr, -, he, hl⟩ := h
  rintro ⟨j, hj, ej⟩
  have := hr.1
  exact hL.2.2 r j (by omega) hj (by rw [hp.2.2.2.2.2.2.2.2.2.2.1, ej]; exact he.symm)
theorem Exc.out_ {R m n C gr : Nat} {st : Nat → Prop} {S S' : Tb} {e l : Nat} {b : Bool} (hRm : R ≤ m) (hL : Lb m n S) (h : Exc R m n C gr st S S' e l b) : ¬ nb n S l := by
  obtain ⟨r, c, g, hp, hr, -, he, hl⟩ := h
  rintro ⟨j, hj, ej⟩
  have := hr.1
  exact hL.2.2 r j (by omega) hj (by rw [ej]; exact hl.symm)
theorem Exc.free {R m n C gr : Nat} {st : Nat → Prop} {S S' : Tb} {e l : Nat} {b : Bool} (h : Exc R m n C gr st S S' e l b) : ¬ st e := by
  obtain ⟨r, c, g, hp, hr, -, he, hl⟩ := h
  rw [he]; exact hr.2.2.2.2.2.1
/-- a run of K exchanges that leave the goal as it is; moved labels are at most t -/
def Rnn (R m n C gr : Nat) (st : Nat → Prop) (s : Nat → Tb) (e l : Nat → Nat) (K t : Nat) : Prop :=
  R ≤ m ∧ C < n ∧ R ≤ gr ∧ gr < m ∧ (∀ i, i ≤ K → Gd R m n C (s i)) ∧ (∀ i, i ≤ K → ∀ q, st q → nb n (s i) q) ∧ (∀ i, i < K → Exc R m n C gr st (s i) (s (i + 1)) (e i) (l i) true) ∧ ∀ i, i < K → e i < t ∧ l i < t
theorem run_sys {R m n C gr : Nat} {st : Nat → Prop} {s : Nat → Tb} {e l : Nat → Nat} {K t : Nat} (h : Rnn R m n C gr st s e l K t) (i d : Nat) (hk : i + d ≤ K) (x : Nat → Int) : Sys m n (s i) x ↔ Sys m n (s (i + d)) x := by
  induction d with
  | zero => exact Iff.rfl
  | succ d ih => exact (ih (by omega)).trans ((h.2.2.2.2.2.2.1 (i + d) (by omega)).sys x)
theorem run_val {R m n C gr : Nat} {st : Nat → Prop} {s : Nat → Tb} {e l : Nat → Nat} {K t : Nat} (h : Rnn R m n C gr st s e l K t) (i d : Nat) (hk : i + d ≤ K) (q : Nat) : Val0 R C (s i) q ↔ Val0 R C (s (i + d)) q := by
  induction d with
  | zero => exact Iff.rfl
  | succ d ih => exact (ih (by omega)).trans ((h.2.2.2.2.2.2.1 (i + d) (by omega)).val h.1 h.2.1 q)
theorem run_goal {R m n C gr : Nat} {st : Nat → Prop} {s : Nat → Tb} {e l : Nat → Nat} {K t : Nat} (h : Rnn R m n C gr st s e l K t) (i d : Nat) (hk : i + d ≤ K) {k : Nat} (h1 : R ≤ k) (h2 : k < m) : (s (i + d)).2.2.1 k = (s i).2.2.1 k := by
  induction d with
  | zero => rfl
  | succ d ih => exact ((h.2.2.2.2.2.2.1 (i + d) (by omega)).goal h1 h2).trans (ih (by omega))
theorem run_stays {R m n C gr : Nat} {st : Nat → Prop} {s : Nat → Tb} {e l : Nat → Nat} {K t : Nat} (h : Rnn R m n C gr st s e l K t) (i d : Nat) (hk : i + d ≤ K) {q : Nat} (hq : ∀ j, i ≤ j → j < i + d → q ≠ e j) (hn : nb n (s i) q) : nb n (s (i + d)) q := by
  induction d with
  | zero => exact hn
  | succ d ih => exact (h.2.2.2.2.2.2.1 (i + d) (by omega)).stays (hq (i + d) (by omega) (by omega)) (ih (by omega) (fun j h1 h2 => hq j h1 (by omega)))
theorem run_was {R m n C gr : Nat} {st : Nat → Prop} {s : Nat → Tb} {e l : Nat → Nat} {K t : Nat} (h : Rnn R m n C gr st s e l K t) (i d : Nat) (hk : i + d ≤ K) {q : Nat} (hq : ∀ j, i ≤ j → j < i + d → q ≠ l j) (hn : nb n (s (i + d)) q) : nb n (s i) q := by
  induction d with
  | zero => exact hn
  | succ d ih => exact ih (by omega) (fun j h1 h2 => hq j h1 (by omega)) ((h.2.2.2.2.2.2.1 (i + d) (by omega)).was (hq (i + d) (by omega) (by omega)) hn)
/-- the greatest label moves at most once -/
theorem run_once {R m n C gr : Nat} {st : Nat → Prop} {s : Nat → Tb} {e l : Nat → Nat} {K t : Nat} (h : Rnn R m n C gr st s e l K (t + 1)) (d : Nat) : ∀ i, i + d + 1 < K → (e i = t ∨ l i = t) → (e (i + d + 1) = t ∨ l (i + d + 1) = t) → False := by
  induction d using Nat.strongRecOn with
  | ind d ih =>
    intro i hk hi hd
    by_cases hb : ∃ j, i < j ∧ j < i + d + 1 ∧ (e j = t ∨ l j = t)
    · obtain ⟨j, h1, h2, h3⟩ := hb
      exact ih (j - i - 1) (by omega) i (by omega) hi (by rw [show i + (j - i - 1) + 1 = j by omega]; exact h3)
    · have hne : ∀ j, i + 1 ≤ j → j < i + d + 1 → t ≠ e j := fun j h1 h2 e9 => hb ⟨j, by omega, h2, Or.inl e9.symm⟩
      have hnl : ∀ j, i + 1 ≤ j → j < i + d + 1 → t ≠ l j := fun j h1 h2 e9 => hb ⟨j, by omega, h2, Or.inr e9.symm⟩
      obtain ⟨hRm, hC, hgr, hgm, hGd, hst, hstp, hle⟩ := id h
      have s1 := hstp i (by omega)
      have s2 := hstp (i + d + 1) (by omega)
      have hle1 := hle i (by omega)
      have hle2 := hle (i + d + 1) (by omega)
      have hkk : i + (d + 1) = i + d + 1 := by omega
      have hkk2 : i + 1 + d = i + d + 1 := by omega
      rcases hi with hi | hi
      · -- it enters first
        have a1 : ¬ nb n (s (i + 1)) t := by rw [← hi]; exact s1.in_ hRm (hGd (i + 1) (by omega)).1
        have a2 : ¬ nb n (s (i + d + 1)) t := fun hn => a1 (run_was h (i + 1) d (by omega) (by rw [hkk2]; exact hnl) (by rw [hkk2]; exact hn))
        rcases hd with hd | hd
        · exact a2 (by rw [← hd]; exact s2.enter)
        · obtain ⟨r1, c1, g1, p1, R1, -, he1, -⟩ := s1
          obtain ⟨r2, c2, g2, p2, R2, -, he2, hl2⟩ := s2
          exact bland hRm hgr hgm (hGd i (by omega)).1 (hGd (i + d + 1) (by omega)).1 (hGd i (by omega)).2.1 (hGd (i + d + 1) (by omega)).2.1 (hGd (i + d + 1) (by omega)).2.2 R1 R2
            (by omega) (by omega) (fun x hx => (run_sys h i (d + 1) (by omega) x).mpr (by rw [hkk]; exact hx))
            (fun k h1 h2 => by have := run_goal h i (d + 1) (by omega) h1 h2; rw [hkk] at this; exact this.symm)
            (fun j hj hq => by
              have h3 := run_stays h i (d + 1) (by omega) (q := (s i).2.2.2 j) (fun k h1 h2 e9 => by
                rcases hq with hq | hq
                · exact (hstp k (by omega)).free (e9 ▸ hq)
                · have := hle k (by omega); omega) ⟨j, hj, rfl⟩
              rw [hkk] at h3; exact h3)
            (fun q hq => by have := (run_val h i (d + 1) (by omega) q).mp hq; rw [hkk] at this; exact this)
      · -- it leaves first
        have a1 : nb n (s (i + 1)) t := by rw [← hi]; exact s1.left
        have a2 : nb n (s (i + d + 1)) t := by have := run_stays h (i + 1) d (by omega) (by rw [hkk2]; exact hne) a1; rw [hkk2] at this; exact this
        rcases hd with hd | hd
        · obtain ⟨r1, c1, g1, p1, R1, -, he1, hl1⟩ := s1
          obtain ⟨r2, c2, g2, p2, R2, -, he2, hl2⟩ := s2
          exact bland hRm hgr hgm (hGd (i + d + 1) (by omega)).1 (hGd i (by omega)).1 (hGd (i + d + 1) (by omega)).2.1 (hGd i (by omega)).2.1 (hGd i (by omega)).2.2 R2 R1
            (by omega) (by omega) (fun x hx => by have := (run_sys h i (d + 1) (by omega) x).mp hx; rw [hkk] at this; exact this)
            (fun k h1 h2 => by have := run_goal h i (d + 1) (by omega) h1 h2; rw [hkk] at this; exact this)
            (fun j hj hq => by
              rcases hq with hq | hq
              · exact hst i (by omega) _ hq
              · exact run_was h i (d + 1) (by omega) (fun k h1 h2 e9 => by have := hle k (by omega); omega) ⟨j, by rw [hkk]; exact ⟨hj, rfl⟩⟩)
            (fun q hq => (run_val h i (d + 1) (by omega) q).mpr (by rw [hkk]; exact hq))
        · exact s2.out_ hRm (hGd (i + d + 1) (by omega)).1 (by rw [hd]; exact a2)
/-- so many exchanges at most -/
theorem run_len (t : Nat) : ∀ {R m n C gr : Nat} {st : Nat → Prop} {s : Nat → Tb} {e l : Nat → Nat} {K : Nat}, Rnn R m n C gr st s e l K t → K < 2 ^ t := by
  induction t with
  | zero =>
    intro R m n C gr st s e l K h
    refine Nat.lt_of_not_le fun hK => ?_
    have := h.2.2.2.2.2.2.2 0 (by simp at hK; omega)
    omega
  | succ t ih =>
    intro R m n C gr st s e l K h
    obtain ⟨hRm, hC, hgr, hgm, hGd, hst, hstp, hle⟩ := id h
    have hp : 2 ^ (t + 1) = 2 ^ t + 2 ^ t := by rw [Nat.pow_succ]; omega
    by_cases hb : ∃ j, j < K ∧ (e j = t ∨ l j = t)
    · obtain ⟨j, hj, hm⟩ := hb
      have h1 : j < 2 ^ t := ih (s := s) (e := e) (l := l) (K := j) ⟨hRm, hC, hgr, hgm, fun i hi => hGd i (by omega), fun i hi => hst i (by omega), fun i hi => hstp i (by omega), fun i hi => by
        have h2 := hle i (by omega)
        have h3 : ¬ (e i = t ∨ l i = t) := fun h3 => run_once h (j - i - 1) i (by omega) h3 (by rw [show i + (j - i - 1) + 1 = j by omega]; exact hm)
        omega⟩
      have h2 : K - j - 1 < 2 ^ t := ih (s := fun i => s (j + 1 + i)) (e := fun i => e (j + 1 + i)) (l := fun i => l (j + 1 + i)) (K := K - j - 1) ⟨hRm, hC, hgr, hgm, fun i hi => hGd (j + 1 + i) (by omega), fun i hi => hst (j + 1 + i) (by omega), fun i hi => hstp (j + 1 + i) (by omega), fun i hi => by
        have h2 := hle (j + 1 + i) (by omega)
        have h3 : ¬ (e (j + 1 + i) = t ∨ l (j + 1 + i) = t) := fun h3 => run_once h i j (by omega) hm (by rw [show j + i + 1 = j + 1 + i by omega]; exact h3)
        show e (j + 1 + i) < t ∧ l (j + 1 + i) < t
        omega⟩
      omega
    · have h1 : K < 2 ^ t := ih (s := s) (e := e) (l := l) ⟨hRm, hC, hgr, hgm, hGd, hst, hstp, fun i hi => by
        have h2 := hle i hi
        have h3 : ¬ (e i = t ∨ l i = t) := fun h3 => hb ⟨i, hi, h3⟩
        omega⟩
      omega
end
section
/-! every run ends: exchanges that leave the goal, and such that raise it -/
/-- a run of K exchanges, in whatever way; labels below t; divisor and the goal's number within Bd -/
def Rna (R m n C gr : Nat) (st : Nat → Prop) (s : Nat → Tb) (K t : Nat) (Bd : Nat) : Prop :=
  R ≤ m ∧ C < n ∧ R ≤ gr ∧ gr < m ∧ (∀ i, i ≤ K → Gd R m n C (s i)) ∧ (∀ i, i ≤ K → ∀ q, st q → nb n (s i) q) ∧ (∀ i, i < K → ∃ e l, Exc R m n C gr st (s i) (s (i + 1)) e l false ∧ e < t ∧ l < t) ∧ ∀ i, i ≤ K → (s i).2.1 ≤ (Bd : Int) ∧ (s i).1 gr C ≤ (Bd : Int) ∧ - (Bd : Int) ≤ (s i).1 gr C
def fac : Nat → Nat
  | 0 => 1
  | n + 1 => (n + 1) * fac n
theorem fac_dvd {d n : Nat} (h1 : 0 < d) (h2 : d ≤ n) : ∃ k, fac n = d * k := by
  induction n with
  | zero => omega
  | succ n ih =>
    by_cases e : d = n + 1
    · exact ⟨fac n, by rw [e]; rfl⟩
    · obtain ⟨k, hk⟩ := ih (by omega)
      exact ⟨(n + 1) * k, by show (n + 1) * fac n = _; rw [hk, Nat.mul_left_comm]⟩
theorem fac_pos (n : Nat) : 0 < fac n := by
  induction n with
  | zero => decide
  | succ n ih => exact Nat.mul_pos (by omega) ih
/-- the goal's value over one divisor for all -/
def Zv (C gr : Nat) (Bd : Nat) (S : Tb) : Int := S.1 gr C * ((fac Bd : Int) / S.2.1)
theorem Zv_mul {C gr Bd : Nat} {S : Tb} (hD : 0 < S.2.1) (hB : S.2.1 ≤ (Bd : Int)) : Zv C gr Bd S * S.2.1 = S.1 gr C * (fac Bd : Int) := by
  obtain ⟨d, hd⟩ : ∃ d : Nat, S.2.1 = (d : Int) := ⟨S.2.1.toNat, by omega⟩
  obtain ⟨k, hk⟩ := fac_dvd (d := d) (n := Bd) (by omega) (by omega)
  unfold Zv
  rw [hd, hk, Int.natCast_mul, Int.mul_ediv_cancel_left _ (by omega), Int.mul_assoc, Int.mul_comm (k : Int)]
theorem Zv_le {C gr Bd : Nat} {S : Tb} (hD : 0 < S.2.1) (hB : S.2.1 ≤ (Bd : Int)) (h1 : S.1 gr C ≤ (Bd : Int)) : Zv C gr Bd S ≤ (Bd : Int) * (fac Bd : Int) := by
  have h := Zv_mul (C := C) (gr := gr) hD hB
  have h2 : S.1 gr C * (fac Bd : Int) ≤ (Bd : Int) * (fac Bd : Int) := Int.mul_le_mul_of_nonneg_right h1 (by omega)
  refine Int.not_lt.mp fun h3 => ?_
  have hpos : 0 ≤ (Bd : Int) * (fac Bd : Int) := Int.mul_nonneg (by omega) (by omega)
  have h4 := Int.mul_lt_mul_of_pos_right h3 hD
  have h5 : (Bd : Int) * (fac Bd : Int) * 1 ≤ (Bd : Int) * (fac Bd : Int) * S.2.1 := Int.mul_le_mul_of_nonneg_left (by omega) hpos
  omega
/-- how the goal's number goes on -/
theorem Exc.up {R m n C gr : Nat} {st : Nat → Prop} {S S' : Tb} {e l : Nat} {b : Bool} (hRm : R ≤ m) (hC : C < n) (hgr : R ≤ gr) (hgm : gr < m) (h : Exc R m n C gr st S S' e l b) (hG : Gd R m n C S) :
    (S'.1 gr C * S.2.1 = S.1 gr C * S'.2.1 ∧ Exc R m n C gr st S S' e l true) ∨ S.1 gr C * S'.2.1 < S'.1 gr C * S.2.1 := by
  obtain ⟨r, c, g, hp, hr, hb, he, hl⟩ := h
  have hp' := hp
  have hr' := hr
  obtain ⟨hrm, hcn, hgg, hD, hD', e1, -, -, -, e5, -⟩ := hp
  obtain ⟨hr, hc, hcC, hpos, hneg, -, -, -⟩ := hr
  have hg : g = 1 := by
    have h2 : 0 < g := by
      refine Int.not_le.mp fun h => ?_
      have := Int.mul_nonneg (show 0 ≤ -g by omega) (show 0 ≤ S.1 r c by omega)
      rw [Int.neg_mul] at this
      omega
    have h3 : g ≤ 1 := by
      refine Int.not_lt.mp fun h => ?_
      have := Int.mul_lt_mul_of_pos_left h h2
      omega
    omega
  subst hg
  have h5 := e5 gr hgm (by omega) C hC (fun e => hcC e.symm)
  rw [Int.one_mul] at h5 e1
  rw [e1, Int.mul_comm (S'.1 gr C), h5]
  have hf := hG.2.2 r hr
  by_cases h0 : S.1 r C = 0
  · left
    refine ⟨by rw [h0, Int.mul_zero]; omega, r, c, 1, hp', hr', fun _ => h0, he, hl⟩
  · right
    have := Int.mul_pos (show 0 < - S.1 gr c by omega) (show 0 < S.1 r C by omega)
    rw [Int.neg_mul] at this
    omega
theorem Zv_up {C gr Bd : Nat} {S S' : Tb} (hD : 0 < S.2.1) (hB : S.2.1 ≤ (Bd : Int)) (hD' : 0 < S'.2.1) (hB' : S'.2.1 ≤ (Bd : Int)) (h : S.1 gr C * S'.2.1 < S'.1 gr C * S.2.1) : Zv C gr Bd S < Zv C gr Bd S' := by
  have a1 := Zv_mul (C := C) (gr := gr) hD hB
  have a2 := Zv_mul (C := C) (gr := gr) hD' hB'
  refine Int.not_le.mp fun h3 => ?_
  have h4 : Zv C gr Bd S' * (S.2.1 * S'.2.1) ≤ Zv C gr Bd S * (S.2.1 * S'.2.1) := Int.mul_le_mul_of_nonneg_right h3 (Int.le_of_lt (Int.mul_pos hD hD'))
  have e1 : Zv C gr Bd S * (S.2.1 * S'.2.1) = (S.1 gr C * S'.2.1) * (fac Bd : Int) := by rw [← Int.mul_assoc, a1, Int.mul_assoc, Int.mul_comm (fac Bd : Int), ← Int.mul_assoc]
  have e2 : Zv C gr Bd S' * (S.2.1 * S'.2.1) = (S'.1 gr C * S.2.1) * (fac Bd : Int) := by rw [Int.mul_comm S.2.1, ← Int.mul_assoc, a2, Int.mul_assoc, Int.mul_comm (fac Bd : Int), ← Int.mul_assoc]
  rw [e1, e2] at h4
  have := Int.mul_lt_mul_of_pos_right h (show 0 < (fac Bd : Int) by have := fac_pos Bd; omega)
  omega
theorem Zv_same {C gr Bd : Nat} {S S' : Tb} (hD : 0 < S.2.1) (hB : S.2.1 ≤ (Bd : Int)) (hD' : 0 < S'.2.1) (hB' : S'.2.1 ≤ (Bd : Int)) (h : S'.1 gr C * S.2.1 = S.1 gr C * S'.2.1) : Zv C gr Bd S = Zv C gr Bd S' := by
  have a1 := Zv_mul (C := C) (gr := gr) hD hB
  have a2 := Zv_mul (C := C) (gr := gr) hD' hB'
  have e1 : Zv C gr Bd S * (S.2.1 * S'.2.1) = (S.1 gr C * S'.2.1) * (fac Bd : Int) := by rw [← Int.mul_assoc, a1, Int.mul_assoc, Int.mul_comm (fac Bd : Int), ← Int.mul_assoc]
  have e2 : Zv C gr Bd S' * (S.2.1 * S'.2.1) = (S'.1 gr C * S.2.1) * (fac Bd : Int) := by rw [Int.mul_comm S.2.1, ← Int.mul_assoc, a2, Int.mul_assoc, Int.mul_comm (fac Bd : Int), ← Int.mul_assoc]
  rw [h, ← e1] at e2
  have hp := Int.mul_pos hD hD'
  exact (Int.mul_eq_mul_right_iff (by omega)).mp e2.symm
/-- a property of the first few, or a first that hasn't it -/
theorem first_not (K : Nat) (p : Nat → Prop) : (∀ i, i < K → p i) ∨ ∃ j, j < K ∧ ¬ p j ∧ ∀ i, i < j → p i := by
  induction K with
  | zero => exact Or.inl fun i h => absurd h (by omega)
  | succ K ih =>
    rcases ih with h | ⟨j, h1, h2, h3⟩
    · by_cases hK : p K
      · exact Or.inl fun i hi => by by_cases e : i = K; rw [e]; exact hK; exact h i (by omega)
      · exact Or.inr ⟨K, by omega, hK, h⟩
    · exact Or.inr ⟨j, by omega, h2, h3⟩
theorem Rna.deg {R m n C gr : Nat} {st : Nat → Prop} {s : Nat → Tb} {K t Bd : Nat} (h : Rna R m n C gr st s K t Bd) {j : Nat} (hj : j ≤ K) (hd : ∀ i, i < j → (s (i + 1)).1 gr C * (s i).2.1 = (s i).1 gr C * (s (i + 1)).2.1) : j < 2 ^ t := by
  obtain ⟨hRm, hC, hgr, hgm, hGd, hst, hstp, hB⟩ := h
  have hx : ∀ i, ∃ q : Nat × Nat, i < j → Exc R m n C gr st (s i) (s (i + 1)) q.1 q.2 true ∧ q.1 < t ∧ q.2 < t := fun i => by
    by_cases hi : i < j
    · obtain ⟨e, l, h1, h2, h3⟩ := hstp i (by omega)
      refine ⟨(e, l), fun _ => ⟨?_, h2, h3⟩⟩
      rcases h1.up hRm hC hgr hgm (hGd i (by omega)) with h4 | h4
      · exact h4.2
      · have := hd i hi; omega
    · exact ⟨(0, 0), fun h => absurd h hi⟩
  obtain ⟨f, hf⟩ := Classical.axiomOfChoice hx
  exact run_len t (s := s) (e := fun i => (f i).1) (l := fun i => (f i).2) ⟨hRm, hC, hgr, hgm, fun i hi => hGd i (by omega), fun i hi => hst i (by omega), fun i hi => (hf i hi).1, fun i hi => (hf i hi).2⟩
theorem Rna.same {R m n C gr : Nat} {st : Nat → Prop} {s : Nat → Tb} {K t Bd : Nat} (h : Rna R m n C gr st s K t Bd) {j : Nat} (hj : j ≤ K) (hd : ∀ i, i < j → (s (i + 1)).1 gr C * (s i).2.1 = (s i).1 gr C * (s (i + 1)).2.1) : Zv C gr Bd (s j) = Zv C gr Bd (s 0) := by
  obtain ⟨hRm, hC, hgr, hgm, hGd, hst, hstp, hB⟩ := h
  induction j with
  | zero => rfl
  | succ j ih =>
    rw [← ih (by omega) (fun i hi => hd i (by omega))]
    exact (Zv_same (hGd j (by omega)).2.1 (hB j (by omega)).1 (hGd (j + 1) hj).2.1 (hB (j + 1) hj).1 (hd j (by omega))).symm
theorem rna_len (t : Nat) (Bd : Nat) (M : Nat) : ∀ {R m n C gr : Nat} {st : Nat → Prop} {s : Nat → Tb} {K : Nat}, Rna R m n C gr st s K t Bd → (Bd : Int) * (fac Bd : Int) - Zv C gr Bd (s 0) ≤ (M : Int) → K < (M + 1) * 2 ^ t := by
  induction M with
  | zero =>
    intro R m n C gr st s K h hM
    rcases first_not K (fun i => (s (i + 1)).1 gr C * (s i).2.1 = (s i).1 gr C * (s (i + 1)).2.1) with hd | ⟨j, hj, hn, hd⟩
    · have := h.deg (Nat.le_refl K) hd
      omega
    · have hs := h.same (by omega) hd
      obtain ⟨hRm, hC, hgr, hgm, hGd, hst, hstp, hB⟩ := id h
      obtain ⟨e, l, h1, h2, h3⟩ := hstp j hj
      rcases h1.up hRm hC hgr hgm (hGd j (by omega)) with h4 | h4
      · exact absurd h4.1 hn
      · have h5 := Zv_up (hGd j (by omega)).2.1 (hB j (by omega)).1 (hGd (j + 1) (by omega)).2.1 (hB (j + 1) (by omega)).1 h4
        have h6 := Zv_le (C := C) (gr := gr) (hGd (j + 1) (by omega)).2.1 (hB (j + 1) (by omega)).1 (hB (j + 1) (by omega)).2.1
        omega
  | succ M ih =>
    intro R m n C gr st s K h hM
    rcases first_not K (fun i => (s (i + 1)).1 gr C * (s i).2.1 = (s i).1 gr C * (s (i + 1)).2.1) with hd | ⟨j, hj, hn, hd⟩
    · have := h.deg (Nat.le_refl K) hd
      have h2 : 2 ^ t ≤ (M + 1 + 1) * 2 ^ t := Nat.le_mul_of_pos_left _ (by omega)
      omega
    · have hs := h.same (by omega) hd
      have hjt := h.deg (show j ≤ K by omega) hd
      obtain ⟨hRm, hC, hgr, hgm, hGd, hst, hstp, hB⟩ := id h
      obtain ⟨e, l, h1, h2, h3⟩ := hstp j hj
      rcases h1.up hRm hC hgr hgm (hGd j (by omega)) with h4 | h4
      · exact absurd h4.1 hn
      · have h5 := Zv_up (hGd j (by omega)).2.1 (hB j (by omega)).1 (hGd (j + 1) (by omega)).2.1 (hB (j + 1) (by omega)).1 h4
        have h6 := ih (s := fun i => s (j + 1 + i)) (K := K - j - 1) ⟨hRm, hC, hgr, hgm, fun i hi => hGd (j + 1 + i) (by omega), fun i hi => hst (j + 1 + i) (by omega), fun i hi => hstp (j + 1 + i) (by omega), fun i hi => hB (j + 1 + i) (by omega)⟩ (by show (Bd : Int) * (fac Bd : Int) - Zv C gr Bd (s (j + 1)) ≤ (M : Int); omega)
        have h7 : (M + 1 + 1) * 2 ^ t = (M + 1) * 2 ^ t + 2 ^ t := Nat.succ_mul _ _
        omega
/-- no run from S is as long as N -/
def Ends (R m n C gr : Nat) (st : Nat → Prop) (t Bd N : Nat) (S : Tb) : Prop := ∀ (s : Nat → Tb) (K : Nat), s 0 = S → Rna R m n C gr st s K t Bd → K < N
theorem ends (R m n C gr : Nat) (st : Nat → Prop) (t Bd : Nat) (S : Tb) : ∃ N, Ends R m n C gr st t Bd N S := by
  obtain ⟨M, hM⟩ : ∃ M : Nat, (Bd : Int) * (fac Bd : Int) - Zv C gr Bd S ≤ (M : Int) := ⟨((Bd : Int) * (fac Bd : Int) - Zv C gr Bd S).toNat, by omega⟩
  exact ⟨(M + 1) * 2 ^ t, fun s K h0 h => rna_len t Bd M h (by rw [h0]; exact hM)⟩
/-- the state is one that the rule may go on from -/
def Okay (R m n C gr : Nat) (st : Nat → Prop) (Bd : Nat) (S : Tb) : Prop := R ≤ m ∧ C < n ∧ R ≤ gr ∧ gr < m ∧ Gd R m n C S ∧ (∀ q, st q → nb n S q) ∧ S.2.1 ≤ (Bd : Int) ∧ S.1 gr C ≤ (Bd : Int) ∧ - (Bd : Int) ≤ S.1 gr C
theorem Ends.pos {R m n C gr : Nat} {st : Nat → Prop} {t Bd N : Nat} {S : Tb} (h : Ends R m n C gr st t Bd N S) (hO : Okay R m n C gr st Bd S) : 0 < N := by
  obtain ⟨a1, a2, a3, a4, a5, a6, a7⟩ := hO
  exact h (fun _ => S) 0 rfl ⟨a1, a2, a3, a4, fun _ _ => a5, fun _ _ => a6, fun i hi => absurd hi (by omega), fun _ _ => a7⟩
theorem Ends.next {R m n C gr : Nat} {st : Nat → Prop} {t Bd N : Nat} {S S' : Tb} (h : Ends R m n C gr st t Bd (N + 1) S) (hO : Okay R m n C gr st Bd S) {e l : Nat} (hx : Exc R m n C gr st S S' e l false) (he : e < t) (hl : l < t) : Ends R m n C gr st t Bd N S' := by
  intro s K h0 hr
  obtain ⟨a1, a2, a3, a4, a5, a6, a7⟩ := hO
  obtain ⟨-, -, -, -, b5, b6, b7, b8⟩ := hr
  have := h (fun i => match i with | 0 => S | i + 1 => s i) (K + 1) rfl ⟨a1, a2, a3, a4, fun i hi => by
    cases i with
    | zero => exact a5
    | succ i => exact b5 i (by omega), fun i hi => by
    cases i with
    | zero => exact a6
    | succ i => exact b6 i (by omega), fun i hi => by
    cases i with
    | zero => exact ⟨e, l, by show Exc R m n C gr st S (s 0) e l false; rw [h0]; exact hx, he, hl⟩
    | succ i => exact b7 i (by omega), fun i hi => by
    cases i with
    | zero => exact a7
    | succ i => exact b8 i (by omega)⟩
  omega
end
section
def lenR : Nat → Nat := fun j => match j with
  | 0 => 26400
  | 1 => 48
  | 2 => 60
  | 3 => 30
  | 4 => 46
  | 5 => 60
  | 6 => 46
  | 7 => 1000
  | 8 => 1000
  | 9 => 4000
  | 10 => 44
  | 11 => 44
  | 12 => 44
  | 13 => 44
  | 14 => 60
  | 15 => 60
  | 16 => 44
  | 17 => 44
  | 18 => 44
  | 19 => 44
  | 20 => 44
  | 21 => 44
  | 22 => 6400
  | 23 => 6400
  | 24 => 44
  | 25 => 44
  | 26 => 44
  | 27 => 44
  | 28 => 44
  | 29 => 4200
  | 30 => 4200
  | 31 => 4200
  | 32 => 4200
  | 33 => 4200
  | 34 => 4200
  | 35 => 4200
  | 36 => 900
  | 37 => 900
  | 38 => 900
  | 39 => 120
  | 40 => 120
  | 41 => 120
  | 42 => 120
  | 43 => 120
  | 44 => 120
  | 45 => 120
  | 46 => 120
  | 47 => 120
  | 48 => 120
  | 49 => 900
  | 50 => 900
  | 51 => 60
  | 52 => 4300
  | 53 => 4300
  | 54 => 4300
  | 55 => 4300
  | 56 => 9
  | 57 => 9
  | 58 => 9
  | 59 => 13
  | 60 => 351
  | 61 => 39
  | 62 => 9
  | 63 => 27
  | 64 => 27
  | 65 => 3
  | 66 => 200
  | 67 => 200
  | 68 => 8
  | 69 => 13
  | 70 => 9
  | 71 => 28
  | 72 => 28
  | 73 => 28
  | 74 => 28
  | 75 => 30000
  | 76 => 250
  | 77 => 20
  | 78 => 10
  | 79 => 10
  | 80 => 12
  | 81 => 12
  | 82 => 12
  | 83 => 12
  | 84 => 192
  | 85 => 16
  | 86 => 10
  | 87 => 16
  | 88 => 16
  | 89 => 17
  | 90 => 10
  | 91 => 50000
  | 92 => 24
  | 93 => 24
  | 94 => 24
  | 95 => 40
  | 96 => 40
  | 97 => 40
  | 98 => 40
  | 99 => 40
  | 100 => 12
  | 101 => 12
  | 102 => 12
  | 103 => 12
  | 104 => 8
  | 105 => 8
  | _ => 8
def lngR : Nat → Bool := fun j => match j with
  | 0 => false
  | 1 => true
  | 2 => false
  | 3 => false
  | 4 => false
  | 5 => false
  | 6 => false
  | 7 => true
  | 8 => true
  | 9 => false
  | 10 => false
  | 11 => false
  | 12 => false
  | 13 => false
  | 14 => false
  | 15 => false
  | 16 => false
  | 17 => false
  | 18 => false
  | 19 => false
  | 20 => false
  | 21 => false
  | 22 => false
  | 23 => false
  | 24 => false
  | 25 => false
  | 26 => false
  | 27 => false
  | 28 => false
  | 29 => false
  | 30 => false
  | 31 => false
  | 32 => false
  | 33 => false
  | 34 => false
  | 35 => false
  | 36 => false
  | 37 => false
  | 38 => false
  | 39 => false
  | 40 => false
  | 41 => false
  | 42 => false
  | 43 => false
  | 44 => false
  | 45 => false
  | 46 => false
  | 47 => false
  | 48 => false
  | 49 => false
  | 50 => false
  | 51 => false
  | 52 => false
  | 53 => false
  | 54 => false
  | 55 => false
  | 56 => false
  | 57 => false
  | 58 => false
  | 59 => false
  | 60 => false
  | 61 => false
  | 62 => false
  | 63 => false
  | 64 => false
  | 65 => false
  | 66 => false
  | 67 => false
  | 68 => false
  | 69 => false
  | 70 => false
  | 71 => false
  | 72 => false
  | 73 => false
  | 74 => false
  | 75 => false
  | 76 => false
  | 77 => false
  | 78 => false
  | 79 => false
  | 80 => false
  | 81 => false
  | 82 => false
  | 83 => false
  | 84 => false
  | 85 => false
  | 86 => false
  | 87 => false
  | 88 => false
  | 89 => false
  | 90 => false
  | 91 => false
  | 92 => false
  | 93 => false
  | 94 => false
  | 95 => false
  | 96 => false
  | 97 => false
  | 98 => false
  | 99 => false
  | 100 => false
  | 101 => false
  | 102 => false
  | 103 => false
  | 104 => false
  | 105 => false
  | _ => false
def kdR : Nat → Nat := fun j => match j with
  | 0 => 0
  | 1 => 2
  | 2 => 2
  | 3 => 2
  | 4 => 2
  | 5 => 0
  | 6 => 0
  | 7 => 0
  | 8 => 2
  | 9 => 2
  | 10 => 2
  | 11 => 0
  | 12 => 1
  | 13 => 2
  | 14 => 2
  | 15 => 2
  | 16 => 0
  | 17 => 0
  | 18 => 0
  | 19 => 0
  | 20 => 0
  | 21 => 0
  | 22 => 0
  | 23 => 0
  | 24 => 0
  | 25 => 0
  | 26 => 2
  | 27 => 2
  | 28 => 2
  | 29 => 2
  | 30 => 0
  | 31 => 2
  | 32 => 2
  | 33 => 0
  | 34 => 0
  | 35 => 0
  | 36 => 0
  | 37 => 0
  | 38 => 0
  | 39 => 2
  | 40 => 2
  | 41 => 2
  | 42 => 2
  | 43 => 2
  | 44 => 2
  | 45 => 2
  | 46 => 2
  | 47 => 2
  | 48 => 2
  | 49 => 2
  | 50 => 2
  | 51 => 2
  | 52 => 0
  | 53 => 2
  | 54 => 2
  | 55 => 2
  | 56 => 2
  | 57 => 2
  | 58 => 2
  | 59 => 2
  | 60 => 0
  | 61 => 2
  | 62 => 2
  | 63 => 2
  | 64 => 2
  | 65 => 2
  | 66 => 2
  | 67 => 2
  | 68 => 2
  | 69 => 2
  | 70 => 2
  | 71 => 2
  | 72 => 2
  | 73 => 2
  | 74 => 0
  | 75 => 0
  | 76 => 0
  | 77 => 0
  | 78 => 2
  | 79 => 2
  | 80 => 2
  | 81 => 0
  | 82 => 0
  | 83 => 0
  | 84 => 0
  | 85 => 2
  | 86 => 2
  | 87 => 2
  | 88 => 2
  | 89 => 0
  | 90 => 0
  | 91 => 0
  | 92 => 0
  | 93 => 0
  | 94 => 0
  | 95 => 0
  | 96 => 2
  | 97 => 2
  | 98 => 2
  | 99 => 2
  | 100 => 2
  | 101 => 2
  | 102 => 2
  | 103 => 2
  | 104 => 2
  | 105 => 2
  | 106 => 2
  | 107 => 2
  | 108 => 2
  | 109 => 0
  | 110 => 0
  | 111 => 0
  | 112 => 0
  | 113 => 0
  | 114 => 2
  | 115 => 2
  | 116 => 0
  | 117 => 0
  | 118 => 0
  | 119 => 0
  | 120 => 2
  | 121 => 2
  | 122 => 2
  | 123 => 2
  | 124 => 2
  | 125 => 0
  | 126 => 2
  | 127 => 2
  | 128 => 0
  | 129 => 0
  | 130 => 2
  | 131 => 2
  | 132 => 2
  | 133 => 2
  | 134 => 2
  | 135 => 2
  | 136 => 2
  | 137 => 2
  | 138 => 0
  | 139 => 2
  | 140 => 2
  | 141 => 2
  | 142 => 2
  | 143 => 2
  | 144 => 2
  | 145 => 0
  | 146 => 0
  | 147 => 2
  | 148 => 2
  | 149 => 2
  | 150 => 0
  | 151 => 2
  | 152 => 2
  | 153 => 2
  | 154 => 2
  | 155 => 2
  | 156 => 2
  | 157 => 2
  | 158 => 2
  | 159 => 2
  | 160 => 2
  | 161 => 2
  | _ => 2
def ixR : Nat → Nat := fun j => match j with
  | 0 => 0
  | 1 => 0
  | 2 => 1
  | 3 => 2
  | 4 => 3
  | 5 => 0
  | 6 => 0
  | 7 => 0
  | 8 => 4
  | 9 => 5
  | 10 => 6
  | 11 => 0
  | 12 => 0
  | 13 => 7
  | 14 => 8
  | 15 => 9
  | 16 => 0
  | 17 => 0
  | 18 => 0
  | 19 => 0
  | 20 => 0
  | 21 => 0
  | 22 => 0
  | 23 => 0
  | 24 => 0
  | 25 => 0
  | 26 => 10
  | 27 => 11
  | 28 => 12
  | 29 => 13
  | 30 => 0
  | 31 => 14
  | 32 => 15
  | 33 => 0
  | 34 => 0
  | 35 => 0
  | 36 => 0
  | 37 => 0
  | 38 => 0
  | 39 => 16
  | 40 => 17
  | 41 => 18
  | 42 => 19
  | 43 => 20
  | 44 => 21
  | 45 => 22
  | 46 => 23
  | 47 => 24
  | 48 => 25
  | 49 => 26
  | 50 => 27
  | 51 => 28
  | 52 => 0
  | 53 => 29
  | 54 => 30
  | 55 => 31
  | 56 => 32
  | 57 => 33
  | 58 => 34
  | 59 => 35
  | 60 => 0
  | 61 => 36
  | 62 => 37
  | 63 => 38
  | 64 => 39
  | 65 => 40
  | 66 => 41
  | 67 => 42
  | 68 => 43
  | 69 => 44
  | 70 => 45
  | 71 => 46
  | 72 => 47
  | 73 => 48
  | 74 => 0
  | 75 => 0
  | 76 => 0
  | 77 => 0
  | 78 => 49
  | 79 => 50
  | 80 => 51
  | 81 => 0
  | 82 => 0
  | 83 => 0
  | 84 => 0
  | 85 => 52
  | 86 => 53
  | 87 => 54
  | 88 => 55
  | 89 => 0
  | 90 => 0
  | 91 => 0
  | 92 => 0
  | 93 => 0
  | 94 => 0
  | 95 => 0
  | 96 => 56
  | 97 => 57
  | 98 => 58
  | 99 => 59
  | 100 => 60
  | 101 => 61
  | 102 => 62
  | 103 => 63
  | 104 => 64
  | 105 => 65
  | 106 => 66
  | 107 => 67
  | 108 => 68
  | 109 => 0
  | 110 => 0
  | 111 => 0
  | 112 => 0
  | 113 => 0
  | 114 => 69
  | 115 => 70
  | 116 => 0
  | 117 => 0
  | 118 => 0
  | 119 => 0
  | 120 => 71
  | 121 => 72
  | 122 => 73
  | 123 => 74
  | 124 => 75
  | 125 => 0
  | 126 => 76
  | 127 => 77
  | 128 => 0
  | 129 => 0
  | 130 => 78
  | 131 => 79
  | 132 => 80
  | 133 => 81
  | 134 => 82
  | 135 => 83
  | 136 => 84
  | 137 => 85
  | 138 => 0
  | 139 => 86
  | 140 => 87
  | 141 => 88
  | 142 => 89
  | 143 => 90
  | 144 => 91
  | 145 => 0
  | 146 => 0
  | 147 => 92
  | 148 => 93
  | 149 => 94
  | 150 => 0
  | 151 => 95
  | 152 => 96
  | 153 => 97
  | 154 => 98
  | 155 => 99
  | 156 => 100
  | 157 => 101
  | 158 => 102
  | 159 => 103
  | 160 => 104
  | 161 => 105
  | _ => 106
/-- the reference's fields: ints, longs, its rows -/
def vS (a : Nat → Nat) (i : Nat → Int32) (l : Nat → Int64) : Nat → Value := fun K => match kdR K with
  | 0 => .int (i K)
  | 1 => .long (l K)
  | _ => .ref (a (ixR K))
def cR (a : Nat → Nat) (k : Nat → ClassId) (F : Nat → Nat → Int32) (G : Nat → Nat → Int64) (j : Nat) : Nat × va_E := (a j, .inl (k j, lenR j, match lngR j with
  | true => .inr (.inl (G j))
  | false => .inl (F j)))
/-- the reference whole -/
def WR (a : Nat → Nat) (k : Nat → ClassId) (h0 : Nat) (i : Nat → Int32) (l : Nat → Int64) (F : Nat → Nat → Int32) (G : Nat → Nat → Int64) : va_W := (h0, .inr (12, fM (vS a i l))) :: (List.range 107).map (cR a k F G)
def fT {α : Type} (f : Nat → α) (t : Nat) (x : α) : Nat → α := fun j => if j = t then x else f j
theorem fT_eq {α : Type} (f : Nat → α) (t : Nat) (x : α) : fT f t x t = x := if_pos rfl
theorem fT_ne {α : Type} (f : Nat → α) {t j : Nat} (x : α) (h : j ≠ t) : fT f t x j = f j := if_neg h
theorem vS_i (a : Nat → Nat) (i : Nat → Int32) (l : Nat → Int64) (K : Nat) (x : Int32) (h : kdR K = 0) : mUp (vS a i l) K (.int x) = vS a (fT i K x) l := by
  funext q
  by_cases e : q = K
  · subst e; simp [mUp, vS, h, fT]
  · have : Nat.beq q K = false := by
      cases h9 : Nat.beq q K with
      | false => rfl
      | true => exact absurd (Nat.eq_of_beq_eq_true h9) e
    simp [mUp, this, vS, fT, e]
theorem vS_l (a : Nat → Nat) (i : Nat → Int32) (l : Nat → Int64) (K : Nat) (x : Int64) (h : kdR K = 1) : mUp (vS a i l) K (.long x) = vS a i (fT l K x) := by
  funext q
  by_cases e : q = K
  · subst e; simp [mUp, vS, h, fT]
  · have : Nat.beq q K = false := by
      cases h9 : Nat.beq q K with
      | false => rfl
      | true => exact absurd (Nat.eq_of_beq_eq_true h9) e
    simp [mUp, this, vS, fT, e]
theorem WR_get {a : Nat → Nat} {k : Nat → ClassId} {h0 : Nat} {i : Nat → Int32} {l : Nat → Int64} {F : Nat → Nat → Int32} {G : Nat → Nat → Int64} (j : Nat) (hj : j < 107) : (WR a k h0 i l F G)[j + 1]? = some (cR a k F G j) := by
  unfold WR
  rw [List.getElem?_cons_succ, List.getElem?_map, List.getElem?_range hj]
  rfl
theorem TR_get {k : Nat → ClassId} (j : Nat) (hj : j < 107) : (tX12 k)[j]? = some (k j, arT j) := by
  unfold tX12
  rw [List.getElem?_map, List.getElem?_range hj]
  rfl
theorem WR_i {a : Nat → Nat} {k : Nat → ClassId} {h0 : Nat} {i : Nat → Int32} {l : Nat → Int64} {F : Nat → Nat → Int32} {G : Nat → Nat → Int64} (K : Nat) (x : Int32) (h : kdR K = 0) : (WR a k h0 i l F G).set 0 (h0, .inr (12, (fM (vS a i l)).set K (.int x))) = WR a k h0 (fT i K x) l F G := by
  rw [mSet, vS_i a i l K x h]; rfl
theorem WR_l {a : Nat → Nat} {k : Nat → ClassId} {h0 : Nat} {i : Nat → Int32} {l : Nat → Int64} {F : Nat → Nat → Int32} {G : Nat → Nat → Int64} (K : Nat) (x : Int64) (h : kdR K = 1) : (WR a k h0 i l F G).set 0 (h0, .inr (12, (fM (vS a i l)).set K (.long x))) = WR a k h0 i (fT l K x) F G := by
  rw [mSet, vS_l a i l K x h]; rfl
theorem WR_F {a : Nat → Nat} {k : Nat → ClassId} {h0 : Nat} {i : Nat → Int32} {l : Nat → Int64} {F : Nat → Nat → Int32} {G : Nat → Nat → Int64} (j : Nat) (hj : j < 107) (f : Nat → Int32) (h : lngR j = false) : (WR a k h0 i l F G).set (j + 1) (a j, .inl (k j, lenR j, .inl f)) = WR a k h0 i l (fT F j f) G := by
  unfold WR
  rw [List.set_cons_succ]
  congr 1
  apply List.ext_getElem?
  intro q
  rw [List.getElem?_set, List.getElem?_map, List.getElem?_map]
  rcases Nat.lt_or_ge q 107 with hq | hq
  · rw [List.getElem?_range hq]
    by_cases e : j = q
    · subst e; simp [hq, cR, h, fT]
    · have e9 : ¬ q = j := fun h9 => e h9.symm
      simp [e, cR, fT, e9]
  · by_cases e : j = q
    · omega
    · simp [e, List.getElem?_eq_none (show (List.range 107).length ≤ q by simp; omega)]
theorem WR_G {a : Nat → Nat} {k : Nat → ClassId} {h0 : Nat} {i : Nat → Int32} {l : Nat → Int64} {F : Nat → Nat → Int32} {G : Nat → Nat → Int64} (j : Nat) (hj : j < 107) (f : Nat → Int64) (h : lngR j = true) : (WR a k h0 i l F G).set (j + 1) (a j, .inl (k j, lenR j, .inr (.inl f))) = WR a k h0 i l F (fT G j f) := by
  unfold WR
  rw [List.set_cons_succ]
  congr 1
  apply List.ext_getElem?
  intro q
  rw [List.getElem?_set, List.getElem?_map, List.getElem?_map]
  rcases Nat.lt_or_ge q 107 with hq | hq
  · rw [List.getElem?_range hq]
    by_cases e : j = q
    · subst e; simp [hq, cR, h, fT]
    · have e9 : ¬ q = j := fun h9 => e h9.symm
      simp [e, cR, fT, e9]
  · by_cases e : j = q
    · omega
    · simp [e, List.getElem?_eq_none (show (List.range 107).length ≤ q by simp; omega)]
/-- a callee that has the caller's whole world -/
theorem allFree {A0 : Nat → Prop} {ws : va_W} {H0 H : Heap} {locs : List Loc} (hD : va_D A0 ws) (hS : va_S A0 H0 H locs) (hA : ∀ q, H0.size ≤ q → A0 q) : ∀ q, va_A ws H.size q → A0 q := by
  rintro q (⟨k, e, h⟩ | h)
  · exact hD.2 k _ h
  · exact hA q (Nat.le_trans hS.1 h)
/-- a callee that has nothing of the caller's world -/
theorem noneFree {A0 : Nat → Prop} {H0 H : Heap} {locs : List Loc} (hS : va_S A0 H0 H locs) (hA : ∀ q, H0.size ≤ q → A0 q) : ∀ q, va_A [] H.size q → A0 q := by
  rintro q (⟨k, e, h⟩ | h)
  · simp at h
  · exact hA q (Nat.le_trans hS.1 h)
theorem keepAll {D : va_G} {cl : List vw_C} {ws : va_W} {H H1 : Heap} (hP : va_P D cl ws H) (hk : ∀ q : Nat, q < H.size → ¬ va_A [] H.size q → H1[q]? = H[q]?) : va_P D cl ws H1 :=
  hP.kept (fun k q h => hk q.1 ((hP k q h).lt) (by
    rintro (⟨k9, e9, h9⟩ | h9)
    · simp at h9
    · have := (hP k q h).lt; omega))
theorem fT_id {α : Type} (f : Nat → α) {k : Nat} (x : α) (h : f k = x) : fT f k x = f := by
  funext q
  unfold fT
  by_cases e : q = k
  · rw [if_pos e, e]; exact h.symm
  · rw [if_neg e]
theorem fT_sw {α : Type} (f : Nat → α) {a b : Nat} (x y : α) (h : b ≠ a) : fT (fT f a x) b y = fT (fT f b y) a x := by
  funext q
  unfold fT
  by_cases e1 : q = a
  · subst e1
    rw [if_neg (fun e => h e.symm), if_pos rfl, if_pos rfl]
  · by_cases e2 : q = b
    · rw [if_pos e2, if_neg e1, if_pos e2]
    · rw [if_neg e2, if_neg e1, if_neg e1, if_neg e2]
theorem fT_sm {α : Type} (f : Nat → α) (a : Nat) (x y : α) : fT (fT f a x) a y = fT f a y := by
  funext q
  unfold fT
  by_cases e1 : q = a
  · rw [if_pos e1, if_pos e1]
  · rw [if_neg e1, if_neg e1, if_neg e1]
end
section
theorem toL_eq {x y : Int64} {X Y : Int} (h : lg_cmp x y = 0) (hx : x.toInt = X) (hy : y.toInt = Y) : X = Y := by subst hx; subst hy; rw [(lg_cmp_eq x y).mp h]
theorem toL_neq {x y : Int64} {X Y : Int} (h : ¬ lg_cmp x y = 0) (hx : x.toInt = X) (hy : y.toInt = Y) : ¬ X = Y := by subst hx; subst hy; exact fun e => h ((lg_cmp_eq x y).mpr (Int64.toInt_inj.mp e))
theorem toL_ne {x y : Int64} {X Y : Int} (h : ¬ lg_cmp x y = 0) (hx : x.toInt = X) (hy : y.toInt = Y) : X ≠ Y := toL_neq h hx hy
theorem toL_nne {x y : Int64} {X Y : Int} (h : lg_cmp x y = 0) (hx : x.toInt = X) (hy : y.toInt = Y) : X = Y := toL_eq h hx hy
theorem toL_lt {x y : Int64} {X Y : Int} (h : lg_cmp x y < 0) (hx : x.toInt = X) (hy : y.toInt = Y) : X < Y := by subst hx; subst hy; exact Int64.lt_iff_toInt_lt.mp ((lg_cmp_lt x y).mp h)
theorem toL_nlt {x y : Int64} {X Y : Int} (h : ¬ lg_cmp x y < 0) (hx : x.toInt = X) (hy : y.toInt = Y) : ¬ X < Y := by subst hx; subst hy; exact fun e => h ((lg_cmp_lt x y).mpr (Int64.lt_iff_toInt_lt.mpr e))
theorem toL_le {x y : Int64} {X Y : Int} (h : lg_cmp x y ≤ 0) (hx : x.toInt = X) (hy : y.toInt = Y) : X ≤ Y := by subst hx; subst hy; exact Int64.le_iff_toInt_le.mp ((lg_cmp_le x y).mp h)
theorem toL_nle {x y : Int64} {X Y : Int} (h : ¬ lg_cmp x y ≤ 0) (hx : x.toInt = X) (hy : y.toInt = Y) : ¬ X ≤ Y := by subst hx; subst hy; exact fun e => h ((lg_cmp_le x y).mpr (Int64.le_iff_toInt_le.mpr e))
theorem toL_ge {x y : Int64} {X Y : Int} (h : 0 ≤ lg_cmp x y) (hx : x.toInt = X) (hy : y.toInt = Y) : X ≥ Y := by subst hx; subst hy; exact Int64.le_iff_toInt_le.mp ((lg_cmp_ge x y).mp h)
theorem toL_nge {x y : Int64} {X Y : Int} (h : ¬ 0 ≤ lg_cmp x y) (hx : x.toInt = X) (hy : y.toInt = Y) : ¬ X ≥ Y := by subst hx; subst hy; exact fun e => h ((lg_cmp_ge x y).mpr (Int64.le_iff_toInt_le.mpr e))
theorem toL_gt {x y : Int64} {X Y : Int} (h : 0 < lg_cmp x y) (hx : x.toInt = X) (hy : y.toInt = Y) : X > Y := by subst hx; subst hy; exact Int64.lt_iff_toInt_lt.mp ((lg_cmp_gt x y).mp h)
theorem toL_ngt {x y : Int64} {X Y : Int} (h : ¬ 0 < lg_cmp x y) (hx : x.toInt = X) (hy : y.toInt = Y) : ¬ X > Y := by subst hx; subst hy; exact fun e => h ((lg_cmp_gt x y).mpr (Int64.lt_iff_toInt_lt.mpr e))
theorem updL_at {f : Nat → Int64} {i : Nat} {x : Int64} (hi : i < 2 ^ 31) (j : Nat) : vp_updL f (nI i).toNatClampNeg x j = if j = i then x else f j := by
  rw [nI_clamp hi]; rfl
/-- the number that n limbs of 28 bits make, from o on -/
def lv28 (f : Nat → Int32) (o : Nat) : Nat → Nat
  | 0 => 0
  | n + 1 => lv28 f o n + (f (o + n)).toNatClampNeg * 2 ^ (28 * n)
theorem lv28_congr {f g : Nat → Int32} {o p n : Nat} (h : ∀ q, q < n → f (o + q) = g (p + q)) : lv28 f o n = lv28 g p n := by
  induction n with
  | zero => rfl
  | succ n ih => simp only [lv28]; rw [ih (fun q hq => h q (by omega)), h n (by omega)]
/-- limbs lie in 0 .. 2^28 - 1 -/
def Lm (f : Nat → Int32) (o n : Nat) : Prop := ∀ q, q < n → ∃ d, d < 268435456 ∧ f (o + q) = nI d
theorem lv28_lt {f : Nat → Int32} {o n : Nat} (h : Lm f o n) : lv28 f o n < 2 ^ (28 * n) := by
  induction n with
  | zero => simp [lv28]
  | succ n ih =>
    obtain ⟨d, hd, e⟩ := h n (by omega)
    have h1 := ih (fun q hq => h q (by omega))
    simp only [lv28]
    rw [e, nI_clamp (by omega), show 28 * (n + 1) = 28 * n + 28 by omega, Nat.pow_add]
    have h2 : d * 2 ^ (28 * n) + 2 ^ (28 * n) ≤ 2 ^ (28 * n) * 2 ^ 28 := by
      rw [← Nat.succ_mul, Nat.mul_comm (2 ^ (28 * n))]
      exact Nat.mul_le_mul_right _ (by omega)
    omega
/-- slot s holds the whole number x -/
def Nu (f : Nat → Int32) (s : Nat) (x : Int) : Prop := ∃ n, n ≤ 22 ∧ f (24 * s + 1) = nI n ∧ Lm f (24 * s + 2) n ∧ (0 < n → f (24 * s + 1 + n) ≠ 0) ∧ (x.natAbs = lv28 f (24 * s + 2) n) ∧ ((x = 0 ∧ f (24 * s) = 0) ∨ (0 < x ∧ f (24 * s) = 1) ∨ (x < 0 ∧ f (24 * s) = -1))
theorem Nu.congr {f g : Nat → Int32} {s p : Nat} {x : Int} (h : Nu f p x) {n : Nat} (hn : f (24 * p + 1) = nI n) (hn22 : n ≤ 22) (e : ∀ q, q < n + 2 → g (24 * s + q) = f (24 * p + q)) : Nu g s x := by
  obtain ⟨n', a1, a2, a3, a4, a5, a6⟩ := h
  have en : n' = n := (nI_eq (by omega) (by omega)).mp (a2.symm.trans hn)
  subst en
  refine ⟨n', a1, ?_, ?_, ?_, ?_, ?_⟩
  · rw [e 1 (by omega)]; exact a2
  · intro q hq
    obtain ⟨d, hd, e1⟩ := a3 q hq
    exact ⟨d, hd, by rw [show 24 * s + 2 + q = 24 * s + (2 + q) by omega, e (2 + q) (by omega), ← Nat.add_assoc]; exact e1⟩
  · intro h0
    rw [show 24 * s + 1 + n' = 24 * s + (1 + n') by omega, e (1 + n') (by omega), ← Nat.add_assoc]; exact a4 h0
  · rw [a5]
    exact lv28_congr fun q hq => by rw [show 24 * s + 2 + q = 24 * s + (2 + q) by omega, e (2 + q) (by omega), ← Nat.add_assoc]
  · have := e 0 (by omega)
    rw [Nat.add_zero, Nat.add_zero] at this
    rw [this]; exact a6
theorem mask28 {n : Nat} (h : n < 2 ^ 63) : lN n &&& 268435455 = lN (n % 268435456) := by
  apply Int64.toBitVec_inj.mp
  apply BitVec.eq_of_toNat_eq
  have h1 : (lN n).toBitVec.toNat = n := Nat.mod_eq_of_lt (by omega)
  have h2 : (lN (n % 268435456)).toBitVec.toNat = n % 268435456 := Nat.mod_eq_of_lt (by omega)
  rw [Int64.toBitVec_and, BitVec.toNat_and, h1, h2]
  exact Nat.and_two_pow_sub_one_eq_mod n 28
theorem shr28 {n : Nat} (h : n < 2 ^ 63) : lN n >>> ((28 : Int32).toInt64 &&& 63) = lN (n / 268435456) := by
  have hd : n / 268435456 ≤ n := Nat.div_le_self _ _
  apply Int64.toInt_inj.mp
  have e : (lN n >>> ((28 : Int32).toInt64 &&& 63)).toInt = (lN n).toInt >>> 28 := BitVec.toInt_sshiftRight ..
  rw [e, Int.shiftRight_eq_div_pow, pk_lT (by omega), pk_lT (by omega)]
  rfl
theorem posL {x : Int64} (h : 0 ≤ x.toInt) : x = lN x.toInt.natAbs := by
  apply Int64.toInt_inj.mp
  have h2 : x.toInt < 2 ^ 63 := by have := Int64.toInt_lt x; omega
  rw [pk_lT (by omega)]; omega
theorem negL {x : Int64} (h : x.toInt < 0) (h2 : -9223372036854775808 < x.toInt) : -x = lN x.toInt.natAbs := by
  apply Int64.toInt_inj.mp
  rw [pk_lT (by omega), Int64.toInt_neg]
  rw [Int.bmod_eq_of_le (by omega) (by omega)]
  omega
theorem lv28_top {r n v : Nat} (h : v + r * 2 ^ (28 * n) < 2 ^ 63) (hr : 0 < r) : n ≤ 2 := by
  refine Nat.le_of_not_lt fun hn => ?_
  have h1 : 2 ^ 63 ≤ 2 ^ (28 * n) := Nat.pow_le_pow_right (by omega) (by omega)
  have h2 : 2 ^ (28 * n) ≤ r * 2 ^ (28 * n) := Nat.le_mul_of_pos_left _ hr
  omega
theorem lv28_step {g : Nat → Int32} {o n r r0 : Nat} (ho : o + n < 2 ^ 31) (h : lv28 g o n + r * 2 ^ (28 * n) = r0) : lv28 (upd g (nI (o + n)).toNatClampNeg (nI (r % 268435456))) o (n + 1) + r / 268435456 * 2 ^ (28 * (n + 1)) = r0 := by
  have e1 : lv28 (upd g (nI (o + n)).toNatClampNeg (nI (r % 268435456))) o n = lv28 g o n := lv28_congr fun q hq => by rw [upd_at ho, if_neg (by omega)]
  have e2 : (nI (r % 268435456)).toNatClampNeg = r % 268435456 := nI_clamp (by omega)
  simp only [lv28]
  rw [e1, upd_at ho, if_pos rfl, e2, show 28 * (n + 1) = 28 * n + 28 by omega, Nat.pow_add]
  have e3 : r % 268435456 + 268435456 * (r / 268435456) = r := Nat.mod_add_div r 268435456
  have e4 : r % 268435456 * 2 ^ (28 * n) + r / 268435456 * (2 ^ (28 * n) * 2 ^ 28) = r * 2 ^ (28 * n) := by
    have : r / 268435456 * (2 ^ (28 * n) * 2 ^ 28) = 268435456 * (r / 268435456) * 2 ^ (28 * n) := by
      rw [Nat.mul_comm (2 ^ (28 * n)), ← Nat.mul_assoc, Nat.mul_comm (r / 268435456)]
    rw [this, ← Nat.add_mul, e3]
  omega
end
section
theorem dX12_sign_0 : decode cX12_sign 0 = .ok (.aload_n 0, 1) := dk_42 (by decide +kernel)
theorem dX12_sign_1 : decode cX12_sign 1 = .ok (.getfield 7, 3) := dk_180 (by decide +kernel)
theorem dX12_sign_4 : decode cX12_sign 4 = .ok (.bipush 24, 2) := dk_16 (by decide +kernel)
theorem dX12_sign_6 : decode cX12_sign 6 = .ok (.iload_n 1, 1) := dk_27 (by decide +kernel)
theorem dX12_sign_7 : decode cX12_sign 7 = .ok (.imul, 1) := dk_104 (by decide +kernel)
theorem dX12_sign_8 : decode cX12_sign 8 = .ok (.iaload, 1) := dk_46 (by decide +kernel)
theorem dX12_sign_9 : decode cX12_sign 9 = .ok (.ireturn, 1) := dk_172 (by decide +kernel)
def wsRX12_sign : List Cond := .code yX12_sign cX12_sign 2 (some .int) :: ([.fieldLink RX12 7 "OptimaWorksModel" "big" "[I"] ++ wsX120)
theorem iwsRX12_sign_in12 : ∀ w ∈ wsX120, w ∈ wsRX12_sign := fun _ h => List.mem_cons_of_mem _ (List.mem_append_right _ h)
set_option maxHeartbeats 4000000 in
set_option maxRecDepth 100000 in
/-- sign(s) -/
theorem r_X12_sign (l : Launch) (dC : Nat → ClassId) (dI : Nat → Nat → Nat) (a : Nat → Nat) (k : Nat → ClassId) (h0 : Nat) (vi : Nat → Int32) (vj : Nat → Int64) (vF : Nat → Nat → Int32) (vG : Nat → Nat → Int64) (sn : Nat) (hs : sn < 1100) (sz : Nat) : Met l yX12_sign wsRX12_sign ({ frames := 0, cells := 0, slots := 0, locals := 0 }) (va_Pc [.ref h0, .int (nI sn)] (fun U => U.heap.size = sz ∧ va_P (dC, dI) vwCl (WR a k h0 vi vj vF vG) U.heap ∧ va_K (dC, dI) vwCl (tX12 k) U ∧ va_D (fun _ => True) (WR a k h0 vi vj vF vG))) (va_Qi (fun (r : Int32) (u : Unit) => r = (vF 0 (24 * sn))) (fun (u : Unit) t => va_P (dC, dI) vwCl (WR a k h0 vi vj vF vG) t.heap ∧ va_D (va_A (WR a k h0 vi vj vF vG) sz) (WR a k h0 vi vj vF vG)) (va_A (WR a k h0 vi vj vF vG) sz)) 0 0 (va_A (WR a k h0 vi vj vF vG) sz) := by
  refine Met.ofW (cc := cX12_sign) (maxL := 2) (ret := (some .int)) (by decide) rfl ?_
  intro p e s m args below meth c s₁ B hml hv
  obtain ⟨rfl, hsz, hP, hK, hD0⟩ := hv
  have hx := B.exec
  have hb := B.bytes
  have hr := B.returns
  have hts := atoms_spec (ws := wsRX12_sign) B.pre
  have hown : s.vm.findClass RX12 = some m.cls := findClass_of_methodNamed B.named
  have hlocks := B.notSynchronized
  subst hsz
  have hD := hD0.self (sz := s.heap.size)
  generalize hAe : va_A (WR a k h0 vi vj vF vG) s.heap.size = A at hD ⊢
  have hA : ∀ q : Nat, s.heap.size ≤ q → A q := fun q h => by rw [← hAe]; exact Or.inr h
  have hS : va_S A s.heap s.heap [] := va_S.rf
  have hl := lv_entry ([.ref h0, .int (nI sn)]) (n := 2) (Nat.le_of_ble_eq_true rfl)
  rw [lg_entry_eq]
  generalize (lg_sl ([.ref h0, .int (nI sn)]) ++ List.replicate (2 - (lg_sl ([.ref h0, .int (nI sn)])).length) Slot.unset).toArray = ls at hl ⊢
  have hl : lv_has ls 2 [(0, .ref h0), (1, .int (nI sn))] := hl
  refine lv_aload_n hx hb dX12_sign_0 rfl (lv_at hl 0 rfl) ?_
  refine va_get (D := (dC, dI)) (ci := 12) (v := .ref (a 0)) (C := RX12) (T := TX12) (N := 163) (fs := fM (vS a vi vj)) hx hb hts iwsRX12_sign_in12 hown hK hP 0 rfl rfl 1 (by decide) (hts (.fieldLink RX12 7 "OptimaWorksModel" "big" "[I") (by decide +kernel)) (fun _ h9 => h9) rfl dX12_sign_1 ?_
  refine lv_bipush (v := 24) hx hb dX12_sign_4 (by decide) ?_
  refine lv_iload_n hx hb dX12_sign_6 rfl (lv_at hl 1 rfl) ?_
  refine lv_imul hx hb dX12_sign_7 ?_
  refine lv_topi (fun y1 hy1 => ?_)
  obtain rfl : (nI (24 * sn)) = y1 := (hy1.trans (pk_mul 24 sn)).symm
  refine va_iald (cA := k 0) (n := 26400) (f := (vF 0)) hx hb hK hP 1 0 (WR_get 0 (by decide)) (TR_get 0 (by decide)) (vp_in_nI (show (24 * sn) < 26400 by omega) (by omega)) dX12_sign_8 ?_
  refine lv_topi (fun y2 hy2 => ?_)
  obtain rfl : ((vF 0) (24 * sn)) = y2 := (hy2.trans (by rw [nI_clamp (by omega)])).symm
  refine W.widen (k := 0) (n := 0) (by decide +kernel) (by decide +kernel) ?_
  exact W.iret (v := ((vF 0) (24 * sn))) hx hb hr (fun t9_ ht hW => ⟨⟨((vF 0) (24 * sn)), (), rfl, by (first | rfl | assumption | trivial | omega | (simp []; done) | (simp; omega)), by rw [ht]; exact hP, hD⟩, hS.F ht⟩) hS.2.2 dX12_sign_9
theorem dX12_turn_0 : decode cX12_turn 0 = .ok (.aload_n 0, 1) := dk_42 (by decide +kernel)
theorem dX12_turn_1 : decode cX12_turn 1 = .ok (.getfield 7, 3) := dk_180 (by decide +kernel)
theorem dX12_turn_4 : decode cX12_turn 4 = .ok (.bipush 24, 2) := dk_16 (by decide +kernel)
theorem dX12_turn_6 : decode cX12_turn 6 = .ok (.iload_n 1, 1) := dk_27 (by decide +kernel)
theorem dX12_turn_7 : decode cX12_turn 7 = .ok (.imul, 1) := dk_104 (by decide +kernel)
theorem dX12_turn_8 : decode cX12_turn 8 = .ok (.aload_n 0, 1) := dk_42 (by decide +kernel)
theorem dX12_turn_9 : decode cX12_turn 9 = .ok (.getfield 7, 3) := dk_180 (by decide +kernel)
theorem dX12_turn_12 : decode cX12_turn 12 = .ok (.bipush 24, 2) := dk_16 (by decide +kernel)
theorem dX12_turn_14 : decode cX12_turn 14 = .ok (.iload_n 1, 1) := dk_27 (by decide +kernel)
theorem dX12_turn_15 : decode cX12_turn 15 = .ok (.imul, 1) := dk_104 (by decide +kernel)
theorem dX12_turn_16 : decode cX12_turn 16 = .ok (.iaload, 1) := dk_46 (by decide +kernel)
theorem dX12_turn_17 : decode cX12_turn 17 = .ok (.ineg, 1) := dk_116 (by decide +kernel)
theorem dX12_turn_18 : decode cX12_turn 18 = .ok (.iastore, 1) := dk_79 (by decide +kernel)
theorem dX12_turn_19 : decode cX12_turn 19 = .ok (.return_, 1) := dk_177 (by decide +kernel)
def wsRX12_turn : List Cond := .code yX12_turn cX12_turn 2 none :: ([.fieldLink RX12 7 "OptimaWorksModel" "big" "[I"] ++ wsX120)
theorem iwsRX12_turn_in12 : ∀ w ∈ wsX120, w ∈ wsRX12_turn := fun _ h => List.mem_cons_of_mem _ (List.mem_append_right _ h)
set_option maxHeartbeats 4000000 in
set_option maxRecDepth 100000 in
/-- turn(s) -/
theorem r_X12_turn (l : Launch) (dC : Nat → ClassId) (dI : Nat → Nat → Nat) (a : Nat → Nat) (k : Nat → ClassId) (h0 : Nat) (vi : Nat → Int32) (vj : Nat → Int64) (vF : Nat → Nat → Int32) (vG : Nat → Nat → Int64) (sn : Nat) (hs : sn < 1100) (sz : Nat) : Met l yX12_turn wsRX12_turn ({ frames := 0, cells := 0, slots := 0, locals := 0 }) (va_Pc [.ref h0, .int (nI sn)] (fun U => U.heap.size = sz ∧ va_P (dC, dI) vwCl (WR a k h0 vi vj vF vG) U.heap ∧ va_K (dC, dI) vwCl (tX12 k) U ∧ va_D (fun _ => True) (WR a k h0 vi vj vF vG))) (va_Qv (fun (u : Unit) => True) (fun (u : Unit) t => va_P (dC, dI) vwCl (WR a k h0 vi vj (fT vF 0 (upd (vF 0) (nI (24 * sn)).toNatClampNeg (-(vF 0 (24 * sn))))) vG) t.heap ∧ va_D (va_A (WR a k h0 vi vj vF vG) sz) (WR a k h0 vi vj (fT vF 0 (upd (vF 0) (nI (24 * sn)).toNatClampNeg (-(vF 0 (24 * sn))))) vG)) (va_A (WR a k h0 vi vj vF vG) sz)) 0 0 (va_A (WR a k h0 vi vj vF vG) sz) := by
  refine Met.ofW (cc := cX12_turn) (maxL := 2) (ret := none) (by decide) rfl ?_
  intro p e s m args below meth c s₁ B hml hv
  obtain ⟨rfl, hsz, hP, hK, hD0⟩ := hv
  have hx := B.exec
  have hb := B.bytes
  have hr := B.returns
  have hts := atoms_spec (ws := wsRX12_turn) B.pre
  have hown : s.vm.findClass RX12 = some m.cls := findClass_of_methodNamed B.named
  have hlocks := B.notSynchronized
  subst hsz
  have hD := hD0.self (sz := s.heap.size)
  generalize hAe : va_A (WR a k h0 vi vj vF vG) s.heap.size = A at hD ⊢
  have hA : ∀ q : Nat, s.heap.size ≤ q → A q := fun q h => by rw [← hAe]; exact Or.inr h
  have hS : va_S A s.heap s.heap [] := va_S.rf
  have hl := lv_entry ([.ref h0, .int (nI sn)]) (n := 2) (Nat.le_of_ble_eq_true rfl)
  rw [lg_entry_eq]
  generalize (lg_sl ([.ref h0, .int (nI sn)]) ++ List.replicate (2 - (lg_sl ([.ref h0, .int (nI sn)])).length) Slot.unset).toArray = ls at hl ⊢
  have hl : lv_has ls 2 [(0, .ref h0), (1, .int (nI sn))] := hl
  refine lv_aload_n hx hb dX12_turn_0 rfl (lv_at hl 0 rfl) ?_
  refine va_get (D := (dC, dI)) (ci := 12) (v := .ref (a 0)) (C := RX12) (T := TX12) (N := 163) (fs := fM (vS a vi vj)) hx hb hts iwsRX12_turn_in12 hown hK hP 0 rfl rfl 1 (by decide) (hts (.fieldLink RX12 7 "OptimaWorksModel" "big" "[I") (by decide +kernel)) (fun _ h9 => h9) rfl dX12_turn_1 ?_
  refine lv_bipush (v := 24) hx hb dX12_turn_4 (by decide) ?_
  refine lv_iload_n hx hb dX12_turn_6 rfl (lv_at hl 1 rfl) ?_
  refine lv_imul hx hb dX12_turn_7 ?_
  refine lv_topi (fun y1 hy1 => ?_)
  obtain rfl : (nI (24 * sn)) = y1 := (hy1.trans (pk_mul 24 sn)).symm
  refine lv_aload_n hx hb dX12_turn_8 rfl (lv_at hl 0 rfl) ?_
  refine va_get (D := (dC, dI)) (ci := 12) (v := .ref (a 0)) (C := RX12) (T := TX12) (N := 163) (fs := fM (vS a vi vj)) hx hb hts iwsRX12_turn_in12 hown hK hP 0 rfl rfl 1 (by decide) (hts (.fieldLink RX12 7 "OptimaWorksModel" "big" "[I") (by decide +kernel)) (fun _ h9 => h9) rfl dX12_turn_9 ?_
  refine lv_bipush (v := 24) hx hb dX12_turn_12 (by decide) ?_
  refine lv_iload_n hx hb dX12_turn_14 rfl (lv_at hl 1 rfl) ?_
  refine lv_imul hx hb dX12_turn_15 ?_
  refine lv_topi (fun y2 hy2 => ?_)
  obtain rfl : (nI (24 * sn)) = y2 := (hy2.trans (pk_mul 24 sn)).symm
  refine va_iald (cA := k 0) (n := 26400) (f := (vF 0)) hx hb hK hP 1 0 (WR_get 0 (by decide)) (TR_get 0 (by decide)) (vp_in_nI (show (24 * sn) < 26400 by omega) (by omega)) dX12_turn_16 ?_
  refine lv_topi (fun y3 hy3 => ?_)
  obtain rfl : ((vF 0) (24 * sn)) = y3 := (hy3.trans (by rw [nI_clamp (by omega)])).symm
  refine lv_ineg hx hb dX12_turn_17 ?_
  refine va_iast (cA := k 0) (n := 26400) (f := (vF 0)) hx hb hK hP hD hS 1 0 (WR_get 0 (by decide)) (TR_get 0 (by decide)) (vp_in_nI (show (24 * sn) < 26400 by omega) (by omega)) dX12_turn_18 (fun H locs hP hD hS => ?_)
  have hP : va_P (dC, dI) vwCl (WR a k h0 vi vj (fT vF 0 (upd (vF 0) ((nI (24 * sn))).toNatClampNeg (-((vF 0) (24 * sn))))) vG) H := by rw [← WR_F 0 (by decide) _ rfl]; exact hP
  have hD : va_D A (WR a k h0 vi vj (fT vF 0 (upd (vF 0) ((nI (24 * sn))).toNatClampNeg (-((vF 0) (24 * sn))))) vG) := by rw [← WR_F 0 (by decide) _ rfl]; exact hD
  refine W.widen (k := 0) (n := 0) (by decide +kernel) (by decide +kernel) ?_
  have e9 : fT vF 0 (upd (vF 0) (nI (24 * sn)).toNatClampNeg (-(vF 0 (24 * sn)))) = fT vF 0 (upd (vF 0) ((nI (24 * sn))).toNatClampNeg (-((vF 0) (24 * sn)))) := by funext q9; by_cases h9_0 : q9 = 0; (subst h9_0; exact (fT_eq _ _ _).trans (Eq.trans (by first | with_reducible rfl | with_reducible assumption | (symm; with_reducible assumption) | rfl | assumption | (symm; assumption) | (subst_vars; rfl)) (fT_eq _ _ _).symm)); exact (fT_ne _ _ h9_0).trans (fT_ne _ _ h9_0).symm
  have hP : va_P (dC, dI) vwCl (WR a k h0 vi vj (fT vF 0 (upd (vF 0) (nI (24 * sn)).toNatClampNeg (-(vF 0 (24 * sn))))) vG) H := by rw [e9]; exact hP
  have hD : va_D A (WR a k h0 vi vj (fT vF 0 (upd (vF 0) (nI (24 * sn)).toNatClampNeg (-(vF 0 (24 * sn))))) vG) := by rw [e9]; exact hD
  clear e9
  exact W.vret hx hb hr (fun t9_ ht hW => ⟨⟨(), rfl, trivial, by rw [ht]; exact hP, hD⟩, hS.F ht⟩) hS.2.2 dX12_turn_19
theorem dX12_copy_0 : decode cX12_copy 0 = .ok (.iconst 0, 1) := dk_3 (by decide +kernel)
theorem dX12_copy_1 : decode cX12_copy 1 = .ok (.istore_n 3, 1) := dk_62 (by decide +kernel)
theorem dX12_copy_2 : decode cX12_copy 2 = .ok (.iload_n 3, 1) := dk_29 (by decide +kernel)
theorem dX12_copy_3 : decode cX12_copy 3 = .ok (.aload_n 0, 1) := dk_42 (by decide +kernel)
theorem dX12_copy_4 : decode cX12_copy 4 = .ok (.getfield 7, 3) := dk_180 (by decide +kernel)
theorem dX12_copy_7 : decode cX12_copy 7 = .ok (.bipush 24, 2) := dk_16 (by decide +kernel)
theorem dX12_copy_9 : decode cX12_copy 9 = .ok (.iload_n 2, 1) := dk_28 (by decide +kernel)
theorem dX12_copy_10 : decode cX12_copy 10 = .ok (.imul, 1) := dk_104 (by decide +kernel)
theorem dX12_copy_11 : decode cX12_copy 11 = .ok (.iconst 1, 1) := dk_4 (by decide +kernel)
theorem dX12_copy_12 : decode cX12_copy 12 = .ok (.iadd, 1) := dk_96 (by decide +kernel)
theorem dX12_copy_13 : decode cX12_copy 13 = .ok (.iaload, 1) := dk_46 (by decide +kernel)
theorem dX12_copy_14 : decode cX12_copy 14 = .ok (.iconst 2, 1) := dk_5 (by decide +kernel)
theorem dX12_copy_15 : decode cX12_copy 15 = .ok (.iadd, 1) := dk_96 (by decide +kernel)
theorem dX12_copy_16 : decode cX12_copy 16 = .ok (.if_icmp .ge 31, 3) := dk_162 (by decide +kernel)
theorem dX12_copy_19 : decode cX12_copy 19 = .ok (.aload_n 0, 1) := dk_42 (by decide +kernel)
theorem dX12_copy_20 : decode cX12_copy 20 = .ok (.getfield 7, 3) := dk_180 (by decide +kernel)
theorem dX12_copy_23 : decode cX12_copy 23 = .ok (.bipush 24, 2) := dk_16 (by decide +kernel)
theorem dX12_copy_25 : decode cX12_copy 25 = .ok (.iload_n 1, 1) := dk_27 (by decide +kernel)
theorem dX12_copy_26 : decode cX12_copy 26 = .ok (.imul, 1) := dk_104 (by decide +kernel)
theorem dX12_copy_27 : decode cX12_copy 27 = .ok (.iload_n 3, 1) := dk_29 (by decide +kernel)
theorem dX12_copy_28 : decode cX12_copy 28 = .ok (.iadd, 1) := dk_96 (by decide +kernel)
theorem dX12_copy_29 : decode cX12_copy 29 = .ok (.aload_n 0, 1) := dk_42 (by decide +kernel)
theorem dX12_copy_30 : decode cX12_copy 30 = .ok (.getfield 7, 3) := dk_180 (by decide +kernel)
theorem dX12_copy_33 : decode cX12_copy 33 = .ok (.bipush 24, 2) := dk_16 (by decide +kernel)
theorem dX12_copy_35 : decode cX12_copy 35 = .ok (.iload_n 2, 1) := dk_28 (by decide +kernel)
theorem dX12_copy_36 : decode cX12_copy 36 = .ok (.imul, 1) := dk_104 (by decide +kernel)
theorem dX12_copy_37 : decode cX12_copy 37 = .ok (.iload_n 3, 1) := dk_29 (by decide +kernel)
theorem dX12_copy_38 : decode cX12_copy 38 = .ok (.iadd, 1) := dk_96 (by decide +kernel)
theorem dX12_copy_39 : decode cX12_copy 39 = .ok (.iaload, 1) := dk_46 (by decide +kernel)
theorem dX12_copy_40 : decode cX12_copy 40 = .ok (.iastore, 1) := dk_79 (by decide +kernel)
theorem dX12_copy_41 : decode cX12_copy 41 = .ok (.iinc 3 1, 3) := dk_132 (by decide +kernel)
theorem dX12_copy_44 : decode cX12_copy 44 = .ok (.goto (-42), 3) := dk_167 (by decide +kernel)
theorem dX12_copy_47 : decode cX12_copy 47 = .ok (.return_, 1) := dk_177 (by decide +kernel)
def wsRX12_copy : List Cond := .code yX12_copy cX12_copy 4 none :: ([.fieldLink RX12 7 "OptimaWorksModel" "big" "[I"] ++ wsX120)
theorem iwsRX12_copy_in12 : ∀ w ∈ wsX120, w ∈ wsRX12_copy := fun _ h => List.mem_cons_of_mem _ (List.mem_append_right _ h)
set_option maxHeartbeats 4000000 in
set_option maxRecDepth 100000 in
/-- copy(s, from) -/
theorem r_X12_copy (l : Launch) (dC : Nat → ClassId) (dI : Nat → Nat → Nat) (a : Nat → Nat) (k : Nat → ClassId) (h0 : Nat) (vi : Nat → Int32) (vj : Nat → Int64) (vF : Nat → Nat → Int32) (vG : Nat → Nat → Int64) (sn : Nat) (fn : Nat) (n : Nat) (hs : sn < 1100) (hf : fn < 1100) (hne : sn ≠ fn) (hn : vF 0 (24 * fn + 1) = nI n) (hn22 : n ≤ 22) (sz : Nat) : Met l yX12_copy wsRX12_copy ({ frames := 0, cells := 0, slots := 0, locals := 0 }) (va_Pc [.ref h0, .int (nI sn), .int (nI fn)] (fun U => U.heap.size = sz ∧ va_P (dC, dI) vwCl (WR a k h0 vi vj vF vG) U.heap ∧ va_K (dC, dI) vwCl (tX12 k) U ∧ va_D (fun _ => True) (WR a k h0 vi vj vF vG))) (va_Qv (fun (u : Nat → Int32) => (∀ q, q < n + 2 → u (24 * sn + q) = vF 0 (24 * fn + q)) ∧ (∀ q, (q < 24 * sn ∨ 24 * sn + 24 ≤ q) → u q = vF 0 q)) (fun (u : Nat → Int32) t => va_P (dC, dI) vwCl (WR a k h0 vi vj (fT vF 0 u) vG) t.heap ∧ va_D (va_A (WR a k h0 vi vj vF vG) sz) (WR a k h0 vi vj (fT vF 0 u) vG)) (va_A (WR a k h0 vi vj vF vG) sz)) 0 0 (va_A (WR a k h0 vi vj vF vG) sz) := by
  refine Met.ofW (cc := cX12_copy) (maxL := 4) (ret := none) (by decide) rfl ?_
  intro p e s m args below meth c s₁ B hml hv
  obtain ⟨rfl, hsz, hP, hK, hD0⟩ := hv
  have hx := B.exec
  have hb := B.bytes
  have hr := B.returns
  have hts := atoms_spec (ws := wsRX12_copy) B.pre
  have hown : s.vm.findClass RX12 = some m.cls := findClass_of_methodNamed B.named
  have hlocks := B.notSynchronized
  subst hsz
  have hD := hD0.self (sz := s.heap.size)
  generalize hAe : va_A (WR a k h0 vi vj vF vG) s.heap.size = A at hD ⊢
  have hA : ∀ q : Nat, s.heap.size ≤ q → A q := fun q h => by rw [← hAe]; exact Or.inr h
  have hS : va_S A s.heap s.heap [] := va_S.rf
  have hl := lv_entry ([.ref h0, .int (nI sn), .int (nI fn)]) (n := 4) (Nat.le_of_ble_eq_true rfl)
  rw [lg_entry_eq]
  generalize (lg_sl ([.ref h0, .int (nI sn), .int (nI fn)]) ++ List.replicate (4 - (lg_sl ([.ref h0, .int (nI sn), .int (nI fn)])).length) Slot.unset).toArray = ls at hl ⊢
  have hl : lv_has ls 4 [(0, .ref h0), (1, .int (nI sn)), (2, .int (nI fn))] := hl
  refine lv_iconst (v := 0) hx hb dX12_copy_0 (by decide) ?_
  refine lv_istore_n hx hb dX12_copy_1 rfl hl (by decide) rfl (fun ls (hl : lv_has ls _ ([(3, .int 0), (0, .ref h0), (1, .int (nI sn)), (2, .int (nI fn))])) => ?_)
  have e9 : fT vF 0 (vF 0) = vF := by funext q9; by_cases h9_0 : q9 = 0; (subst h9_0; exact (fT_eq _ _ _).trans (Eq.trans (by first | with_reducible rfl | with_reducible assumption | (symm; with_reducible assumption) | rfl | assumption | (symm; assumption) | (subst_vars; rfl)) (Eq.refl _).symm)); exact (fT_ne _ _ h9_0).trans (Eq.refl _).symm
  have hP : va_P (dC, dI) vwCl (WR a k h0 vi vj (fT vF 0 (vF 0)) vG) s.heap := by rw [e9]; exact hP
  have hD : va_D A (WR a k h0 vi vj (fT vF 0 (vF 0)) vG) := by rw [e9]; exact hD
  clear e9
  have hl : lv_has _ _ ([(3, .int (nI 0)), (0, .ref h0), (1, .int (nI sn)), (2, .int (nI fn))]) := lv_sub hl [0, 1, 2, 3] rfl
  refine (fun (loop : ∀ (n9 : Nat) (i : Nat) (g : Nat → Int32) (H : Heap) (locs : List Loc) (ls : Array Slot), (i ≤ n + 2) → (∀ q, q < i → g (24 * sn + q) = vF 0 (24 * fn + q)) → (∀ q, (q < 24 * sn ∨ 24 * sn + 24 ≤ q) → g q = vF 0 q) →  (n + 2 < i + n9) → va_P (dC, dI) vwCl (WR a k h0 vi vj (fT vF 0 g) vG) H → va_D A (WR a k h0 vi vj (fT vF 0 g) vG) → va_S A s.heap H locs → lv_has ls 4 [(3, .int (nI i)), (0, .ref h0), (1, .int (nI sn)), (2, .int (nI fn))] → W p l e _ s m _ below meth c H locs 0 0 _ (F0 m 2 ls [])) => loop (n + 3) 0 (vF 0) _ _ _ (by omega) (fun q hq => absurd hq (by omega)) (fun q hq => rfl) (by omega) hP hD hS hl) ?_
  intro n9
  induction n9 with
  | zero => intro i g H locs ls hi hg ho hf9; exact False.elim (by omega)
  | succ n9 ih2 =>
    intro i g H locs ls hi hg ho hf2 hP hD hS hl
    refine lv_iload_n hx hb dX12_copy_2 rfl (lv_at hl 0 rfl) ?_
    refine lv_aload_n hx hb dX12_copy_3 rfl (lv_at hl 1 rfl) ?_
    refine va_get (D := (dC, dI)) (ci := 12) (v := .ref (a 0)) (C := RX12) (T := TX12) (N := 163) (fs := fM (vS a vi vj)) hx hb hts iwsRX12_copy_in12 hown hK hP 0 rfl rfl 1 (by decide) (hts (.fieldLink RX12 7 "OptimaWorksModel" "big" "[I") (by decide +kernel)) (fun _ h9 => h9) rfl dX12_copy_4 ?_
    refine lv_bipush (v := 24) hx hb dX12_copy_7 (by decide) ?_
    refine lv_iload_n hx hb dX12_copy_9 rfl (lv_at hl 3 rfl) ?_
    refine lv_imul hx hb dX12_copy_10 ?_
    refine lv_topi (fun y1 hy1 => ?_)
    obtain rfl : (nI (24 * fn)) = y1 := (hy1.trans (pk_mul 24 fn)).symm
    refine lv_iconst (v := 1) hx hb dX12_copy_11 (by decide) ?_
    refine lv_iadd hx hb dX12_copy_12 ?_
    refine lv_topi (fun y2 hy2 => ?_)
    obtain rfl : (nI ((24 * fn) + 1)) = y2 := (hy2.trans (nI_add (24 * fn) 1)).symm
    refine va_iald (cA := k 0) (n := 26400) (f := g) hx hb hK hP 1 0 (WR_get 0 (by decide)) (TR_get 0 (by decide)) (vp_in_nI (show ((24 * fn) + 1) < 26400 by omega) (by omega)) dX12_copy_13 ?_
    refine lv_topi (fun y3 hy3 => ?_)
    obtain rfl : (g ((24 * fn) + 1)) = y3 := (hy3.trans (by rw [nI_clamp (by omega)])).symm
    refine lv_topi (fun y4 hy4 => ?_)
    obtain rfl : (nI n) = y4 := (hy4.trans ((ho _ (by omega)).trans hn)).symm
    refine lv_iconst (v := 2) hx hb dX12_copy_14 (by decide) ?_
    refine lv_iadd hx hb dX12_copy_15 ?_
    refine lv_topi (fun y5 hy5 => ?_)
    obtain rfl : (nI (n + 2)) = y5 := (hy5.trans (nI_add n 2)).symm
    refine lv_icmp_ge (tgt := 47) hx hb dX12_copy_16 (by decide) (fun c_16 => ?_) (fun c_16 => ?_)
    · have t_16 : ((i : Nat) : Int) ≥ (((n + 2) : Nat) : Int) := toI_ge c_16 (nI_toInt (by omega)) (nI_toInt (by omega))
      refine W.widen (k := 0) (n := 0) (by decide +kernel) (by decide +kernel) ?_
      exact W.vret hx hb hr (fun t9_ ht hW => ⟨⟨g, rfl, by (try dsimp only); exact ⟨fun q hq => hg q (by omega), ho⟩, by rw [ht]; exact hP, hD⟩, hS.F ht⟩) hS.2.2 dX12_copy_47
    · have t_16 : ¬ ((i : Nat) : Int) ≥ (((n + 2) : Nat) : Int) := toI_nge c_16 (nI_toInt (by omega)) (nI_toInt (by omega))
      refine lv_aload_n hx hb dX12_copy_19 rfl (lv_at hl 1 rfl) ?_
      refine va_get (D := (dC, dI)) (ci := 12) (v := .ref (a 0)) (C := RX12) (T := TX12) (N := 163) (fs := fM (vS a vi vj)) hx hb hts iwsRX12_copy_in12 hown hK hP 0 rfl rfl 1 (by decide) (hts (.fieldLink RX12 7 "OptimaWorksModel" "big" "[I") (by decide +kernel)) (fun _ h9 => h9) rfl dX12_copy_20 ?_
      refine lv_bipush (v := 24) hx hb dX12_copy_23 (by decide) ?_
      refine lv_iload_n hx hb dX12_copy_25 rfl (lv_at hl 2 rfl) ?_
      refine lv_imul hx hb dX12_copy_26 ?_
      refine lv_topi (fun y6 hy6 => ?_)
      obtain rfl : (nI (24 * sn)) = y6 := (hy6.trans (pk_mul 24 sn)).symm
      refine lv_iload_n hx hb dX12_copy_27 rfl (lv_at hl 0 rfl) ?_
      refine lv_iadd hx hb dX12_copy_28 ?_
      refine lv_topi (fun y7 hy7 => ?_)
      obtain rfl : (nI ((24 * sn) + i)) = y7 := (hy7.trans (nI_add (24 * sn) i)).symm
      refine lv_aload_n hx hb dX12_copy_29 rfl (lv_at hl 1 rfl) ?_
      refine va_get (D := (dC, dI)) (ci := 12) (v := .ref (a 0)) (C := RX12) (T := TX12) (N := 163) (fs := fM (vS a vi vj)) hx hb hts iwsRX12_copy_in12 hown hK hP 0 rfl rfl 1 (by decide) (hts (.fieldLink RX12 7 "OptimaWorksModel" "big" "[I") (by decide +kernel)) (fun _ h9 => h9) rfl dX12_copy_30 ?_
      refine lv_bipush (v := 24) hx hb dX12_copy_33 (by decide) ?_
      refine lv_iload_n hx hb dX12_copy_35 rfl (lv_at hl 3 rfl) ?_
      refine lv_imul hx hb dX12_copy_36 ?_
      refine lv_topi (fun y8 hy8 => ?_)
      obtain rfl : (nI (24 * fn)) = y8 := (hy8.trans (pk_mul 24 fn)).symm
      refine lv_iload_n hx hb dX12_copy_37 rfl (lv_at hl 0 rfl) ?_
      refine lv_iadd hx hb dX12_copy_38 ?_
      refine lv_topi (fun y9 hy9 => ?_)
      obtain rfl : (nI ((24 * fn) + i)) = y9 := (hy9.trans (nI_add (24 * fn) i)).symm
      refine va_iald (cA := k 0) (n := 26400) (f := g) hx hb hK hP 1 0 (WR_get 0 (by decide)) (TR_get 0 (by decide)) (vp_in_nI (show ((24 * fn) + i) < 26400 by omega) (by omega)) dX12_copy_39 ?_
      refine lv_topi (fun y10 hy10 => ?_)
      obtain rfl : (g ((24 * fn) + i)) = y10 := (hy10.trans (by rw [nI_clamp (by omega)])).symm
      refine lv_topi (fun y11 hy11 => ?_)
      obtain rfl : (vF 0 (24 * fn + i)) = y11 := (hy11.trans (ho _ (by omega))).symm
      refine va_iast (cA := k 0) (n := 26400) (f := g) hx hb hK hP hD hS 1 0 (WR_get 0 (by decide)) (TR_get 0 (by decide)) (vp_in_nI (show ((24 * sn) + i) < 26400 by omega) (by omega)) dX12_copy_40 (fun H locs hP hD hS => ?_)
      have e9 : fT vF 0 (upd g ((nI ((24 * sn) + i))).toNatClampNeg (vF 0 (24 * fn + i))) = fT (fT vF 0 g) 0 (upd g ((nI ((24 * sn) + i))).toNatClampNeg (vF 0 (24 * fn + i))) := (fT_sm _ _ _ _).symm
      have hP : va_P (dC, dI) vwCl (WR a k h0 vi vj (fT vF 0 (upd g ((nI ((24 * sn) + i))).toNatClampNeg (vF 0 (24 * fn + i)))) vG) H := by rw [e9, ← WR_F 0 (by decide) _ rfl]; exact hP
      have hD : va_D A (WR a k h0 vi vj (fT vF 0 (upd g ((nI ((24 * sn) + i))).toNatClampNeg (vF 0 (24 * fn + i)))) vG) := by rw [e9, ← WR_F 0 (by decide) _ rfl]; exact hD
      clear e9
      refine lv_iinc (v := (nI (i + 1))) hx hb dX12_copy_41 hl (k := 0) rfl (nI_add i 1) (by decide) rfl (fun ls (hl : lv_has ls _ ([(3, .int (nI (i + 1))), (0, .ref h0), (1, .int (nI sn)), (2, .int (nI fn))])) => ?_)
      refine lv_goto (tgt := 2) hx hb dX12_copy_44 (by decide) ?_
      have hl : lv_has _ _ ([(3, .int (nI (i + 1))), (0, .ref h0), (1, .int (nI sn)), (2, .int (nI fn))]) := lv_sub hl [0, 1, 2, 3] rfl
      exact ih2 (i + 1) (upd g ((nI ((24 * sn) + i))).toNatClampNeg (vF 0 (24 * fn + i))) _ _ _ (by omega) (fun q hq => by rw [upd_at (by omega)]; by_cases e9 : 24 * sn + q = 24 * sn + i; (rw [if_pos e9, show q = i by omega]); (rw [if_neg e9]; exact hg q (by omega))) (fun q hq => by rw [upd_at (by omega), if_neg (by omega)]; exact ho q hq) (by omega) hP hD hS hl
theorem dX12_at_0 : decode cX12_at 0 = .ok (.bipush 30, 2) := dk_16 (by decide +kernel)
theorem dX12_at_2 : decode cX12_at 2 = .ok (.iload_n 1, 1) := dk_27 (by decide +kernel)
theorem dX12_at_3 : decode cX12_at 3 = .ok (.aload_n 0, 1) := dk_42 (by decide +kernel)
theorem dX12_at_4 : decode cX12_at 4 = .ok (.getfield 396, 3) := dk_180 (by decide +kernel)
theorem dX12_at_7 : decode cX12_at 7 = .ok (.iconst 1, 1) := dk_4 (by decide +kernel)
theorem dX12_at_8 : decode cX12_at 8 = .ok (.iadd, 1) := dk_96 (by decide +kernel)
theorem dX12_at_9 : decode cX12_at 9 = .ok (.imul, 1) := dk_104 (by decide +kernel)
theorem dX12_at_10 : decode cX12_at 10 = .ok (.iadd, 1) := dk_96 (by decide +kernel)
theorem dX12_at_11 : decode cX12_at 11 = .ok (.iload_n 2, 1) := dk_28 (by decide +kernel)
theorem dX12_at_12 : decode cX12_at 12 = .ok (.iadd, 1) := dk_96 (by decide +kernel)
theorem dX12_at_13 : decode cX12_at 13 = .ok (.ireturn, 1) := dk_172 (by decide +kernel)
def wsRX12_at : List Cond := .code yX12_at cX12_at 3 (some .int) :: ([.fieldLink RX12 396 "OptimaWorksModel" "columns" "I"] ++ wsX120)
theorem iwsRX12_at_in12 : ∀ w ∈ wsX120, w ∈ wsRX12_at := fun _ h => List.mem_cons_of_mem _ (List.mem_append_right _ h)
set_option maxHeartbeats 4000000 in
set_option maxRecDepth 100000 in
/-- at(row, column) -/
theorem r_X12_at (l : Launch) (dC : Nat → ClassId) (dI : Nat → Nat → Nat) (a : Nat → Nat) (k : Nat → ClassId) (h0 : Nat) (vi : Nat → Int32) (vj : Nat → Int64) (vF : Nat → Nat → Int32) (vG : Nat → Nat → Int64) (rn : Nat) (cn : Nat) (C : Nat) (hC : vi 5 = nI C) (sz : Nat) : Met l yX12_at wsRX12_at ({ frames := 0, cells := 0, slots := 0, locals := 0 }) (va_Pc [.ref h0, .int (nI rn), .int (nI cn)] (fun U => U.heap.size = sz ∧ va_P (dC, dI) vwCl (WR a k h0 vi vj vF vG) U.heap ∧ va_K (dC, dI) vwCl (tX12 k) U ∧ va_D (fun _ => True) (WR a k h0 vi vj vF vG))) (va_Qi (fun (r : Int32) (u : Unit) => r = (nI (30 + rn * (C + 1) + cn))) (fun (u : Unit) t => va_P (dC, dI) vwCl (WR a k h0 vi vj vF vG) t.heap ∧ va_D (va_A (WR a k h0 vi vj vF vG) sz) (WR a k h0 vi vj vF vG)) (va_A (WR a k h0 vi vj vF vG) sz)) 0 0 (va_A (WR a k h0 vi vj vF vG) sz) := by
  refine Met.ofW (cc := cX12_at) (maxL := 3) (ret := (some .int)) (by decide) rfl ?_
  intro p e s m args below meth c s₁ B hml hv
  obtain ⟨rfl, hsz, hP, hK, hD0⟩ := hv
  have hx := B.exec
  have hb := B.bytes
  have hr := B.returns
  have hts := atoms_spec (ws := wsRX12_at) B.pre
  have hown : s.vm.findClass RX12 = some m.cls := findClass_of_methodNamed B.named
  have hlocks := B.notSynchronized
  subst hsz
  have hD := hD0.self (sz := s.heap.size)
  generalize hAe : va_A (WR a k h0 vi vj vF vG) s.heap.size = A at hD ⊢
  have hA : ∀ q : Nat, s.heap.size ≤ q → A q := fun q h => by rw [← hAe]; exact Or.inr h
  have hS : va_S A s.heap s.heap [] := va_S.rf
  have hl := lv_entry ([.ref h0, .int (nI rn), .int (nI cn)]) (n := 3) (Nat.le_of_ble_eq_true rfl)
  rw [lg_entry_eq]
  generalize (lg_sl ([.ref h0, .int (nI rn), .int (nI cn)]) ++ List.replicate (3 - (lg_sl ([.ref h0, .int (nI rn), .int (nI cn)])).length) Slot.unset).toArray = ls at hl ⊢
  have hl : lv_has ls 3 [(0, .ref h0), (1, .int (nI rn)), (2, .int (nI cn))] := hl
  refine lv_bipush (v := 30) hx hb dX12_at_0 (by decide) ?_
  refine lv_iload_n hx hb dX12_at_2 rfl (lv_at hl 1 rfl) ?_
  refine lv_aload_n hx hb dX12_at_3 rfl (lv_at hl 0 rfl) ?_
  refine va_get (D := (dC, dI)) (ci := 12) (v := .int (vi 5)) (C := RX12) (T := TX12) (N := 163) (fs := fM (vS a vi vj)) hx hb hts iwsRX12_at_in12 hown hK hP 0 rfl rfl 5 (by decide) (hts (.fieldLink RX12 396 "OptimaWorksModel" "columns" "I") (by decide +kernel)) (fun _ h9 => h9) rfl dX12_at_4 ?_
  refine lv_topi (fun y1 hy1 => ?_)
  obtain rfl : (nI C) = y1 := (hy1.trans (hC)).symm
  refine lv_iconst (v := 1) hx hb dX12_at_7 (by decide) ?_
  refine lv_iadd hx hb dX12_at_8 ?_
  refine lv_topi (fun y2 hy2 => ?_)
  obtain rfl : (nI (C + 1)) = y2 := (hy2.trans (nI_add C 1)).symm
  refine lv_imul hx hb dX12_at_9 ?_
  refine lv_topi (fun y3 hy3 => ?_)
  obtain rfl : (nI (rn * (C + 1))) = y3 := (hy3.trans (pk_mul rn (C + 1))).symm
  refine lv_iadd hx hb dX12_at_10 ?_
  refine lv_topi (fun y4 hy4 => ?_)
  obtain rfl : (nI (30 + (rn * (C + 1)))) = y4 := (hy4.trans (nI_add 30 (rn * (C + 1)))).symm
  refine lv_iload_n hx hb dX12_at_11 rfl (lv_at hl 2 rfl) ?_
  refine lv_iadd hx hb dX12_at_12 ?_
  refine lv_topi (fun y5 hy5 => ?_)
  obtain rfl : (nI ((30 + (rn * (C + 1))) + cn)) = y5 := (hy5.trans (nI_add (30 + (rn * (C + 1))) cn)).symm
  refine W.widen (k := 0) (n := 0) (by decide +kernel) (by decide +kernel) ?_
  exact W.iret (v := (nI ((30 + (rn * (C + 1))) + cn))) hx hb hr (fun t9_ ht hW => ⟨⟨(nI ((30 + (rn * (C + 1))) + cn)), (), rfl, by (first | rfl | assumption | trivial | omega | (simp []; done) | (simp; omega)), by rw [ht]; exact hP, hD⟩, hS.F ht⟩) hS.2.2 dX12_at_13
theorem dX12_place1_0 : decode cX12_place1 0 = .ok (.iload_n 1, 1) := dk_27 (by decide +kernel)
theorem dX12_place1_1 : decode cX12_place1 1 = .ok (.aload_n 0, 1) := dk_42 (by decide +kernel)
theorem dX12_place1_2 : decode cX12_place1 2 = .ok (.getfield 396, 3) := dk_180 (by decide +kernel)
theorem dX12_place1_5 : decode cX12_place1 5 = .ok (.iconst 1, 1) := dk_4 (by decide +kernel)
theorem dX12_place1_6 : decode cX12_place1 6 = .ok (.iadd, 1) := dk_96 (by decide +kernel)
theorem dX12_place1_7 : decode cX12_place1 7 = .ok (.imul, 1) := dk_104 (by decide +kernel)
theorem dX12_place1_8 : decode cX12_place1 8 = .ok (.iload_n 2, 1) := dk_28 (by decide +kernel)
theorem dX12_place1_9 : decode cX12_place1 9 = .ok (.iadd, 1) := dk_96 (by decide +kernel)
theorem dX12_place1_10 : decode cX12_place1 10 = .ok (.ireturn, 1) := dk_172 (by decide +kernel)
def wsRX12_place1 : List Cond := .code yX12_place1 cX12_place1 3 (some .int) :: ([.fieldLink RX12 396 "OptimaWorksModel" "columns" "I"] ++ wsX120)
theorem iwsRX12_place1_in12 : ∀ w ∈ wsX120, w ∈ wsRX12_place1 := fun _ h => List.mem_cons_of_mem _ (List.mem_append_right _ h)
set_option maxHeartbeats 4000000 in
set_option maxRecDepth 100000 in
/-- place1(row, column) -/
theorem r_X12_place1 (l : Launch) (dC : Nat → ClassId) (dI : Nat → Nat → Nat) (a : Nat → Nat) (k : Nat → ClassId) (h0 : Nat) (vi : Nat → Int32) (vj : Nat → Int64) (vF : Nat → Nat → Int32) (vG : Nat → Nat → Int64) (rn : Nat) (cn : Nat) (C : Nat) (hC : vi 5 = nI C) (sz : Nat) : Met l yX12_place1 wsRX12_place1 ({ frames := 0, cells := 0, slots := 0, locals := 0 }) (va_Pc [.ref h0, .int (nI rn), .int (nI cn)] (fun U => U.heap.size = sz ∧ va_P (dC, dI) vwCl (WR a k h0 vi vj vF vG) U.heap ∧ va_K (dC, dI) vwCl (tX12 k) U ∧ va_D (fun _ => True) (WR a k h0 vi vj vF vG))) (va_Qi (fun (r : Int32) (u : Unit) => r = (nI (rn * (C + 1) + cn))) (fun (u : Unit) t => va_P (dC, dI) vwCl (WR a k h0 vi vj vF vG) t.heap ∧ va_D (va_A (WR a k h0 vi vj vF vG) sz) (WR a k h0 vi vj vF vG)) (va_A (WR a k h0 vi vj vF vG) sz)) 0 0 (va_A (WR a k h0 vi vj vF vG) sz) := by
  refine Met.ofW (cc := cX12_place1) (maxL := 3) (ret := (some .int)) (by decide) rfl ?_
  intro p e s m args below meth c s₁ B hml hv
  obtain ⟨rfl, hsz, hP, hK, hD0⟩ := hv
  have hx := B.exec
  have hb := B.bytes
  have hr := B.returns
  have hts := atoms_spec (ws := wsRX12_place1) B.pre
  have hown : s.vm.findClass RX12 = some m.cls := findClass_of_methodNamed B.named
  have hlocks := B.notSynchronized
  subst hsz
  have hD := hD0.self (sz := s.heap.size)
  generalize hAe : va_A (WR a k h0 vi vj vF vG) s.heap.size = A at hD ⊢
  have hA : ∀ q : Nat, s.heap.size ≤ q → A q := fun q h => by rw [← hAe]; exact Or.inr h
  have hS : va_S A s.heap s.heap [] := va_S.rf
  have hl := lv_entry ([.ref h0, .int (nI rn), .int (nI cn)]) (n := 3) (Nat.le_of_ble_eq_true rfl)
  rw [lg_entry_eq]
  generalize (lg_sl ([.ref h0, .int (nI rn), .int (nI cn)]) ++ List.replicate (3 - (lg_sl ([.ref h0, .int (nI rn), .int (nI cn)])).length) Slot.unset).toArray = ls at hl ⊢
  have hl : lv_has ls 3 [(0, .ref h0), (1, .int (nI rn)), (2, .int (nI cn))] := hl
  refine lv_iload_n hx hb dX12_place1_0 rfl (lv_at hl 1 rfl) ?_
  refine lv_aload_n hx hb dX12_place1_1 rfl (lv_at hl 0 rfl) ?_
  refine va_get (D := (dC, dI)) (ci := 12) (v := .int (vi 5)) (C := RX12) (T := TX12) (N := 163) (fs := fM (vS a vi vj)) hx hb hts iwsRX12_place1_in12 hown hK hP 0 rfl rfl 5 (by decide) (hts (.fieldLink RX12 396 "OptimaWorksModel" "columns" "I") (by decide +kernel)) (fun _ h9 => h9) rfl dX12_place1_2 ?_
  refine lv_topi (fun y1 hy1 => ?_)
  obtain rfl : (nI C) = y1 := (hy1.trans (hC)).symm
  refine lv_iconst (v := 1) hx hb dX12_place1_5 (by decide) ?_
  refine lv_iadd hx hb dX12_place1_6 ?_
  refine lv_topi (fun y2 hy2 => ?_)
  obtain rfl : (nI (C + 1)) = y2 := (hy2.trans (nI_add C 1)).symm
  refine lv_imul hx hb dX12_place1_7 ?_
  refine lv_topi (fun y3 hy3 => ?_)
  obtain rfl : (nI (rn * (C + 1))) = y3 := (hy3.trans (pk_mul rn (C + 1))).symm
  refine lv_iload_n hx hb dX12_place1_8 rfl (lv_at hl 2 rfl) ?_
  refine lv_iadd hx hb dX12_place1_9 ?_
  refine lv_topi (fun y4 hy4 => ?_)
  obtain rfl : (nI ((rn * (C + 1)) + cn)) = y4 := (hy4.trans (nI_add (rn * (C + 1)) cn)).symm
  refine W.widen (k := 0) (n := 0) (by decide +kernel) (by decide +kernel) ?_
  exact W.iret (v := (nI ((rn * (C + 1)) + cn))) hx hb hr (fun t9_ ht hW => ⟨⟨(nI ((rn * (C + 1)) + cn)), (), rfl, by (first | rfl | assumption | trivial | omega | (simp []; done) | (simp; omega)), by rw [ht]; exact hP, hD⟩, hS.F ht⟩) hS.2.2 dX12_place1_10
theorem dX12_exchange_0 : decode cX12_exchange 0 = .ok (.aload_n 0, 1) := dk_42 (by decide +kernel)
theorem dX12_exchange_1 : decode cX12_exchange 1 = .ok (.getfield 23, 3) := dk_180 (by decide +kernel)
theorem dX12_exchange_4 : decode cX12_exchange 4 = .ok (.iload_n 2, 1) := dk_28 (by decide +kernel)
theorem dX12_exchange_5 : decode cX12_exchange 5 = .ok (.iaload, 1) := dk_46 (by decide +kernel)
theorem dX12_exchange_6 : decode cX12_exchange 6 = .ok (.istore_n 3, 1) := dk_62 (by decide +kernel)
theorem dX12_exchange_7 : decode cX12_exchange 7 = .ok (.aload_n 0, 1) := dk_42 (by decide +kernel)
theorem dX12_exchange_8 : decode cX12_exchange 8 = .ok (.getfield 23, 3) := dk_180 (by decide +kernel)
theorem dX12_exchange_11 : decode cX12_exchange 11 = .ok (.iload_n 2, 1) := dk_28 (by decide +kernel)
theorem dX12_exchange_12 : decode cX12_exchange 12 = .ok (.aload_n 0, 1) := dk_42 (by decide +kernel)
theorem dX12_exchange_13 : decode cX12_exchange 13 = .ok (.getfield 26, 3) := dk_180 (by decide +kernel)
theorem dX12_exchange_16 : decode cX12_exchange 16 = .ok (.iload_n 1, 1) := dk_27 (by decide +kernel)
theorem dX12_exchange_17 : decode cX12_exchange 17 = .ok (.iaload, 1) := dk_46 (by decide +kernel)
theorem dX12_exchange_18 : decode cX12_exchange 18 = .ok (.iastore, 1) := dk_79 (by decide +kernel)
theorem dX12_exchange_19 : decode cX12_exchange 19 = .ok (.aload_n 0, 1) := dk_42 (by decide +kernel)
theorem dX12_exchange_20 : decode cX12_exchange 20 = .ok (.getfield 26, 3) := dk_180 (by decide +kernel)
theorem dX12_exchange_23 : decode cX12_exchange 23 = .ok (.iload_n 1, 1) := dk_27 (by decide +kernel)
theorem dX12_exchange_24 : decode cX12_exchange 24 = .ok (.iload_n 3, 1) := dk_29 (by decide +kernel)
theorem dX12_exchange_25 : decode cX12_exchange 25 = .ok (.iastore, 1) := dk_79 (by decide +kernel)
theorem dX12_exchange_26 : decode cX12_exchange 26 = .ok (.return_, 1) := dk_177 (by decide +kernel)
def wsRX12_exchange : List Cond := .code yX12_exchange cX12_exchange 4 none :: ([.fieldLink RX12 23 "OptimaWorksModel" "columnOf" "[I", .fieldLink RX12 26 "OptimaWorksModel" "rowOf" "[I"] ++ wsX120)
theorem iwsRX12_exchange_in12 : ∀ w ∈ wsX120, w ∈ wsRX12_exchange := fun _ h => List.mem_cons_of_mem _ (List.mem_append_right _ h)
set_option maxHeartbeats 4000000 in
set_option maxRecDepth 100000 in
/-- exchange(r, c) -/
theorem r_X12_exchange (l : Launch) (dC : Nat → ClassId) (dI : Nat → Nat → Nat) (a : Nat → Nat) (k : Nat → ClassId) (h0 : Nat) (vi : Nat → Int32) (vj : Nat → Int64) (vF : Nat → Nat → Int32) (vG : Nat → Nat → Int64) (rn : Nat) (cn : Nat) (hr : rn < 60) (hc : cn < 46) (sz : Nat) : Met l yX12_exchange wsRX12_exchange ({ frames := 0, cells := 0, slots := 0, locals := 0 }) (va_Pc [.ref h0, .int (nI rn), .int (nI cn)] (fun U => U.heap.size = sz ∧ va_P (dC, dI) vwCl (WR a k h0 vi vj vF vG) U.heap ∧ va_K (dC, dI) vwCl (tX12 k) U ∧ va_D (fun _ => True) (WR a k h0 vi vj vF vG))) (va_Qv (fun (u : Unit) => True) (fun (u : Unit) t => va_P (dC, dI) vwCl (WR a k h0 vi vj (fT (fT vF 4 (upd (vF 4) (nI cn).toNatClampNeg (vF 5 rn))) 5 (upd (vF 5) (nI rn).toNatClampNeg (vF 4 cn))) vG) t.heap ∧ va_D (va_A (WR a k h0 vi vj vF vG) sz) (WR a k h0 vi vj (fT (fT vF 4 (upd (vF 4) (nI cn).toNatClampNeg (vF 5 rn))) 5 (upd (vF 5) (nI rn).toNatClampNeg (vF 4 cn))) vG)) (va_A (WR a k h0 vi vj vF vG) sz)) 0 0 (va_A (WR a k h0 vi vj vF vG) sz) := by
  refine Met.ofW (cc := cX12_exchange) (maxL := 4) (ret := none) (by decide) rfl ?_
  intro p e s m args below meth c s₁ B hml hv
  obtain ⟨rfl, hsz, hP, hK, hD0⟩ := hv
  have hx := B.exec
  have hb := B.bytes
  have hr := B.returns
  have hts := atoms_spec (ws := wsRX12_exchange) B.pre
  have hown : s.vm.findClass RX12 = some m.cls := findClass_of_methodNamed B.named
  have hlocks := B.notSynchronized
  subst hsz
  have hD := hD0.self (sz := s.heap.size)
  generalize hAe : va_A (WR a k h0 vi vj vF vG) s.heap.size = A at hD ⊢
  have hA : ∀ q : Nat, s.heap.size ≤ q → A q := fun q h => by rw [← hAe]; exact Or.inr h
  have hS : va_S A s.heap s.heap [] := va_S.rf
  have hl := lv_entry ([.ref h0, .int (nI rn), .int (nI cn)]) (n := 4) (Nat.le_of_ble_eq_true rfl)
  rw [lg_entry_eq]
  generalize (lg_sl ([.ref h0, .int (nI rn), .int (nI cn)]) ++ List.replicate (4 - (lg_sl ([.ref h0, .int (nI rn), .int (nI cn)])).length) Slot.unset).toArray = ls at hl ⊢
  have hl : lv_has ls 4 [(0, .ref h0), (1, .int (nI rn)), (2, .int (nI cn))] := hl
  refine lv_aload_n hx hb dX12_exchange_0 rfl (lv_at hl 0 rfl) ?_
  refine va_get (D := (dC, dI)) (ci := 12) (v := .ref (a 4)) (C := RX12) (T := TX12) (N := 163) (fs := fM (vS a vi vj)) hx hb hts iwsRX12_exchange_in12 hown hK hP 0 rfl rfl 8 (by decide) (hts (.fieldLink RX12 23 "OptimaWorksModel" "columnOf" "[I") (by decide +kernel)) (fun _ h9 => h9) rfl dX12_exchange_1 ?_
  refine lv_iload_n hx hb dX12_exchange_4 rfl (lv_at hl 2 rfl) ?_
  refine va_iald (cA := k 4) (n := 46) (f := (vF 4)) hx hb hK hP 5 4 (WR_get 4 (by decide)) (TR_get 4 (by decide)) (vp_in_nI (show cn < 46 by omega) (by omega)) dX12_exchange_5 ?_
  refine lv_topi (fun y1 hy1 => ?_)
  obtain rfl : ((vF 4) cn) = y1 := (hy1.trans (by rw [nI_clamp (by omega)])).symm
  refine lv_istore_n hx hb dX12_exchange_6 rfl hl (by decide) rfl (fun ls (hl : lv_has ls _ ([(3, .int ((vF 4) cn)), (0, .ref h0), (1, .int (nI rn)), (2, .int (nI cn))])) => ?_)
  refine lv_aload_n hx hb dX12_exchange_7 rfl (lv_at hl 1 rfl) ?_
  refine va_get (D := (dC, dI)) (ci := 12) (v := .ref (a 4)) (C := RX12) (T := TX12) (N := 163) (fs := fM (vS a vi vj)) hx hb hts iwsRX12_exchange_in12 hown hK hP 0 rfl rfl 8 (by decide) (hts (.fieldLink RX12 23 "OptimaWorksModel" "columnOf" "[I") (by decide +kernel)) (fun _ h9 => h9) rfl dX12_exchange_8 ?_
  refine lv_iload_n hx hb dX12_exchange_11 rfl (lv_at hl 3 rfl) ?_
  refine lv_aload_n hx hb dX12_exchange_12 rfl (lv_at hl 1 rfl) ?_
  refine va_get (D := (dC, dI)) (ci := 12) (v := .ref (a 5)) (C := RX12) (T := TX12) (N := 163) (fs := fM (vS a vi vj)) hx hb hts iwsRX12_exchange_in12 hown hK hP 0 rfl rfl 9 (by decide) (hts (.fieldLink RX12 26 "OptimaWorksModel" "rowOf" "[I") (by decide +kernel)) (fun _ h9 => h9) rfl dX12_exchange_13 ?_
  refine lv_iload_n hx hb dX12_exchange_16 rfl (lv_at hl 2 rfl) ?_
  refine va_iald (cA := k 5) (n := 60) (f := (vF 5)) hx hb hK hP 6 5 (WR_get 5 (by decide)) (TR_get 5 (by decide)) (vp_in_nI (show rn < 60 by omega) (by omega)) dX12_exchange_17 ?_
  refine lv_topi (fun y2 hy2 => ?_)
  obtain rfl : ((vF 5) rn) = y2 := (hy2.trans (by rw [nI_clamp (by omega)])).symm
  refine va_iast (cA := k 4) (n := 46) (f := (vF 4)) hx hb hK hP hD hS 5 4 (WR_get 4 (by decide)) (TR_get 4 (by decide)) (vp_in_nI (show cn < 46 by omega) (by omega)) dX12_exchange_18 (fun H locs hP hD hS => ?_)
  have hP : va_P (dC, dI) vwCl (WR a k h0 vi vj (fT vF 4 (upd (vF 4) ((nI cn)).toNatClampNeg ((vF 5) rn))) vG) H := by rw [← WR_F 4 (by decide) _ rfl]; exact hP
  have hD : va_D A (WR a k h0 vi vj (fT vF 4 (upd (vF 4) ((nI cn)).toNatClampNeg ((vF 5) rn))) vG) := by rw [← WR_F 4 (by decide) _ rfl]; exact hD
  refine lv_aload_n hx hb dX12_exchange_19 rfl (lv_at hl 1 rfl) ?_
  refine va_get (D := (dC, dI)) (ci := 12) (v := .ref (a 5)) (C := RX12) (T := TX12) (N := 163) (fs := fM (vS a vi vj)) hx hb hts iwsRX12_exchange_in12 hown hK hP 0 rfl rfl 9 (by decide) (hts (.fieldLink RX12 26 "OptimaWorksModel" "rowOf" "[I") (by decide +kernel)) (fun _ h9 => h9) rfl dX12_exchange_20 ?_
  refine lv_iload_n hx hb dX12_exchange_23 rfl (lv_at hl 2 rfl) ?_
  refine lv_iload_n hx hb dX12_exchange_24 rfl (lv_at hl 0 rfl) ?_
  refine va_iast (cA := k 5) (n := 60) (f := (vF 5)) hx hb hK hP hD hS 6 5 (WR_get 5 (by decide)) (TR_get 5 (by decide)) (vp_in_nI (show rn < 60 by omega) (by omega)) dX12_exchange_25 (fun H locs hP hD hS => ?_)
  have hP : va_P (dC, dI) vwCl (WR a k h0 vi vj (fT (fT vF 4 (upd (vF 4) ((nI cn)).toNatClampNeg ((vF 5) rn))) 5 (upd (vF 5) ((nI rn)).toNatClampNeg ((vF 4) cn))) vG) H := by rw [← WR_F 5 (by decide) _ rfl]; exact hP
  have hD : va_D A (WR a k h0 vi vj (fT (fT vF 4 (upd (vF 4) ((nI cn)).toNatClampNeg ((vF 5) rn))) 5 (upd (vF 5) ((nI rn)).toNatClampNeg ((vF 4) cn))) vG) := by rw [← WR_F 5 (by decide) _ rfl]; exact hD
  refine W.widen (k := 0) (n := 0) (by decide +kernel) (by decide +kernel) ?_
  have e9 : fT (fT vF 4 (upd (vF 4) (nI cn).toNatClampNeg (vF 5 rn))) 5 (upd (vF 5) (nI rn).toNatClampNeg (vF 4 cn)) = fT (fT vF 4 (upd (vF 4) ((nI cn)).toNatClampNeg ((vF 5) rn))) 5 (upd (vF 5) ((nI rn)).toNatClampNeg ((vF 4) cn)) := by funext q9; by_cases h9_4 : q9 = 4; (subst h9_4; exact ((fT_ne _ _ (Nat.ne_of_beq_eq_false rfl)).trans (fT_eq _ _ _)).trans (Eq.trans (by first | with_reducible rfl | with_reducible assumption | (symm; with_reducible assumption) | rfl | assumption | (symm; assumption) | (subst_vars; rfl)) ((fT_ne _ _ (Nat.ne_of_beq_eq_false rfl)).trans (fT_eq _ _ _)).symm)); by_cases h9_5 : q9 = 5; (subst h9_5; exact (fT_eq _ _ _).trans (Eq.trans (by first | with_reducible rfl | with_reducible assumption | (symm; with_reducible assumption) | rfl | assumption | (symm; assumption) | (subst_vars; rfl)) (fT_eq _ _ _).symm)); exact ((fT_ne _ _ h9_5).trans (fT_ne _ _ h9_4)).trans ((fT_ne _ _ h9_5).trans (fT_ne _ _ h9_4)).symm
  have hP : va_P (dC, dI) vwCl (WR a k h0 vi vj (fT (fT vF 4 (upd (vF 4) (nI cn).toNatClampNeg (vF 5 rn))) 5 (upd (vF 5) (nI rn).toNatClampNeg (vF 4 cn))) vG) H := by rw [e9]; exact hP
  have hD : va_D A (WR a k h0 vi vj (fT (fT vF 4 (upd (vF 4) (nI cn).toNatClampNeg (vF 5 rn))) 5 (upd (vF 5) (nI rn).toNatClampNeg (vF 4 cn))) vG) := by rw [e9]; exact hD
  clear e9
  exact W.vret hx hb hr (fun t9_ ht hW => ⟨⟨(), rfl, trivial, by rw [ht]; exact hP, hD⟩, hS.F ht⟩) hS.2.2 dX12_exchange_26
end
section
theorem dX12_put_0 : decode cX12_put 0 = .ok (.bipush 24, 2) := dk_16 (by decide +kernel)
theorem dX12_put_2 : decode cX12_put 2 = .ok (.iload_n 1, 1) := dk_27 (by decide +kernel)
theorem dX12_put_3 : decode cX12_put 3 = .ok (.imul, 1) := dk_104 (by decide +kernel)
theorem dX12_put_4 : decode cX12_put 4 = .ok (.istore 4, 2) := dk_54 (by decide +kernel)
theorem dX12_put_6 : decode cX12_put 6 = .ok (.lload_n 2, 1) := dk_32 (by decide +kernel)
theorem dX12_put_7 : decode cX12_put 7 = .ok (.lconst 0, 1) := dk_9 (by decide +kernel)
theorem dX12_put_8 : decode cX12_put 8 = .ok (.lcmp, 1) := dk_148 (by decide +kernel)
theorem dX12_put_9 : decode cX12_put 9 = .ok (.ifCond .ge 8, 3) := dk_156 (by decide +kernel)
theorem dX12_put_12 : decode cX12_put 12 = .ok (.lload_n 2, 1) := dk_32 (by decide +kernel)
theorem dX12_put_13 : decode cX12_put 13 = .ok (.lneg, 1) := dk_117 (by decide +kernel)
theorem dX12_put_14 : decode cX12_put 14 = .ok (.goto 4, 3) := dk_167 (by decide +kernel)
theorem dX12_put_17 : decode cX12_put 17 = .ok (.lload_n 2, 1) := dk_32 (by decide +kernel)
theorem dX12_put_18 : decode cX12_put 18 = .ok (.lstore 5, 2) := dk_55 (by decide +kernel)
theorem dX12_put_20 : decode cX12_put 20 = .ok (.aload_n 0, 1) := dk_42 (by decide +kernel)
theorem dX12_put_21 : decode cX12_put 21 = .ok (.getfield 7, 3) := dk_180 (by decide +kernel)
theorem dX12_put_24 : decode cX12_put 24 = .ok (.iload 4, 2) := dk_21 (by decide +kernel)
theorem dX12_put_26 : decode cX12_put 26 = .ok (.lload_n 2, 1) := dk_32 (by decide +kernel)
theorem dX12_put_27 : decode cX12_put 27 = .ok (.lconst 0, 1) := dk_9 (by decide +kernel)
theorem dX12_put_28 : decode cX12_put 28 = .ok (.lcmp, 1) := dk_148 (by decide +kernel)
theorem dX12_put_29 : decode cX12_put 29 = .ok (.ifCond .ge 7, 3) := dk_156 (by decide +kernel)
theorem dX12_put_32 : decode cX12_put 32 = .ok (.iconst (-1), 1) := dk_2 (by decide +kernel)
theorem dX12_put_33 : decode cX12_put 33 = .ok (.goto 14, 3) := dk_167 (by decide +kernel)
theorem dX12_put_36 : decode cX12_put 36 = .ok (.lload_n 2, 1) := dk_32 (by decide +kernel)
theorem dX12_put_37 : decode cX12_put 37 = .ok (.lconst 0, 1) := dk_9 (by decide +kernel)
theorem dX12_put_38 : decode cX12_put 38 = .ok (.lcmp, 1) := dk_148 (by decide +kernel)
theorem dX12_put_39 : decode cX12_put 39 = .ok (.ifCond .le 7, 3) := dk_158 (by decide +kernel)
theorem dX12_put_42 : decode cX12_put 42 = .ok (.iconst 1, 1) := dk_4 (by decide +kernel)
theorem dX12_put_43 : decode cX12_put 43 = .ok (.goto 4, 3) := dk_167 (by decide +kernel)
theorem dX12_put_46 : decode cX12_put 46 = .ok (.iconst 0, 1) := dk_3 (by decide +kernel)
theorem dX12_put_47 : decode cX12_put 47 = .ok (.iastore, 1) := dk_79 (by decide +kernel)
theorem dX12_put_48 : decode cX12_put 48 = .ok (.iconst 0, 1) := dk_3 (by decide +kernel)
theorem dX12_put_49 : decode cX12_put 49 = .ok (.istore 7, 2) := dk_54 (by decide +kernel)
theorem dX12_put_51 : decode cX12_put 51 = .ok (.lload 5, 2) := dk_22 (by decide +kernel)
theorem dX12_put_53 : decode cX12_put 53 = .ok (.lconst 0, 1) := dk_9 (by decide +kernel)
theorem dX12_put_54 : decode cX12_put 54 = .ok (.lcmp, 1) := dk_148 (by decide +kernel)
theorem dX12_put_55 : decode cX12_put 55 = .ok (.ifCond .le 35, 3) := dk_158 (by decide +kernel)
theorem dX12_put_58 : decode cX12_put 58 = .ok (.aload_n 0, 1) := dk_42 (by decide +kernel)
theorem dX12_put_59 : decode cX12_put 59 = .ok (.getfield 7, 3) := dk_180 (by decide +kernel)
theorem dX12_put_62 : decode cX12_put 62 = .ok (.iload 4, 2) := dk_21 (by decide +kernel)
theorem dX12_put_64 : decode cX12_put 64 = .ok (.iconst 2, 1) := dk_5 (by decide +kernel)
theorem dX12_put_65 : decode cX12_put 65 = .ok (.iadd, 1) := dk_96 (by decide +kernel)
theorem dX12_put_66 : decode cX12_put 66 = .ok (.iload 7, 2) := dk_21 (by decide +kernel)
theorem dX12_put_68 : decode cX12_put 68 = .ok (.iadd, 1) := dk_96 (by decide +kernel)
theorem dX12_put_69 : decode cX12_put 69 = .ok (.lload 5, 2) := dk_22 (by decide +kernel)
theorem dX12_put_71 : decode cX12_put 71 = .ok (.ldc2_w 351, 3) := dk_20 (by decide +kernel)
theorem dX12_put_74 : decode cX12_put 74 = .ok (.land, 1) := dk_127 (by decide +kernel)
theorem dX12_put_75 : decode cX12_put 75 = .ok (.l2i, 1) := dk_136 (by decide +kernel)
theorem dX12_put_76 : decode cX12_put 76 = .ok (.iastore, 1) := dk_79 (by decide +kernel)
theorem dX12_put_77 : decode cX12_put 77 = .ok (.lload 5, 2) := dk_22 (by decide +kernel)
theorem dX12_put_79 : decode cX12_put 79 = .ok (.bipush 28, 2) := dk_16 (by decide +kernel)
theorem dX12_put_81 : decode cX12_put 81 = .ok (.lshr, 1) := dk_123 (by decide +kernel)
theorem dX12_put_82 : decode cX12_put 82 = .ok (.lstore 5, 2) := dk_55 (by decide +kernel)
theorem dX12_put_84 : decode cX12_put 84 = .ok (.iinc 7 1, 3) := dk_132 (by decide +kernel)
theorem dX12_put_87 : decode cX12_put 87 = .ok (.goto (-36), 3) := dk_167 (by decide +kernel)
theorem dX12_put_90 : decode cX12_put 90 = .ok (.aload_n 0, 1) := dk_42 (by decide +kernel)
theorem dX12_put_91 : decode cX12_put 91 = .ok (.getfield 7, 3) := dk_180 (by decide +kernel)
theorem dX12_put_94 : decode cX12_put 94 = .ok (.iload 4, 2) := dk_21 (by decide +kernel)
theorem dX12_put_96 : decode cX12_put 96 = .ok (.iconst 1, 1) := dk_4 (by decide +kernel)
theorem dX12_put_97 : decode cX12_put 97 = .ok (.iadd, 1) := dk_96 (by decide +kernel)
theorem dX12_put_98 : decode cX12_put 98 = .ok (.iload 7, 2) := dk_21 (by decide +kernel)
theorem dX12_put_100 : decode cX12_put 100 = .ok (.iastore, 1) := dk_79 (by decide +kernel)
theorem dX12_put_101 : decode cX12_put 101 = .ok (.return_, 1) := dk_177 (by decide +kernel)
def wsRX12_put : List Cond := .code yX12_put cX12_put 8 none :: ([.fieldLink RX12 7 "OptimaWorksModel" "big" "[I", .constantLong RX12 351 268435455] ++ wsX120)
theorem iwsRX12_put_in12 : ∀ w ∈ wsX120, w ∈ wsRX12_put := fun _ h => List.mem_cons_of_mem _ (List.mem_append_right _ h)
set_option maxHeartbeats 4000000 in
set_option maxRecDepth 100000 in
/-- put(s, v) -/
theorem r_X12_put (l : Launch) (dC : Nat → ClassId) (dI : Nat → Nat → Nat) (a : Nat → Nat) (k : Nat → ClassId) (h0 : Nat) (vi : Nat → Int32) (vj : Nat → Int64) (vF : Nat → Nat → Int32) (vG : Nat → Nat → Int64) (sn : Nat) (xv : Int64) (hs : sn < 1100) (hxv : -9223372036854775808 < xv.toInt) (sz : Nat) : Met l yX12_put wsRX12_put ({ frames := 0, cells := 0, slots := 0, locals := 0 }) (va_Pc [.ref h0, .int (nI sn), .long xv] (fun U => U.heap.size = sz ∧ va_P (dC, dI) vwCl (WR a k h0 vi vj vF vG) U.heap ∧ va_K (dC, dI) vwCl (tX12 k) U ∧ va_D (fun _ => True) (WR a k h0 vi vj vF vG))) (va_Qv (fun (u : Nat → Int32) => (Nu u sn xv.toInt) ∧ (∀ q, (q < 24 * sn ∨ 24 * sn + 24 ≤ q) → u q = vF 0 q)) (fun (u : Nat → Int32) t => va_P (dC, dI) vwCl (WR a k h0 vi vj (fT vF 0 u) vG) t.heap ∧ va_D (va_A (WR a k h0 vi vj vF vG) sz) (WR a k h0 vi vj (fT vF 0 u) vG)) (va_A (WR a k h0 vi vj vF vG) sz)) 0 0 (va_A (WR a k h0 vi vj vF vG) sz) := by
  refine Met.ofW (cc := cX12_put) (maxL := 8) (ret := none) (by decide) rfl ?_
  intro p e s m args below meth c s₁ B hml hv
  obtain ⟨rfl, hsz, hP, hK, hD0⟩ := hv
  have hx := B.exec
  have hb := B.bytes
  have hr := B.returns
  have hts := atoms_spec (ws := wsRX12_put) B.pre
  have hown : s.vm.findClass RX12 = some m.cls := findClass_of_methodNamed B.named
  have hlocks := B.notSynchronized
  subst hsz
  have hD := hD0.self (sz := s.heap.size)
  generalize hAe : va_A (WR a k h0 vi vj vF vG) s.heap.size = A at hD ⊢
  have hA : ∀ q : Nat, s.heap.size ≤ q → A q := fun q h => by rw [← hAe]; exact Or.inr h
  have hS : va_S A s.heap s.heap [] := va_S.rf
  have hl := lv_entry ([.ref h0, .int (nI sn), .long xv]) (n := 8) (Nat.le_of_ble_eq_true rfl)
  rw [lg_entry_eq]
  generalize (lg_sl ([.ref h0, .int (nI sn), .long xv]) ++ List.replicate (8 - (lg_sl ([.ref h0, .int (nI sn), .long xv])).length) Slot.unset).toArray = ls at hl ⊢
  have hl : lv_has ls 8 [(0, .ref h0), (1, .int (nI sn)), (2, .long xv)] := hl
  obtain ⟨r0, hr0⟩ : ∃ r0, r0 = xv.toInt.natAbs := ⟨_, rfl⟩
  have hxt : xv.toInt < 9223372036854775808 := Int64.toInt_lt xv
  refine lv_bipush (v := 24) hx hb dX12_put_0 (by decide) ?_
  refine lv_iload_n hx hb dX12_put_2 rfl (lv_at hl 1 rfl) ?_
  refine lv_imul hx hb dX12_put_3 ?_
  refine lv_topi (fun y1 hy1 => ?_)
  obtain rfl : (nI (24 * sn)) = y1 := (hy1.trans (pk_mul 24 sn)).symm
  refine lv_istore hx hb dX12_put_4 hl (by decide) rfl (fun ls (hl : lv_has ls _ ([(4, .int (nI (24 * sn))), (0, .ref h0), (1, .int (nI sn)), (2, .long xv)])) => ?_)
  refine lv_lload_n hx hb dX12_put_6 rfl (lv_at hl 3 rfl) ?_
  refine lv_lconst (v := 0) hx hb dX12_put_7 (by decide) ?_
  refine W.lcmp hx hb dX12_put_8 ?_
  refine lv_if_ge (tgt := 17) hx hb dX12_put_9 (by decide) (fun c_9 => ?_) (fun c_9 => ?_)
  · have t_9 : (xv).toInt ≥ 0 := toL_ge c_9 rfl (by decide)
    refine lv_lload_n hx hb dX12_put_17 rfl (lv_at hl 3 rfl) ?_
    refine lv_topl (fun y2 hy2 => ?_)
    obtain rfl : (lN r0) = y2 := (hy2.trans (by rw [hr0]; exact posL (by omega))).symm
    refine lv_lstore hx hb dX12_put_18 hl (by decide) rfl (fun ls (hl : lv_has ls _ ([(5, .long (lN r0)), (4, .int (nI (24 * sn))), (0, .ref h0), (1, .int (nI sn)), (2, .long xv)])) => ?_)
    refine lv_aload_n hx hb dX12_put_20 rfl (lv_at hl 2 rfl) ?_
    refine va_get (D := (dC, dI)) (ci := 12) (v := .ref (a 0)) (C := RX12) (T := TX12) (N := 163) (fs := fM (vS a vi vj)) hx hb hts iwsRX12_put_in12 hown hK hP 0 rfl rfl 1 (by decide) (hts (.fieldLink RX12 7 "OptimaWorksModel" "big" "[I") (by decide +kernel)) (fun _ h9 => h9) rfl dX12_put_21 ?_
    refine lv_iload hx hb dX12_put_24 (lv_at hl 1 rfl) ?_
    refine lv_lload_n hx hb dX12_put_26 rfl (lv_at hl 4 rfl) ?_
    refine lv_lconst (v := 0) hx hb dX12_put_27 (by decide) ?_
    refine W.lcmp hx hb dX12_put_28 ?_
    refine lv_if_ge (tgt := 36) hx hb dX12_put_29 (by decide) (fun c_29 => ?_) (fun c9 => False.elim (by have t9 : ¬ (xv).toInt ≥ 0 := toL_nge c9 rfl (by decide); omega))
    have t_29 : (xv).toInt ≥ 0 := toL_ge c_29 rfl (by decide)
    refine lv_lload_n hx hb dX12_put_36 rfl (lv_at hl 4 rfl) ?_
    refine lv_lconst (v := 0) hx hb dX12_put_37 (by decide) ?_
    refine W.lcmp hx hb dX12_put_38 ?_
    refine lv_if_le (tgt := 46) hx hb dX12_put_39 (by decide) (fun c_39 => ?_) (fun c_39 => ?_)
    · have t_39 : (xv).toInt ≤ 0 := toL_le c_39 rfl (by decide)
      refine lv_iconst (v := 0) hx hb dX12_put_46 (by decide) ?_
      refine va_iast (cA := k 0) (n := 26400) (f := (vF 0)) hx hb hK hP hD hS 1 0 (WR_get 0 (by decide)) (TR_get 0 (by decide)) (vp_in_nI (show (24 * sn) < 26400 by omega) (by omega)) dX12_put_47 (fun H locs hP hD hS => ?_)
      have hP : va_P (dC, dI) vwCl (WR a k h0 vi vj (fT vF 0 (upd (vF 0) ((nI (24 * sn))).toNatClampNeg 0)) vG) H := by rw [← WR_F 0 (by decide) _ rfl]; exact hP
      have hD : va_D A (WR a k h0 vi vj (fT vF 0 (upd (vF 0) ((nI (24 * sn))).toNatClampNeg 0)) vG) := by rw [← WR_F 0 (by decide) _ rfl]; exact hD
      refine lv_iconst (v := 0) hx hb dX12_put_48 (by decide) ?_
      refine lv_istore hx hb dX12_put_49 hl (by decide) rfl (fun ls (hl : lv_has ls _ ([(7, .int 0), (5, .long (lN r0)), (4, .int (nI (24 * sn))), (0, .ref h0), (1, .int (nI sn)), (2, .long xv)])) => ?_)
      have hl : lv_has _ _ ([(7, .int (nI 0)), (5, .long (lN r0)), (4, .int (nI (24 * sn))), (0, .ref h0)]) := lv_sub hl [0, 1, 2, 3] rfl
      refine (fun (loop : ∀ (n9 : Nat) (nn : Nat) (rr : Nat) (g : Nat → Int32) (H : Heap) (locs : List Loc) (ls : Array Slot), (((xv.toInt = 0 ∧ g (24 * sn) = 0) ∨ (0 < xv.toInt ∧ g (24 * sn) = 1) ∨ (xv.toInt < 0 ∧ g (24 * sn) = -1))) → (lv28 g (24 * sn + 2) nn + rr * 2 ^ (28 * nn) = r0) → (Lm g (24 * sn + 2) nn) → (rr = 0 → 0 < nn → g (24 * sn + 1 + nn) ≠ 0) → (nn ≤ 3) → (∀ q, (q < 24 * sn ∨ 24 * sn + 24 ≤ q) → g q = vF 0 q) →  (rr < n9) → va_P (dC, dI) vwCl (WR a k h0 vi vj (fT vF 0 g) vG) H → va_D A (WR a k h0 vi vj (fT vF 0 g) vG) → va_S A s.heap H locs → lv_has ls 8 [(7, .int (nI nn)), (5, .long (lN rr)), (4, .int (nI (24 * sn))), (0, .ref h0)] → W p l e _ s m _ below meth c H locs 0 0 _ (F0 m 51 ls [])) => loop (r0 + 1) 0 r0 (upd (vF 0) ((nI (24 * sn))).toNatClampNeg 0) _ _ _ (by rw [upd_at (by omega), if_pos rfl]; first | exact Or.inl ⟨by omega, rfl⟩ | exact Or.inr (Or.inl ⟨by omega, rfl⟩) | exact Or.inr (Or.inr ⟨by omega, rfl⟩)) (by simp [lv28]) (fun q hq => absurd hq (by omega)) (fun _ h9 => absurd h9 (by omega)) (by omega) (fun q hq => by rw [upd_at (by omega), if_neg (by omega)]) (by omega) hP hD hS hl) ?_
      intro n9
      induction n9 with
      | zero => intro nn rr g H locs ls hsg hlv hlm htp hnn ho hf9; exact False.elim (by omega)
      | succ n9 ih51 =>
        intro nn rr g H locs ls hsg hlv hlm htp hnn ho hf51 hP hD hS hl
        have hrb : rr < 2 ^ 63 := by (have h9 : rr * 1 ≤ rr * 2 ^ (28 * nn) := Nat.mul_le_mul_left _ (Nat.one_le_two_pow)); omega
        refine lv_lload hx hb dX12_put_51 (lv_at hl 1 rfl) ?_
        refine lv_lconst (v := 0) hx hb dX12_put_53 (by decide) ?_
        refine W.lcmp hx hb dX12_put_54 ?_
        refine lv_if_le (tgt := 90) hx hb dX12_put_55 (by decide) (fun c_55 => ?_) (fun c_55 => ?_)
        · have t_55 : ((rr : Nat) : Int) ≤ 0 := toL_le c_55 (pk_lT (by omega)) (by decide)
          refine lv_aload_n hx hb dX12_put_90 rfl (lv_at hl 3 rfl) ?_
          refine va_get (D := (dC, dI)) (ci := 12) (v := .ref (a 0)) (C := RX12) (T := TX12) (N := 163) (fs := fM (vS a vi vj)) hx hb hts iwsRX12_put_in12 hown hK hP 0 rfl rfl 1 (by decide) (hts (.fieldLink RX12 7 "OptimaWorksModel" "big" "[I") (by decide +kernel)) (fun _ h9 => h9) rfl dX12_put_91 ?_
          refine lv_iload hx hb dX12_put_94 (lv_at hl 2 rfl) ?_
          refine lv_iconst (v := 1) hx hb dX12_put_96 (by decide) ?_
          refine lv_iadd hx hb dX12_put_97 ?_
          refine lv_topi (fun y3 hy3 => ?_)
          obtain rfl : (nI ((24 * sn) + 1)) = y3 := (hy3.trans (nI_add (24 * sn) 1)).symm
          refine lv_iload hx hb dX12_put_98 (lv_at hl 0 rfl) ?_
          refine va_iast (cA := k 0) (n := 26400) (f := g) hx hb hK hP hD hS 1 0 (WR_get 0 (by decide)) (TR_get 0 (by decide)) (vp_in_nI (show ((24 * sn) + 1) < 26400 by omega) (by omega)) dX12_put_100 (fun H locs hP hD hS => ?_)
          have e9 : fT vF 0 (upd g ((nI ((24 * sn) + 1))).toNatClampNeg (nI nn)) = fT (fT vF 0 g) 0 (upd g ((nI ((24 * sn) + 1))).toNatClampNeg (nI nn)) := (fT_sm _ _ _ _).symm
          have hP : va_P (dC, dI) vwCl (WR a k h0 vi vj (fT vF 0 (upd g ((nI ((24 * sn) + 1))).toNatClampNeg (nI nn))) vG) H := by rw [e9, ← WR_F 0 (by decide) _ rfl]; exact hP
          have hD : va_D A (WR a k h0 vi vj (fT vF 0 (upd g ((nI ((24 * sn) + 1))).toNatClampNeg (nI nn))) vG) := by rw [e9, ← WR_F 0 (by decide) _ rfl]; exact hD
          clear e9
          refine W.widen (k := 0) (n := 0) (by decide +kernel) (by decide +kernel) ?_
          exact W.vret hx hb hr (fun t9_ ht hW => ⟨⟨(upd g ((nI ((24 * sn) + 1))).toNatClampNeg (nI nn)), rfl, by (try dsimp only); exact ⟨⟨nn, by omega, by rw [upd_at (by omega), if_pos rfl], fun q hq => by rw [upd_at (by omega), if_neg (by omega)]; exact hlm q hq, fun h9 => by rw [upd_at (by omega), if_neg (by omega)]; exact htp (by omega) h9, by rw [lv28_congr (g := g) (p := 24 * sn + 2) (fun q hq => by rw [upd_at (by omega), if_neg (by omega)])]; (have e8 : rr = 0 := (by omega)); rw [e8, Nat.zero_mul] at hlv; omega, by rw [upd_at (by omega), if_neg (by omega)]; exact hsg⟩, fun q hq => by rw [upd_at (by omega), if_neg (by omega)]; exact ho q hq⟩, by rw [ht]; exact hP, hD⟩, hS.F ht⟩) hS.2.2 dX12_put_101
        · have t_55 : ¬ ((rr : Nat) : Int) ≤ 0 := toL_nle c_55 (pk_lT (by omega)) (by decide)
          have hn2 : nn ≤ 2 := lv28_top (r := rr) (v := lv28 g (24 * sn + 2) nn) (by omega) (by omega)
          refine lv_aload_n hx hb dX12_put_58 rfl (lv_at hl 3 rfl) ?_
          refine va_get (D := (dC, dI)) (ci := 12) (v := .ref (a 0)) (C := RX12) (T := TX12) (N := 163) (fs := fM (vS a vi vj)) hx hb hts iwsRX12_put_in12 hown hK hP 0 rfl rfl 1 (by decide) (hts (.fieldLink RX12 7 "OptimaWorksModel" "big" "[I") (by decide +kernel)) (fun _ h9 => h9) rfl dX12_put_59 ?_
          refine lv_iload hx hb dX12_put_62 (lv_at hl 2 rfl) ?_
          refine lv_iconst (v := 2) hx hb dX12_put_64 (by decide) ?_
          refine lv_iadd hx hb dX12_put_65 ?_
          refine lv_topi (fun y4 hy4 => ?_)
          obtain rfl : (nI ((24 * sn) + 2)) = y4 := (hy4.trans (nI_add (24 * sn) 2)).symm
          refine lv_iload hx hb dX12_put_66 (lv_at hl 0 rfl) ?_
          refine lv_iadd hx hb dX12_put_68 ?_
          refine lv_topi (fun y5 hy5 => ?_)
          obtain rfl : (nI (((24 * sn) + 2) + nn)) = y5 := (hy5.trans (nI_add ((24 * sn) + 2) nn)).symm
          refine lv_lload hx hb dX12_put_69 (lv_at hl 1 rfl) ?_
          refine lv_ldc2 (v := 268435455) hx hb hown (hts (.constantLong RX12 351 268435455) (by decide +kernel)) dX12_put_71 ?_
          refine lv_land hx hb dX12_put_74 ?_
          refine lv_topl (fun y6 hy6 => ?_)
          obtain rfl : (lN (rr % 268435456)) = y6 := (hy6.trans (mask28 (by omega))).symm
          refine lv_l2i hx hb dX12_put_75 rfl ?_
          refine lv_topi (fun y7 hy7 => ?_)
          obtain rfl : (nI (rr % 268435456)) = y7 := (hy7.trans (lN_i _)).symm
          refine va_iast (cA := k 0) (n := 26400) (f := g) hx hb hK hP hD hS 1 0 (WR_get 0 (by decide)) (TR_get 0 (by decide)) (vp_in_nI (show (((24 * sn) + 2) + nn) < 26400 by omega) (by omega)) dX12_put_76 (fun H locs hP hD hS => ?_)
          have e9 : fT vF 0 (upd g ((nI (((24 * sn) + 2) + nn))).toNatClampNeg (nI (rr % 268435456))) = fT (fT vF 0 g) 0 (upd g ((nI (((24 * sn) + 2) + nn))).toNatClampNeg (nI (rr % 268435456))) := (fT_sm _ _ _ _).symm
          have hP : va_P (dC, dI) vwCl (WR a k h0 vi vj (fT vF 0 (upd g ((nI (((24 * sn) + 2) + nn))).toNatClampNeg (nI (rr % 268435456)))) vG) H := by rw [e9, ← WR_F 0 (by decide) _ rfl]; exact hP
          have hD : va_D A (WR a k h0 vi vj (fT vF 0 (upd g ((nI (((24 * sn) + 2) + nn))).toNatClampNeg (nI (rr % 268435456)))) vG) := by rw [e9, ← WR_F 0 (by decide) _ rfl]; exact hD
          clear e9
          refine lv_lload hx hb dX12_put_77 (lv_at hl 1 rfl) ?_
          refine lv_bipush (v := 28) hx hb dX12_put_79 (by decide) ?_
          refine lv_lshr hx hb dX12_put_81 rfl ?_
          refine lv_topl (fun y8 hy8 => ?_)
          obtain rfl : (lN (rr / 268435456)) = y8 := (hy8.trans (shr28 (by omega))).symm
          refine lv_lstore hx hb dX12_put_82 hl (by decide) rfl (fun ls (hl : lv_has ls _ ([(5, .long (lN (rr / 268435456))), (7, .int (nI nn)), (4, .int (nI (24 * sn))), (0, .ref h0)])) => ?_)
          refine lv_iinc (v := (nI (nn + 1))) hx hb dX12_put_84 hl (k := 1) rfl (nI_add nn 1) (by decide) rfl (fun ls (hl : lv_has ls _ ([(7, .int (nI (nn + 1))), (5, .long (lN (rr / 268435456))), (4, .int (nI (24 * sn))), (0, .ref h0)])) => ?_)
          refine lv_goto (tgt := 51) hx hb dX12_put_87 (by decide) ?_
          have hl : lv_has _ _ ([(7, .int (nI (nn + 1))), (5, .long (lN (rr / 268435456))), (4, .int (nI (24 * sn))), (0, .ref h0)]) := lv_sub hl [0, 1, 2, 3] rfl
          exact ih51 (nn + 1) (rr / 268435456) (upd g ((nI (((24 * sn) + 2) + nn))).toNatClampNeg (nI (rr % 268435456))) _ _ _ (by rw [upd_at (by omega), if_neg (by omega)]; exact hsg) (lv28_step (by omega) hlv) (fun q hq => by rw [upd_at (by omega)]; by_cases e9 : 24 * sn + 2 + q = 24 * sn + 2 + nn; (exact ⟨rr % 268435456, by omega, if_pos e9⟩); (rw [if_neg e9]; exact hlm q (by omega))) (fun h9 _ => by rw [upd_at (by omega), if_pos (by omega)]; exact nI_ne0 (by omega) (by omega)) (by omega) (fun q hq => by rw [upd_at (by omega), if_neg (by omega)]; exact ho q hq) (by omega) hP hD hS hl
    · have t_39 : ¬ (xv).toInt ≤ 0 := toL_nle c_39 rfl (by decide)
      refine lv_iconst (v := 1) hx hb dX12_put_42 (by decide) ?_
      refine lv_goto (tgt := 47) hx hb dX12_put_43 (by decide) ?_
      refine va_iast (cA := k 0) (n := 26400) (f := (vF 0)) hx hb hK hP hD hS 1 0 (WR_get 0 (by decide)) (TR_get 0 (by decide)) (vp_in_nI (show (24 * sn) < 26400 by omega) (by omega)) dX12_put_47 (fun H locs hP hD hS => ?_)
      have hP : va_P (dC, dI) vwCl (WR a k h0 vi vj (fT vF 0 (upd (vF 0) ((nI (24 * sn))).toNatClampNeg 1)) vG) H := by rw [← WR_F 0 (by decide) _ rfl]; exact hP
      have hD : va_D A (WR a k h0 vi vj (fT vF 0 (upd (vF 0) ((nI (24 * sn))).toNatClampNeg 1)) vG) := by rw [← WR_F 0 (by decide) _ rfl]; exact hD
      refine lv_iconst (v := 0) hx hb dX12_put_48 (by decide) ?_
      refine lv_istore hx hb dX12_put_49 hl (by decide) rfl (fun ls (hl : lv_has ls _ ([(7, .int 0), (5, .long (lN r0)), (4, .int (nI (24 * sn))), (0, .ref h0), (1, .int (nI sn)), (2, .long xv)])) => ?_)
      have hl : lv_has _ _ ([(7, .int (nI 0)), (5, .long (lN r0)), (4, .int (nI (24 * sn))), (0, .ref h0)]) := lv_sub hl [0, 1, 2, 3] rfl
      refine (fun (loop : ∀ (n9 : Nat) (nn : Nat) (rr : Nat) (g : Nat → Int32) (H : Heap) (locs : List Loc) (ls : Array Slot), (((xv.toInt = 0 ∧ g (24 * sn) = 0) ∨ (0 < xv.toInt ∧ g (24 * sn) = 1) ∨ (xv.toInt < 0 ∧ g (24 * sn) = -1))) → (lv28 g (24 * sn + 2) nn + rr * 2 ^ (28 * nn) = r0) → (Lm g (24 * sn + 2) nn) → (rr = 0 → 0 < nn → g (24 * sn + 1 + nn) ≠ 0) → (nn ≤ 3) → (∀ q, (q < 24 * sn ∨ 24 * sn + 24 ≤ q) → g q = vF 0 q) →  (rr < n9) → va_P (dC, dI) vwCl (WR a k h0 vi vj (fT vF 0 g) vG) H → va_D A (WR a k h0 vi vj (fT vF 0 g) vG) → va_S A s.heap H locs → lv_has ls 8 [(7, .int (nI nn)), (5, .long (lN rr)), (4, .int (nI (24 * sn))), (0, .ref h0)] → W p l e _ s m _ below meth c H locs 0 0 _ (F0 m 51 ls [])) => loop (r0 + 1) 0 r0 (upd (vF 0) ((nI (24 * sn))).toNatClampNeg 1) _ _ _ (by rw [upd_at (by omega), if_pos rfl]; first | exact Or.inl ⟨by omega, rfl⟩ | exact Or.inr (Or.inl ⟨by omega, rfl⟩) | exact Or.inr (Or.inr ⟨by omega, rfl⟩)) (by simp [lv28]) (fun q hq => absurd hq (by omega)) (fun _ h9 => absurd h9 (by omega)) (by omega) (fun q hq => by rw [upd_at (by omega), if_neg (by omega)]) (by omega) hP hD hS hl) ?_
      intro n9
      induction n9 with
      | zero => intro nn rr g H locs ls hsg hlv hlm htp hnn ho hf9; exact False.elim (by omega)
      | succ n9 ih51_1 =>
        intro nn rr g H locs ls hsg hlv hlm htp hnn ho hf51_1 hP hD hS hl
        have hrb : rr < 2 ^ 63 := by (have h9 : rr * 1 ≤ rr * 2 ^ (28 * nn) := Nat.mul_le_mul_left _ (Nat.one_le_two_pow)); omega
        refine lv_lload hx hb dX12_put_51 (lv_at hl 1 rfl) ?_
        refine lv_lconst (v := 0) hx hb dX12_put_53 (by decide) ?_
        refine W.lcmp hx hb dX12_put_54 ?_
        refine lv_if_le (tgt := 90) hx hb dX12_put_55 (by decide) (fun c_55 => ?_) (fun c_55 => ?_)
        · have t_55 : ((rr : Nat) : Int) ≤ 0 := toL_le c_55 (pk_lT (by omega)) (by decide)
          refine lv_aload_n hx hb dX12_put_90 rfl (lv_at hl 3 rfl) ?_
          refine va_get (D := (dC, dI)) (ci := 12) (v := .ref (a 0)) (C := RX12) (T := TX12) (N := 163) (fs := fM (vS a vi vj)) hx hb hts iwsRX12_put_in12 hown hK hP 0 rfl rfl 1 (by decide) (hts (.fieldLink RX12 7 "OptimaWorksModel" "big" "[I") (by decide +kernel)) (fun _ h9 => h9) rfl dX12_put_91 ?_
          refine lv_iload hx hb dX12_put_94 (lv_at hl 2 rfl) ?_
          refine lv_iconst (v := 1) hx hb dX12_put_96 (by decide) ?_
          refine lv_iadd hx hb dX12_put_97 ?_
          refine lv_topi (fun y9 hy9 => ?_)
          obtain rfl : (nI ((24 * sn) + 1)) = y9 := (hy9.trans (nI_add (24 * sn) 1)).symm
          refine lv_iload hx hb dX12_put_98 (lv_at hl 0 rfl) ?_
          refine va_iast (cA := k 0) (n := 26400) (f := g) hx hb hK hP hD hS 1 0 (WR_get 0 (by decide)) (TR_get 0 (by decide)) (vp_in_nI (show ((24 * sn) + 1) < 26400 by omega) (by omega)) dX12_put_100 (fun H locs hP hD hS => ?_)
          have e9 : fT vF 0 (upd g ((nI ((24 * sn) + 1))).toNatClampNeg (nI nn)) = fT (fT vF 0 g) 0 (upd g ((nI ((24 * sn) + 1))).toNatClampNeg (nI nn)) := (fT_sm _ _ _ _).symm
          have hP : va_P (dC, dI) vwCl (WR a k h0 vi vj (fT vF 0 (upd g ((nI ((24 * sn) + 1))).toNatClampNeg (nI nn))) vG) H := by rw [e9, ← WR_F 0 (by decide) _ rfl]; exact hP
          have hD : va_D A (WR a k h0 vi vj (fT vF 0 (upd g ((nI ((24 * sn) + 1))).toNatClampNeg (nI nn))) vG) := by rw [e9, ← WR_F 0 (by decide) _ rfl]; exact hD
          clear e9
          refine W.widen (k := 0) (n := 0) (by decide +kernel) (by decide +kernel) ?_
          exact W.vret hx hb hr (fun t9_ ht hW => ⟨⟨(upd g ((nI ((24 * sn) + 1))).toNatClampNeg (nI nn)), rfl, by (try dsimp only); exact ⟨⟨nn, by omega, by rw [upd_at (by omega), if_pos rfl], fun q hq => by rw [upd_at (by omega), if_neg (by omega)]; exact hlm q hq, fun h9 => by rw [upd_at (by omega), if_neg (by omega)]; exact htp (by omega) h9, by rw [lv28_congr (g := g) (p := 24 * sn + 2) (fun q hq => by rw [upd_at (by omega), if_neg (by omega)])]; (have e8 : rr = 0 := (by omega)); rw [e8, Nat.zero_mul] at hlv; omega, by rw [upd_at (by omega), if_neg (by omega)]; exact hsg⟩, fun q hq => by rw [upd_at (by omega), if_neg (by omega)]; exact ho q hq⟩, by rw [ht]; exact hP, hD⟩, hS.F ht⟩) hS.2.2 dX12_put_101
        · have t_55 : ¬ ((rr : Nat) : Int) ≤ 0 := toL_nle c_55 (pk_lT (by omega)) (by decide)
          have hn2 : nn ≤ 2 := lv28_top (r := rr) (v := lv28 g (24 * sn + 2) nn) (by omega) (by omega)
          refine lv_aload_n hx hb dX12_put_58 rfl (lv_at hl 3 rfl) ?_
          refine va_get (D := (dC, dI)) (ci := 12) (v := .ref (a 0)) (C := RX12) (T := TX12) (N := 163) (fs := fM (vS a vi vj)) hx hb hts iwsRX12_put_in12 hown hK hP 0 rfl rfl 1 (by decide) (hts (.fieldLink RX12 7 "OptimaWorksModel" "big" "[I") (by decide +kernel)) (fun _ h9 => h9) rfl dX12_put_59 ?_
          refine lv_iload hx hb dX12_put_62 (lv_at hl 2 rfl) ?_
          refine lv_iconst (v := 2) hx hb dX12_put_64 (by decide) ?_
          refine lv_iadd hx hb dX12_put_65 ?_
          refine lv_topi (fun y10 hy10 => ?_)
          obtain rfl : (nI ((24 * sn) + 2)) = y10 := (hy10.trans (nI_add (24 * sn) 2)).symm
          refine lv_iload hx hb dX12_put_66 (lv_at hl 0 rfl) ?_
          refine lv_iadd hx hb dX12_put_68 ?_
          refine lv_topi (fun y11 hy11 => ?_)
          obtain rfl : (nI (((24 * sn) + 2) + nn)) = y11 := (hy11.trans (nI_add ((24 * sn) + 2) nn)).symm
          refine lv_lload hx hb dX12_put_69 (lv_at hl 1 rfl) ?_
          refine lv_ldc2 (v := 268435455) hx hb hown (hts (.constantLong RX12 351 268435455) (by decide +kernel)) dX12_put_71 ?_
          refine lv_land hx hb dX12_put_74 ?_
          refine lv_topl (fun y12 hy12 => ?_)
          obtain rfl : (lN (rr % 268435456)) = y12 := (hy12.trans (mask28 (by omega))).symm
          refine lv_l2i hx hb dX12_put_75 rfl ?_
          refine lv_topi (fun y13 hy13 => ?_)
          obtain rfl : (nI (rr % 268435456)) = y13 := (hy13.trans (lN_i _)).symm
          refine va_iast (cA := k 0) (n := 26400) (f := g) hx hb hK hP hD hS 1 0 (WR_get 0 (by decide)) (TR_get 0 (by decide)) (vp_in_nI (show (((24 * sn) + 2) + nn) < 26400 by omega) (by omega)) dX12_put_76 (fun H locs hP hD hS => ?_)
          have e9 : fT vF 0 (upd g ((nI (((24 * sn) + 2) + nn))).toNatClampNeg (nI (rr % 268435456))) = fT (fT vF 0 g) 0 (upd g ((nI (((24 * sn) + 2) + nn))).toNatClampNeg (nI (rr % 268435456))) := (fT_sm _ _ _ _).symm
          have hP : va_P (dC, dI) vwCl (WR a k h0 vi vj (fT vF 0 (upd g ((nI (((24 * sn) + 2) + nn))).toNatClampNeg (nI (rr % 268435456)))) vG) H := by rw [e9, ← WR_F 0 (by decide) _ rfl]; exact hP
          have hD : va_D A (WR a k h0 vi vj (fT vF 0 (upd g ((nI (((24 * sn) + 2) + nn))).toNatClampNeg (nI (rr % 268435456)))) vG) := by rw [e9, ← WR_F 0 (by decide) _ rfl]; exact hD
          clear e9
          refine lv_lload hx hb dX12_put_77 (lv_at hl 1 rfl) ?_
          refine lv_bipush (v := 28) hx hb dX12_put_79 (by decide) ?_
          refine lv_lshr hx hb dX12_put_81 rfl ?_
          refine lv_topl (fun y14 hy14 => ?_)
          obtain rfl : (lN (rr / 268435456)) = y14 := (hy14.trans (shr28 (by omega))).symm
          refine lv_lstore hx hb dX12_put_82 hl (by decide) rfl (fun ls (hl : lv_has ls _ ([(5, .long (lN (rr / 268435456))), (7, .int (nI nn)), (4, .int (nI (24 * sn))), (0, .ref h0)])) => ?_)
          refine lv_iinc (v := (nI (nn + 1))) hx hb dX12_put_84 hl (k := 1) rfl (nI_add nn 1) (by decide) rfl (fun ls (hl : lv_has ls _ ([(7, .int (nI (nn + 1))), (5, .long (lN (rr / 268435456))), (4, .int (nI (24 * sn))), (0, .ref h0)])) => ?_)
          refine lv_goto (tgt := 51) hx hb dX12_put_87 (by decide) ?_
          have hl : lv_has _ _ ([(7, .int (nI (nn + 1))), (5, .long (lN (rr / 268435456))), (4, .int (nI (24 * sn))), (0, .ref h0)]) := lv_sub hl [0, 1, 2, 3] rfl
          exact ih51_1 (nn + 1) (rr / 268435456) (upd g ((nI (((24 * sn) + 2) + nn))).toNatClampNeg (nI (rr % 268435456))) _ _ _ (by rw [upd_at (by omega), if_neg (by omega)]; exact hsg) (lv28_step (by omega) hlv) (fun q hq => by rw [upd_at (by omega)]; by_cases e9 : 24 * sn + 2 + q = 24 * sn + 2 + nn; (exact ⟨rr % 268435456, by omega, if_pos e9⟩); (rw [if_neg e9]; exact hlm q (by omega))) (fun h9 _ => by rw [upd_at (by omega), if_pos (by omega)]; exact nI_ne0 (by omega) (by omega)) (by omega) (fun q hq => by rw [upd_at (by omega), if_neg (by omega)]; exact ho q hq) (by omega) hP hD hS hl
  · have t_9 : ¬ (xv).toInt ≥ 0 := toL_nge c_9 rfl (by decide)
    refine lv_lload_n hx hb dX12_put_12 rfl (lv_at hl 3 rfl) ?_
    refine lv_lneg hx hb dX12_put_13 ?_
    refine lv_topl (fun y15 hy15 => ?_)
    obtain rfl : (lN r0) = y15 := (hy15.trans (by rw [hr0]; exact negL (by omega) hxv)).symm
    refine lv_goto (tgt := 18) hx hb dX12_put_14 (by decide) ?_
    refine lv_lstore hx hb dX12_put_18 hl (by decide) rfl (fun ls (hl : lv_has ls _ ([(5, .long (lN r0)), (4, .int (nI (24 * sn))), (0, .ref h0), (1, .int (nI sn)), (2, .long xv)])) => ?_)
    refine lv_aload_n hx hb dX12_put_20 rfl (lv_at hl 2 rfl) ?_
    refine va_get (D := (dC, dI)) (ci := 12) (v := .ref (a 0)) (C := RX12) (T := TX12) (N := 163) (fs := fM (vS a vi vj)) hx hb hts iwsRX12_put_in12 hown hK hP 0 rfl rfl 1 (by decide) (hts (.fieldLink RX12 7 "OptimaWorksModel" "big" "[I") (by decide +kernel)) (fun _ h9 => h9) rfl dX12_put_21 ?_
    refine lv_iload hx hb dX12_put_24 (lv_at hl 1 rfl) ?_
    refine lv_lload_n hx hb dX12_put_26 rfl (lv_at hl 4 rfl) ?_
    refine lv_lconst (v := 0) hx hb dX12_put_27 (by decide) ?_
    refine W.lcmp hx hb dX12_put_28 ?_
    refine lv_if_ge (tgt := 36) hx hb dX12_put_29 (by decide) (fun c9 => False.elim (by have t9 : (xv).toInt ≥ 0 := toL_ge c9 rfl (by decide); omega)) (fun c_29 => ?_)
    have t_29 : ¬ (xv).toInt ≥ 0 := toL_nge c_29 rfl (by decide)
    refine lv_iconst (v := (-1)) hx hb dX12_put_32 (by decide) ?_
    refine lv_goto (tgt := 47) hx hb dX12_put_33 (by decide) ?_
    refine va_iast (cA := k 0) (n := 26400) (f := (vF 0)) hx hb hK hP hD hS 1 0 (WR_get 0 (by decide)) (TR_get 0 (by decide)) (vp_in_nI (show (24 * sn) < 26400 by omega) (by omega)) dX12_put_47 (fun H locs hP hD hS => ?_)
    have hP : va_P (dC, dI) vwCl (WR a k h0 vi vj (fT vF 0 (upd (vF 0) ((nI (24 * sn))).toNatClampNeg (-1))) vG) H := by rw [← WR_F 0 (by decide) _ rfl]; exact hP
    have hD : va_D A (WR a k h0 vi vj (fT vF 0 (upd (vF 0) ((nI (24 * sn))).toNatClampNeg (-1))) vG) := by rw [← WR_F 0 (by decide) _ rfl]; exact hD
    refine lv_iconst (v := 0) hx hb dX12_put_48 (by decide) ?_
    refine lv_istore hx hb dX12_put_49 hl (by decide) rfl (fun ls (hl : lv_has ls _ ([(7, .int 0), (5, .long (lN r0)), (4, .int (nI (24 * sn))), (0, .ref h0), (1, .int (nI sn)), (2, .long xv)])) => ?_)
    have hl : lv_has _ _ ([(7, .int (nI 0)), (5, .long (lN r0)), (4, .int (nI (24 * sn))), (0, .ref h0)]) := lv_sub hl [0, 1, 2, 3] rfl
    refine (fun (loop : ∀ (n9 : Nat) (nn : Nat) (rr : Nat) (g : Nat → Int32) (H : Heap) (locs : List Loc) (ls : Array Slot), (((xv.toInt = 0 ∧ g (24 * sn) = 0) ∨ (0 < xv.toInt ∧ g (24 * sn) = 1) ∨ (xv.toInt < 0 ∧ g (24 * sn) = -1))) → (lv28 g (24 * sn + 2) nn + rr * 2 ^ (28 * nn) = r0) → (Lm g (24 * sn + 2) nn) → (rr = 0 → 0 < nn → g (24 * sn + 1 + nn) ≠ 0) → (nn ≤ 3) → (∀ q, (q < 24 * sn ∨ 24 * sn + 24 ≤ q) → g q = vF 0 q) →  (rr < n9) → va_P (dC, dI) vwCl (WR a k h0 vi vj (fT vF 0 g) vG) H → va_D A (WR a k h0 vi vj (fT vF 0 g) vG) → va_S A s.heap H locs → lv_has ls 8 [(7, .int (nI nn)), (5, .long (lN rr)), (4, .int (nI (24 * sn))), (0, .ref h0)] → W p l e _ s m _ below meth c H locs 0 0 _ (F0 m 51 ls [])) => loop (r0 + 1) 0 r0 (upd (vF 0) ((nI (24 * sn))).toNatClampNeg (-1)) _ _ _ (by rw [upd_at (by omega), if_pos rfl]; first | exact Or.inl ⟨by omega, rfl⟩ | exact Or.inr (Or.inl ⟨by omega, rfl⟩) | exact Or.inr (Or.inr ⟨by omega, rfl⟩)) (by simp [lv28]) (fun q hq => absurd hq (by omega)) (fun _ h9 => absurd h9 (by omega)) (by omega) (fun q hq => by rw [upd_at (by omega), if_neg (by omega)]) (by omega) hP hD hS hl) ?_
    intro n9
    induction n9 with
    | zero => intro nn rr g H locs ls hsg hlv hlm htp hnn ho hf9; exact False.elim (by omega)
    | succ n9 ih51_2 =>
      intro nn rr g H locs ls hsg hlv hlm htp hnn ho hf51_2 hP hD hS hl
      have hrb : rr < 2 ^ 63 := by (have h9 : rr * 1 ≤ rr * 2 ^ (28 * nn) := Nat.mul_le_mul_left _ (Nat.one_le_two_pow)); omega
      refine lv_lload hx hb dX12_put_51 (lv_at hl 1 rfl) ?_
      refine lv_lconst (v := 0) hx hb dX12_put_53 (by decide) ?_
      refine W.lcmp hx hb dX12_put_54 ?_
      refine lv_if_le (tgt := 90) hx hb dX12_put_55 (by decide) (fun c_55 => ?_) (fun c_55 => ?_)
      · have t_55 : ((rr : Nat) : Int) ≤ 0 := toL_le c_55 (pk_lT (by omega)) (by decide)
        refine lv_aload_n hx hb dX12_put_90 rfl (lv_at hl 3 rfl) ?_
        refine va_get (D := (dC, dI)) (ci := 12) (v := .ref (a 0)) (C := RX12) (T := TX12) (N := 163) (fs := fM (vS a vi vj)) hx hb hts iwsRX12_put_in12 hown hK hP 0 rfl rfl 1 (by decide) (hts (.fieldLink RX12 7 "OptimaWorksModel" "big" "[I") (by decide +kernel)) (fun _ h9 => h9) rfl dX12_put_91 ?_
        refine lv_iload hx hb dX12_put_94 (lv_at hl 2 rfl) ?_
        refine lv_iconst (v := 1) hx hb dX12_put_96 (by decide) ?_
        refine lv_iadd hx hb dX12_put_97 ?_
        refine lv_topi (fun y16 hy16 => ?_)
        obtain rfl : (nI ((24 * sn) + 1)) = y16 := (hy16.trans (nI_add (24 * sn) 1)).symm
        refine lv_iload hx hb dX12_put_98 (lv_at hl 0 rfl) ?_
        refine va_iast (cA := k 0) (n := 26400) (f := g) hx hb hK hP hD hS 1 0 (WR_get 0 (by decide)) (TR_get 0 (by decide)) (vp_in_nI (show ((24 * sn) + 1) < 26400 by omega) (by omega)) dX12_put_100 (fun H locs hP hD hS => ?_)
        have e9 : fT vF 0 (upd g ((nI ((24 * sn) + 1))).toNatClampNeg (nI nn)) = fT (fT vF 0 g) 0 (upd g ((nI ((24 * sn) + 1))).toNatClampNeg (nI nn)) := (fT_sm _ _ _ _).symm
        have hP : va_P (dC, dI) vwCl (WR a k h0 vi vj (fT vF 0 (upd g ((nI ((24 * sn) + 1))).toNatClampNeg (nI nn))) vG) H := by rw [e9, ← WR_F 0 (by decide) _ rfl]; exact hP
        have hD : va_D A (WR a k h0 vi vj (fT vF 0 (upd g ((nI ((24 * sn) + 1))).toNatClampNeg (nI nn))) vG) := by rw [e9, ← WR_F 0 (by decide) _ rfl]; exact hD
        clear e9
        refine W.widen (k := 0) (n := 0) (by decide +kernel) (by decide +kernel) ?_
        exact W.vret hx hb hr (fun t9_ ht hW => ⟨⟨(upd g ((nI ((24 * sn) + 1))).toNatClampNeg (nI nn)), rfl, by (try dsimp only); exact ⟨⟨nn, by omega, by rw [upd_at (by omega), if_pos rfl], fun q hq => by rw [upd_at (by omega), if_neg (by omega)]; exact hlm q hq, fun h9 => by rw [upd_at (by omega), if_neg (by omega)]; exact htp (by omega) h9, by rw [lv28_congr (g := g) (p := 24 * sn + 2) (fun q hq => by rw [upd_at (by omega), if_neg (by omega)])]; (have e8 : rr = 0 := (by omega)); rw [e8, Nat.zero_mul] at hlv; omega, by rw [upd_at (by omega), if_neg (by omega)]; exact hsg⟩, fun q hq => by rw [upd_at (by omega), if_neg (by omega)]; exact ho q hq⟩, by rw [ht]; exact hP, hD⟩, hS.F ht⟩) hS.2.2 dX12_put_101
      · have t_55 : ¬ ((rr : Nat) : Int) ≤ 0 := toL_nle c_55 (pk_lT (by omega)) (by decide)
        have hn2 : nn ≤ 2 := lv28_top (r := rr) (v := lv28 g (24 * sn + 2) nn) (by omega) (by omega)
        refine lv_aload_n hx hb dX12_put_58 rfl (lv_at hl 3 rfl) ?_
        refine va_get (D := (dC, dI)) (ci := 12) (v := .ref (a 0)) (C := RX12) (T := TX12) (N := 163) (fs := fM (vS a vi vj)) hx hb hts iwsRX12_put_in12 hown hK hP 0 rfl rfl 1 (by decide) (hts (.fieldLink RX12 7 "OptimaWorksModel" "big" "[I") (by decide +kernel)) (fun _ h9 => h9) rfl dX12_put_59 ?_
        refine lv_iload hx hb dX12_put_62 (lv_at hl 2 rfl) ?_
        refine lv_iconst (v := 2) hx hb dX12_put_64 (by decide) ?_
        refine lv_iadd hx hb dX12_put_65 ?_
        refine lv_topi (fun y17 hy17 => ?_)
        obtain rfl : (nI ((24 * sn) + 2)) = y17 := (hy17.trans (nI_add (24 * sn) 2)).symm
        refine lv_iload hx hb dX12_put_66 (lv_at hl 0 rfl) ?_
        refine lv_iadd hx hb dX12_put_68 ?_
        refine lv_topi (fun y18 hy18 => ?_)
        obtain rfl : (nI (((24 * sn) + 2) + nn)) = y18 := (hy18.trans (nI_add ((24 * sn) + 2) nn)).symm
        refine lv_lload hx hb dX12_put_69 (lv_at hl 1 rfl) ?_
        refine lv_ldc2 (v := 268435455) hx hb hown (hts (.constantLong RX12 351 268435455) (by decide +kernel)) dX12_put_71 ?_
        refine lv_land hx hb dX12_put_74 ?_
        refine lv_topl (fun y19 hy19 => ?_)
        obtain rfl : (lN (rr % 268435456)) = y19 := (hy19.trans (mask28 (by omega))).symm
        refine lv_l2i hx hb dX12_put_75 rfl ?_
        refine lv_topi (fun y20 hy20 => ?_)
        obtain rfl : (nI (rr % 268435456)) = y20 := (hy20.trans (lN_i _)).symm
        refine va_iast (cA := k 0) (n := 26400) (f := g) hx hb hK hP hD hS 1 0 (WR_get 0 (by decide)) (TR_get 0 (by decide)) (vp_in_nI (show (((24 * sn) + 2) + nn) < 26400 by omega) (by omega)) dX12_put_76 (fun H locs hP hD hS => ?_)
        have e9 : fT vF 0 (upd g ((nI (((24 * sn) + 2) + nn))).toNatClampNeg (nI (rr % 268435456))) = fT (fT vF 0 g) 0 (upd g ((nI (((24 * sn) + 2) + nn))).toNatClampNeg (nI (rr % 268435456))) := (fT_sm _ _ _ _).symm
        have hP : va_P (dC, dI) vwCl (WR a k h0 vi vj (fT vF 0 (upd g ((nI (((24 * sn) + 2) + nn))).toNatClampNeg (nI (rr % 268435456)))) vG) H := by rw [e9, ← WR_F 0 (by decide) _ rfl]; exact hP
        have hD : va_D A (WR a k h0 vi vj (fT vF 0 (upd g ((nI (((24 * sn) + 2) + nn))).toNatClampNeg (nI (rr % 268435456)))) vG) := by rw [e9, ← WR_F 0 (by decide) _ rfl]; exact hD
        clear e9
        refine lv_lload hx hb dX12_put_77 (lv_at hl 1 rfl) ?_
        refine lv_bipush (v := 28) hx hb dX12_put_79 (by decide) ?_
        refine lv_lshr hx hb dX12_put_81 rfl ?_
        refine lv_topl (fun y21 hy21 => ?_)
        obtain rfl : (lN (rr / 268435456)) = y21 := (hy21.trans (shr28 (by omega))).symm
        refine lv_lstore hx hb dX12_put_82 hl (by decide) rfl (fun ls (hl : lv_has ls _ ([(5, .long (lN (rr / 268435456))), (7, .int (nI nn)), (4, .int (nI (24 * sn))), (0, .ref h0)])) => ?_)
        refine lv_iinc (v := (nI (nn + 1))) hx hb dX12_put_84 hl (k := 1) rfl (nI_add nn 1) (by decide) rfl (fun ls (hl : lv_has ls _ ([(7, .int (nI (nn + 1))), (5, .long (lN (rr / 268435456))), (4, .int (nI (24 * sn))), (0, .ref h0)])) => ?_)
        refine lv_goto (tgt := 51) hx hb dX12_put_87 (by decide) ?_
        have hl : lv_has _ _ ([(7, .int (nI (nn + 1))), (5, .long (lN (rr / 268435456))), (4, .int (nI (24 * sn))), (0, .ref h0)]) := lv_sub hl [0, 1, 2, 3] rfl
        exact ih51_2 (nn + 1) (rr / 268435456) (upd g ((nI (((24 * sn) + 2) + nn))).toNatClampNeg (nI (rr % 268435456))) _ _ _ (by rw [upd_at (by omega), if_neg (by omega)]; exact hsg) (lv28_step (by omega) hlv) (fun q hq => by rw [upd_at (by omega)]; by_cases e9 : 24 * sn + 2 + q = 24 * sn + 2 + nn; (exact ⟨rr % 268435456, by omega, if_pos e9⟩); (rw [if_neg e9]; exact hlm q (by omega))) (fun h9 _ => by rw [upd_at (by omega), if_pos (by omega)]; exact nI_ne0 (by omega) (by omega)) (by omega) (fun q hq => by rw [upd_at (by omega), if_neg (by omega)]; exact ho q hq) (by omega) hP hD hS hl
end
section
theorem lv28_ge {f : Nat → Int32} {o n : Nat} (h : Lm f o (n + 1)) (ht : f (o + n) ≠ 0) : 2 ^ (28 * n) ≤ lv28 f o (n + 1) := by
  obtain ⟨d, hd, e⟩ := h n (by omega)
  simp only [lv28]
  rw [e, nI_clamp (by omega)]
  have : 0 < d := Nat.pos_of_ne_zero fun e0 => ht (by rw [e, e0]; exact nI_0)
  have := Nat.le_mul_of_pos_left (2 ^ (28 * n)) this
  omega
theorem lv28_less {f g : Nat → Int32} {o p k : Nat} (n : Nat) (hk : k < n) (hf : Lm f o n) (he : ∀ q, k < q → q < n → f (o + q) = g (p + q)) (hl : (f (o + k)).toNatClampNeg < (g (p + k)).toNatClampNeg) : lv28 f o n < lv28 g p n := by
  induction n with
  | zero => omega
  | succ n ih =>
    simp only [lv28]
    by_cases e : k = n
    · subst e
      have h1 := lv28_lt (fun q hq => hf q (by omega) : Lm f o k)
      have h2 : (f (o + k)).toNatClampNeg * 2 ^ (28 * k) + 2 ^ (28 * k) ≤ (g (p + k)).toNatClampNeg * 2 ^ (28 * k) := by
        rw [← Nat.succ_mul]
        exact Nat.mul_le_mul_right _ hl
      omega
    · have := ih (by omega) (fun q hq => hf q (by omega)) (fun q h1 h2 => he q h1 (by omega))
      rw [he n (by omega) (by omega)]
      omega
/-- fewer limbs, a smaller number -/
theorem lv28_few {f g : Nat → Int32} {o p n k : Nat} (hf : Lm f o n) (hg : Lm g p k) (ht : g (p + (k - 1)) ≠ 0) (h : n < k) : lv28 f o n < lv28 g p k := by
  obtain ⟨k', rfl⟩ : ∃ k', k = k' + 1 := ⟨k - 1, by omega⟩
  have h1 := lv28_lt hf
  have h2 := lv28_ge hg (by simpa using ht)
  have h3 : 2 ^ (28 * n) ≤ 2 ^ (28 * k') := Nat.pow_le_pow_right (by omega) (by omega)
  omega
theorem limb_lt {f : Nat → Int32} {o n : Nat} (h : Lm f o n) {q : Nat} (hq : q < n) : 0 ≤ (f (o + q)).toInt ∧ (f (o + q)).toInt < 268435456 ∧ (f (o + q)).toNatClampNeg = (f (o + q)).toInt.toNat := by
  obtain ⟨d, hd, e⟩ := h q hq
  rw [e, nI_toInt (by omega), nI_clamp (by omega)]
  omega
theorem subT {x y : Int32} (hx : 0 ≤ x.toInt ∧ x.toInt < 1073741824) (hy : 0 ≤ y.toInt ∧ y.toInt < 1073741824) : (x - y).toInt = x.toInt - y.toInt := by
  obtain ⟨i, hi, rfl⟩ := of_toInt (k := 1073741824) hx.1 hx.2
  obtain ⟨j, hj, rfl⟩ := of_toInt (k := 1073741824) hy.1 hy.2
  rw [pk_sub_toInt hi hj, nI_toInt (by omega), nI_toInt (by omega)]
theorem m1T {k : Nat} (h : k < 2 ^ 30) : (nI k + (-1)).toInt = (k : Int) - 1 := by
  have e : nI k + (-1) = nI k - nI 1 := by rw [Int32.sub_eq_add_neg]; rfl
  rw [e, pk_sub_toInt h (by decide)]; rfl
theorem subB {x y : Int32} (hx : -1073741824 ≤ x.toInt ∧ x.toInt ≤ 1073741824) (hy : -1073741824 < y.toInt ∧ y.toInt < 1073741824) : (x - y).toInt = x.toInt - y.toInt := by
  rw [Int32.toInt_sub]
  exact Int.bmod_eq_of_le (by omega) (by omega)
theorem negB {x : Int32} (hx : -1073741824 ≤ x.toInt ∧ x.toInt ≤ 1073741824) : (-x).toInt = - x.toInt := by
  rw [Int32.toInt_neg]
  exact Int.bmod_eq_of_le (by omega) (by omega)
theorem sgT {x : Int} {y : Int32} (h : (x = 0 ∧ y = 0) ∨ (0 < x ∧ y = 1) ∨ (x < 0 ∧ y = -1)) : (x = 0 ∧ y.toInt = 0) ∨ (0 < x ∧ y.toInt = 1) ∨ (x < 0 ∧ y.toInt = -1) := by
  rcases h with ⟨h, rfl⟩ | ⟨h, rfl⟩ | ⟨h, rfl⟩
  · exact Or.inl ⟨h, by decide⟩
  · exact Or.inr (Or.inl ⟨h, by decide⟩)
  · exact Or.inr (Or.inr ⟨h, by decide⟩)
theorem mulS {x y : Int32} (hx : x.toInt = 1 ∨ x.toInt = -1) (hy : -1073741824 < y.toInt ∧ y.toInt < 1073741824) : (x * y).toInt = x.toInt * y.toInt := by
  rw [Int32.toInt_mul]
  rcases hx with h | h <;> rw [h] <;> exact Int.bmod_eq_of_le (by omega) (by omega)
end
section
theorem hd_yX12_sign_RX12 : yX12_sign.cls = RX12 ∧ yX12_sign.cls ≠ "java/lang/invoke/MethodHandle" ∧ yX12_sign.cls ≠ "java/lang/invoke/VarHandle" ∧ (parseMethodDescriptor yX12_sign.desc).map (fun d => d.parameters.length) = some 1 := by decide +kernel
theorem hd_yX12_bare_RX12 : yX12_bare.cls = RX12 ∧ yX12_bare.cls ≠ "java/lang/invoke/MethodHandle" ∧ yX12_bare.cls ≠ "java/lang/invoke/VarHandle" ∧ (parseMethodDescriptor yX12_bare.desc).map (fun d => d.parameters.length) = some 2 := by decide +kernel
theorem dX12_bare_0 : decode cX12_bare 0 = .ok (.aload_n 0, 1) := dk_42 (by decide +kernel)
theorem dX12_bare_1 : decode cX12_bare 1 = .ok (.getfield 7, 3) := dk_180 (by decide +kernel)
theorem dX12_bare_4 : decode cX12_bare 4 = .ok (.bipush 24, 2) := dk_16 (by decide +kernel)
theorem dX12_bare_6 : decode cX12_bare 6 = .ok (.iload_n 1, 1) := dk_27 (by decide +kernel)
theorem dX12_bare_7 : decode cX12_bare 7 = .ok (.imul, 1) := dk_104 (by decide +kernel)
theorem dX12_bare_8 : decode cX12_bare 8 = .ok (.iconst 1, 1) := dk_4 (by decide +kernel)
theorem dX12_bare_9 : decode cX12_bare 9 = .ok (.iadd, 1) := dk_96 (by decide +kernel)
theorem dX12_bare_10 : decode cX12_bare 10 = .ok (.iaload, 1) := dk_46 (by decide +kernel)
theorem dX12_bare_11 : decode cX12_bare 11 = .ok (.istore_n 3, 1) := dk_62 (by decide +kernel)
theorem dX12_bare_12 : decode cX12_bare 12 = .ok (.iload_n 3, 1) := dk_29 (by decide +kernel)
theorem dX12_bare_13 : decode cX12_bare 13 = .ok (.aload_n 0, 1) := dk_42 (by decide +kernel)
theorem dX12_bare_14 : decode cX12_bare 14 = .ok (.getfield 7, 3) := dk_180 (by decide +kernel)
theorem dX12_bare_17 : decode cX12_bare 17 = .ok (.bipush 24, 2) := dk_16 (by decide +kernel)
theorem dX12_bare_19 : decode cX12_bare 19 = .ok (.iload_n 2, 1) := dk_28 (by decide +kernel)
theorem dX12_bare_20 : decode cX12_bare 20 = .ok (.imul, 1) := dk_104 (by decide +kernel)
theorem dX12_bare_21 : decode cX12_bare 21 = .ok (.iconst 1, 1) := dk_4 (by decide +kernel)
theorem dX12_bare_22 : decode cX12_bare 22 = .ok (.iadd, 1) := dk_96 (by decide +kernel)
theorem dX12_bare_23 : decode cX12_bare 23 = .ok (.iaload, 1) := dk_46 (by decide +kernel)
theorem dX12_bare_24 : decode cX12_bare 24 = .ok (.if_icmp .eq 17, 3) := dk_159 (by decide +kernel)
theorem dX12_bare_27 : decode cX12_bare 27 = .ok (.iload_n 3, 1) := dk_29 (by decide +kernel)
theorem dX12_bare_28 : decode cX12_bare 28 = .ok (.aload_n 0, 1) := dk_42 (by decide +kernel)
theorem dX12_bare_29 : decode cX12_bare 29 = .ok (.getfield 7, 3) := dk_180 (by decide +kernel)
theorem dX12_bare_32 : decode cX12_bare 32 = .ok (.bipush 24, 2) := dk_16 (by decide +kernel)
theorem dX12_bare_34 : decode cX12_bare 34 = .ok (.iload_n 2, 1) := dk_28 (by decide +kernel)
theorem dX12_bare_35 : decode cX12_bare 35 = .ok (.imul, 1) := dk_104 (by decide +kernel)
theorem dX12_bare_36 : decode cX12_bare 36 = .ok (.iconst 1, 1) := dk_4 (by decide +kernel)
theorem dX12_bare_37 : decode cX12_bare 37 = .ok (.iadd, 1) := dk_96 (by decide +kernel)
theorem dX12_bare_38 : decode cX12_bare 38 = .ok (.iaload, 1) := dk_46 (by decide +kernel)
theorem dX12_bare_39 : decode cX12_bare 39 = .ok (.isub, 1) := dk_100 (by decide +kernel)
theorem dX12_bare_40 : decode cX12_bare 40 = .ok (.ireturn, 1) := dk_172 (by decide +kernel)
theorem dX12_bare_41 : decode cX12_bare 41 = .ok (.iload_n 3, 1) := dk_29 (by decide +kernel)
theorem dX12_bare_42 : decode cX12_bare 42 = .ok (.iconst 1, 1) := dk_4 (by decide +kernel)
theorem dX12_bare_43 : decode cX12_bare 43 = .ok (.isub, 1) := dk_100 (by decide +kernel)
theorem dX12_bare_44 : decode cX12_bare 44 = .ok (.istore 4, 2) := dk_54 (by decide +kernel)
theorem dX12_bare_46 : decode cX12_bare 46 = .ok (.iload 4, 2) := dk_21 (by decide +kernel)
theorem dX12_bare_48 : decode cX12_bare 48 = .ok (.ifCond .lt 70, 3) := dk_155 (by decide +kernel)
theorem dX12_bare_51 : decode cX12_bare 51 = .ok (.aload_n 0, 1) := dk_42 (by decide +kernel)
theorem dX12_bare_52 : decode cX12_bare 52 = .ok (.getfield 7, 3) := dk_180 (by decide +kernel)
theorem dX12_bare_55 : decode cX12_bare 55 = .ok (.bipush 24, 2) := dk_16 (by decide +kernel)
theorem dX12_bare_57 : decode cX12_bare 57 = .ok (.iload_n 1, 1) := dk_27 (by decide +kernel)
theorem dX12_bare_58 : decode cX12_bare 58 = .ok (.imul, 1) := dk_104 (by decide +kernel)
theorem dX12_bare_59 : decode cX12_bare 59 = .ok (.iconst 2, 1) := dk_5 (by decide +kernel)
theorem dX12_bare_60 : decode cX12_bare 60 = .ok (.iadd, 1) := dk_96 (by decide +kernel)
theorem dX12_bare_61 : decode cX12_bare 61 = .ok (.iload 4, 2) := dk_21 (by decide +kernel)
theorem dX12_bare_63 : decode cX12_bare 63 = .ok (.iadd, 1) := dk_96 (by decide +kernel)
theorem dX12_bare_64 : decode cX12_bare 64 = .ok (.iaload, 1) := dk_46 (by decide +kernel)
theorem dX12_bare_65 : decode cX12_bare 65 = .ok (.aload_n 0, 1) := dk_42 (by decide +kernel)
theorem dX12_bare_66 : decode cX12_bare 66 = .ok (.getfield 7, 3) := dk_180 (by decide +kernel)
theorem dX12_bare_69 : decode cX12_bare 69 = .ok (.bipush 24, 2) := dk_16 (by decide +kernel)
theorem dX12_bare_71 : decode cX12_bare 71 = .ok (.iload_n 2, 1) := dk_28 (by decide +kernel)
theorem dX12_bare_72 : decode cX12_bare 72 = .ok (.imul, 1) := dk_104 (by decide +kernel)
theorem dX12_bare_73 : decode cX12_bare 73 = .ok (.iconst 2, 1) := dk_5 (by decide +kernel)
theorem dX12_bare_74 : decode cX12_bare 74 = .ok (.iadd, 1) := dk_96 (by decide +kernel)
theorem dX12_bare_75 : decode cX12_bare 75 = .ok (.iload 4, 2) := dk_21 (by decide +kernel)
theorem dX12_bare_77 : decode cX12_bare 77 = .ok (.iadd, 1) := dk_96 (by decide +kernel)
theorem dX12_bare_78 : decode cX12_bare 78 = .ok (.iaload, 1) := dk_46 (by decide +kernel)
theorem dX12_bare_79 : decode cX12_bare 79 = .ok (.if_icmp .eq 33, 3) := dk_159 (by decide +kernel)
theorem dX12_bare_82 : decode cX12_bare 82 = .ok (.aload_n 0, 1) := dk_42 (by decide +kernel)
theorem dX12_bare_83 : decode cX12_bare 83 = .ok (.getfield 7, 3) := dk_180 (by decide +kernel)
theorem dX12_bare_86 : decode cX12_bare 86 = .ok (.bipush 24, 2) := dk_16 (by decide +kernel)
theorem dX12_bare_88 : decode cX12_bare 88 = .ok (.iload_n 1, 1) := dk_27 (by decide +kernel)
theorem dX12_bare_89 : decode cX12_bare 89 = .ok (.imul, 1) := dk_104 (by decide +kernel)
theorem dX12_bare_90 : decode cX12_bare 90 = .ok (.iconst 2, 1) := dk_5 (by decide +kernel)
theorem dX12_bare_91 : decode cX12_bare 91 = .ok (.iadd, 1) := dk_96 (by decide +kernel)
theorem dX12_bare_92 : decode cX12_bare 92 = .ok (.iload 4, 2) := dk_21 (by decide +kernel)
theorem dX12_bare_94 : decode cX12_bare 94 = .ok (.iadd, 1) := dk_96 (by decide +kernel)
theorem dX12_bare_95 : decode cX12_bare 95 = .ok (.iaload, 1) := dk_46 (by decide +kernel)
theorem dX12_bare_96 : decode cX12_bare 96 = .ok (.aload_n 0, 1) := dk_42 (by decide +kernel)
theorem dX12_bare_97 : decode cX12_bare 97 = .ok (.getfield 7, 3) := dk_180 (by decide +kernel)
theorem dX12_bare_100 : decode cX12_bare 100 = .ok (.bipush 24, 2) := dk_16 (by decide +kernel)
theorem dX12_bare_102 : decode cX12_bare 102 = .ok (.iload_n 2, 1) := dk_28 (by decide +kernel)
theorem dX12_bare_103 : decode cX12_bare 103 = .ok (.imul, 1) := dk_104 (by decide +kernel)
theorem dX12_bare_104 : decode cX12_bare 104 = .ok (.iconst 2, 1) := dk_5 (by decide +kernel)
theorem dX12_bare_105 : decode cX12_bare 105 = .ok (.iadd, 1) := dk_96 (by decide +kernel)
theorem dX12_bare_106 : decode cX12_bare 106 = .ok (.iload 4, 2) := dk_21 (by decide +kernel)
theorem dX12_bare_108 : decode cX12_bare 108 = .ok (.iadd, 1) := dk_96 (by decide +kernel)
theorem dX12_bare_109 : decode cX12_bare 109 = .ok (.iaload, 1) := dk_46 (by decide +kernel)
theorem dX12_bare_110 : decode cX12_bare 110 = .ok (.isub, 1) := dk_100 (by decide +kernel)
theorem dX12_bare_111 : decode cX12_bare 111 = .ok (.ireturn, 1) := dk_172 (by decide +kernel)
theorem dX12_bare_112 : decode cX12_bare 112 = .ok (.iinc 4 (-1), 3) := dk_132 (by decide +kernel)
theorem dX12_bare_115 : decode cX12_bare 115 = .ok (.goto (-69), 3) := dk_167 (by decide +kernel)
theorem dX12_bare_118 : decode cX12_bare 118 = .ok (.iconst 0, 1) := dk_3 (by decide +kernel)
theorem dX12_bare_119 : decode cX12_bare 119 = .ok (.ireturn, 1) := dk_172 (by decide +kernel)
def wsRX12_bare : List Cond := .code yX12_bare cX12_bare 5 (some .int) :: ([.fieldLink RX12 7 "OptimaWorksModel" "big" "[I"] ++ wsX120)
theorem iwsRX12_bare_in12 : ∀ w ∈ wsX120, w ∈ wsRX12_bare := fun _ h => List.mem_cons_of_mem _ (List.mem_append_right _ h)
set_option maxHeartbeats 4000000 in
set_option maxRecDepth 100000 in
/-- bare(a, b) -/
theorem r_X12_bare (l : Launch) (dC : Nat → ClassId) (dI : Nat → Nat → Nat) (a : Nat → Nat) (k : Nat → ClassId) (h0 : Nat) (vi : Nat → Int32) (vj : Nat → Int64) (vF : Nat → Nat → Int32) (vG : Nat → Nat → Int64) (an : Nat) (bn : Nat) (xa : Int) (xb : Int) (hna : an < 1100) (hnb : bn < 1100) (hxa : Nu (vF 0) an xa) (hxb : Nu (vF 0) bn xb) (sz : Nat) : Met l yX12_bare wsRX12_bare ({ frames := 0, cells := 0, slots := 0, locals := 0 }) (va_Pc [.ref h0, .int (nI an), .int (nI bn)] (fun U => U.heap.size = sz ∧ va_P (dC, dI) vwCl (WR a k h0 vi vj vF vG) U.heap ∧ va_K (dC, dI) vwCl (tX12 k) U ∧ va_D (fun _ => True) (WR a k h0 vi vj vF vG))) (va_Qi (fun (r : Int32) (u : Unit) => (((r).toInt < 0 ∧ (xa).natAbs < (xb).natAbs) ∨ ((r).toInt = 0 ∧ (xa).natAbs = (xb).natAbs) ∨ (0 < (r).toInt ∧ (xb).natAbs < (xa).natAbs)) ∧ (-1073741824 < (r).toInt ∧ (r).toInt < 1073741824)) (fun (u : Unit) t => va_P (dC, dI) vwCl (WR a k h0 vi vj vF vG) t.heap ∧ va_D (va_A (WR a k h0 vi vj vF vG) sz) (WR a k h0 vi vj vF vG)) (va_A (WR a k h0 vi vj vF vG) sz)) 0 0 (va_A (WR a k h0 vi vj vF vG) sz) := by
  refine Met.ofW (cc := cX12_bare) (maxL := 5) (ret := (some .int)) (by decide) rfl ?_
  intro p e s m args below meth c s₁ B hml hv
  obtain ⟨rfl, hsz, hP, hK, hD0⟩ := hv
  have hx := B.exec
  have hb := B.bytes
  have hr := B.returns
  have hts := atoms_spec (ws := wsRX12_bare) B.pre
  have hown : s.vm.findClass RX12 = some m.cls := findClass_of_methodNamed B.named
  have hlocks := B.notSynchronized
  subst hsz
  have hD := hD0.self (sz := s.heap.size)
  generalize hAe : va_A (WR a k h0 vi vj vF vG) s.heap.size = A at hD ⊢
  have hA : ∀ q : Nat, s.heap.size ≤ q → A q := fun q h => by rw [← hAe]; exact Or.inr h
  have hS : va_S A s.heap s.heap [] := va_S.rf
  have hl := lv_entry ([.ref h0, .int (nI an), .int (nI bn)]) (n := 5) (Nat.le_of_ble_eq_true rfl)
  rw [lg_entry_eq]
  generalize (lg_sl ([.ref h0, .int (nI an), .int (nI bn)]) ++ List.replicate (5 - (lg_sl ([.ref h0, .int (nI an), .int (nI bn)])).length) Slot.unset).toArray = ls at hl ⊢
  have hl : lv_has ls 5 [(0, .ref h0), (1, .int (nI an)), (2, .int (nI bn))] := hl
  obtain ⟨na, hna1, hna2, hna3, hna4, hna5, hna6⟩ := id hxa
  obtain ⟨nb_, hnb1, hnb2, hnb3, hnb4, hnb5, hnb6⟩ := id hxb
  refine lv_aload_n hx hb dX12_bare_0 rfl (lv_at hl 0 rfl) ?_
  refine va_get (D := (dC, dI)) (ci := 12) (v := .ref (a 0)) (C := RX12) (T := TX12) (N := 163) (fs := fM (vS a vi vj)) hx hb hts iwsRX12_bare_in12 hown hK hP 0 rfl rfl 1 (by decide) (hts (.fieldLink RX12 7 "OptimaWorksModel" "big" "[I") (by decide +kernel)) (fun _ h9 => h9) rfl dX12_bare_1 ?_
  refine lv_bipush (v := 24) hx hb dX12_bare_4 (by decide) ?_
  refine lv_iload_n hx hb dX12_bare_6 rfl (lv_at hl 1 rfl) ?_
  refine lv_imul hx hb dX12_bare_7 ?_
  refine lv_topi (fun y1 hy1 => ?_)
  obtain rfl : (nI (24 * an)) = y1 := (hy1.trans (pk_mul 24 an)).symm
  refine lv_iconst (v := 1) hx hb dX12_bare_8 (by decide) ?_
  refine lv_iadd hx hb dX12_bare_9 ?_
  refine lv_topi (fun y2 hy2 => ?_)
  obtain rfl : (nI ((24 * an) + 1)) = y2 := (hy2.trans (nI_add (24 * an) 1)).symm
  refine va_iald (cA := k 0) (n := 26400) (f := (vF 0)) hx hb hK hP 1 0 (WR_get 0 (by decide)) (TR_get 0 (by decide)) (vp_in_nI (show ((24 * an) + 1) < 26400 by omega) (by omega)) dX12_bare_10 ?_
  refine lv_topi (fun y3 hy3 => ?_)
  obtain rfl : ((vF 0) ((24 * an) + 1)) = y3 := (hy3.trans (by rw [nI_clamp (by omega)])).symm
  refine lv_topi (fun y4 hy4 => ?_)
  obtain rfl : (nI na) = y4 := (hy4.trans (hna2)).symm
  refine lv_istore_n hx hb dX12_bare_11 rfl hl (by decide) rfl (fun ls (hl : lv_has ls _ ([(3, .int (nI na)), (0, .ref h0), (1, .int (nI an)), (2, .int (nI bn))])) => ?_)
  refine lv_iload_n hx hb dX12_bare_12 rfl (lv_at hl 0 rfl) ?_
  refine lv_aload_n hx hb dX12_bare_13 rfl (lv_at hl 1 rfl) ?_
  refine va_get (D := (dC, dI)) (ci := 12) (v := .ref (a 0)) (C := RX12) (T := TX12) (N := 163) (fs := fM (vS a vi vj)) hx hb hts iwsRX12_bare_in12 hown hK hP 0 rfl rfl 1 (by decide) (hts (.fieldLink RX12 7 "OptimaWorksModel" "big" "[I") (by decide +kernel)) (fun _ h9 => h9) rfl dX12_bare_14 ?_
  refine lv_bipush (v := 24) hx hb dX12_bare_17 (by decide) ?_
  refine lv_iload_n hx hb dX12_bare_19 rfl (lv_at hl 3 rfl) ?_
  refine lv_imul hx hb dX12_bare_20 ?_
  refine lv_topi (fun y5 hy5 => ?_)
  obtain rfl : (nI (24 * bn)) = y5 := (hy5.trans (pk_mul 24 bn)).symm
  refine lv_iconst (v := 1) hx hb dX12_bare_21 (by decide) ?_
  refine lv_iadd hx hb dX12_bare_22 ?_
  refine lv_topi (fun y6 hy6 => ?_)
  obtain rfl : (nI ((24 * bn) + 1)) = y6 := (hy6.trans (nI_add (24 * bn) 1)).symm
  refine va_iald (cA := k 0) (n := 26400) (f := (vF 0)) hx hb hK hP 1 0 (WR_get 0 (by decide)) (TR_get 0 (by decide)) (vp_in_nI (show ((24 * bn) + 1) < 26400 by omega) (by omega)) dX12_bare_23 ?_
  refine lv_topi (fun y7 hy7 => ?_)
  obtain rfl : ((vF 0) ((24 * bn) + 1)) = y7 := (hy7.trans (by rw [nI_clamp (by omega)])).symm
  refine lv_topi (fun y8 hy8 => ?_)
  obtain rfl : (nI nb_) = y8 := (hy8.trans (hnb2)).symm
  refine lv_icmp_eq (tgt := 41) hx hb dX12_bare_24 (by decide) (fun c_24 => ?_) (fun c_24 => ?_)
  · have t_24 : ((na : Nat) : Int) = ((nb_ : Nat) : Int) := toI_eq c_24 (nI_toInt (by omega)) (nI_toInt (by omega))
    refine lv_iload_n hx hb dX12_bare_41 rfl (lv_at hl 0 rfl) ?_
    refine lv_iconst (v := 1) hx hb dX12_bare_42 (by decide) ?_
    refine lv_isub hx hb dX12_bare_43 ?_
    refine lv_istore hx hb dX12_bare_44 hl (by decide) rfl (fun ls (hl : lv_has ls _ ([(4, .int ((nI na) - 1)), (3, .int (nI na)), (0, .ref h0), (1, .int (nI an)), (2, .int (nI bn))])) => ?_)
    have hl : lv_has _ _ ([(4, .int ((nI na) - 1)), (0, .ref h0), (1, .int (nI an)), (2, .int (nI bn))]) := lv_sub hl [0, 2, 3, 4] rfl
    refine (fun (loop : ∀ (n9 : Nat) (kq : Int32) (kk1 : Nat) (H : Heap) (locs : List Loc) (ls : Array Slot), ((kq).toInt = (kk1 : Int) - 1) → (kk1 ≤ na) → (∀ q, kk1 ≤ q → q < na → vF 0 (24 * an + 2 + q) = vF 0 (24 * bn + 2 + q)) →  (kk1 < n9) → va_P (dC, dI) vwCl (WR a k h0 vi vj vF vG) H → va_D A (WR a k h0 vi vj vF vG) → va_S A s.heap H locs → lv_has ls 5 [(4, .int kq), (0, .ref h0), (1, .int (nI an)), (2, .int (nI bn))] → W p l e _ s m _ below meth c H locs 0 0 _ (F0 m 46 ls [])) => loop (na + 1) ((nI na) - 1) na _ _ _ (by exact pk_sub_toInt (a := na) (b := 1) (by omega) (by omega)) (by omega) (fun q h1 h2 => absurd h1 (by omega)) (by omega) hP hD hS hl) ?_
    intro n9
    induction n9 with
    | zero => intro kq kk1 H locs ls hkq hkn heq hf9; exact False.elim (by omega)
    | succ n9 ih46 =>
      intro kq kk1 H locs ls hkq hkn heq hf46 hP hD hS hl
      refine lv_iload hx hb dX12_bare_46 (lv_at hl 0 rfl) ?_
      refine lv_if_lt (tgt := 118) hx hb dX12_bare_48 (by decide) (fun c_48 => ?_) (fun c_48 => ?_)
      · have t_48 : (kq).toInt < 0 := toI_lt c_48 rfl (by decide)
        refine lv_iconst (v := 0) hx hb dX12_bare_118 (by decide) ?_
        refine W.widen (k := 0) (n := 0) (by decide +kernel) (by decide +kernel) ?_
        exact W.iret (v := 0) hx hb hr (fun t9_ ht hW => ⟨⟨0, (), rfl, by (try dsimp only); exact ⟨by (have en : nb_ = na := by omega); exact Or.inr (Or.inl ⟨by decide, by rw [hna5, hnb5, en]; exact lv28_congr (fun q hq => heq q (by omega) hq)⟩), by decide⟩, by rw [ht]; exact hP, hD⟩, hS.F ht⟩) hS.2.2 dX12_bare_119
      · have t_48 : ¬ (kq).toInt < 0 := toI_nlt c_48 rfl (by decide)
        obtain ⟨kk, h_kk, rfl⟩ := of_toInt (x := kq) (k := 23) (by omega) (by omega)
        have e_kk : (nI kk).toInt = (kk : Int) := nI_toInt (by omega)
        refine lv_aload_n hx hb dX12_bare_51 rfl (lv_at hl 1 rfl) ?_
        refine va_get (D := (dC, dI)) (ci := 12) (v := .ref (a 0)) (C := RX12) (T := TX12) (N := 163) (fs := fM (vS a vi vj)) hx hb hts iwsRX12_bare_in12 hown hK hP 0 rfl rfl 1 (by decide) (hts (.fieldLink RX12 7 "OptimaWorksModel" "big" "[I") (by decide +kernel)) (fun _ h9 => h9) rfl dX12_bare_52 ?_
        refine lv_bipush (v := 24) hx hb dX12_bare_55 (by decide) ?_
        refine lv_iload_n hx hb dX12_bare_57 rfl (lv_at hl 2 rfl) ?_
        refine lv_imul hx hb dX12_bare_58 ?_
        refine lv_topi (fun y9 hy9 => ?_)
        obtain rfl : (nI (24 * an)) = y9 := (hy9.trans (pk_mul 24 an)).symm
        refine lv_iconst (v := 2) hx hb dX12_bare_59 (by decide) ?_
        refine lv_iadd hx hb dX12_bare_60 ?_
        refine lv_topi (fun y10 hy10 => ?_)
        obtain rfl : (nI ((24 * an) + 2)) = y10 := (hy10.trans (nI_add (24 * an) 2)).symm
        refine lv_iload hx hb dX12_bare_61 (lv_at hl 0 rfl) ?_
        refine lv_iadd hx hb dX12_bare_63 ?_
        refine lv_topi (fun y11 hy11 => ?_)
        obtain rfl : (nI (((24 * an) + 2) + kk)) = y11 := (hy11.trans (nI_add ((24 * an) + 2) kk)).symm
        refine va_iald (cA := k 0) (n := 26400) (f := (vF 0)) hx hb hK hP 1 0 (WR_get 0 (by decide)) (TR_get 0 (by decide)) (vp_in_nI (show (((24 * an) + 2) + kk) < 26400 by omega) (by omega)) dX12_bare_64 ?_
        refine lv_topi (fun y12 hy12 => ?_)
        obtain rfl : ((vF 0) (((24 * an) + 2) + kk)) = y12 := (hy12.trans (by rw [nI_clamp (by omega)])).symm
        refine lv_aload_n hx hb dX12_bare_65 rfl (lv_at hl 1 rfl) ?_
        refine va_get (D := (dC, dI)) (ci := 12) (v := .ref (a 0)) (C := RX12) (T := TX12) (N := 163) (fs := fM (vS a vi vj)) hx hb hts iwsRX12_bare_in12 hown hK hP 0 rfl rfl 1 (by decide) (hts (.fieldLink RX12 7 "OptimaWorksModel" "big" "[I") (by decide +kernel)) (fun _ h9 => h9) rfl dX12_bare_66 ?_
        refine lv_bipush (v := 24) hx hb dX12_bare_69 (by decide) ?_
        refine lv_iload_n hx hb dX12_bare_71 rfl (lv_at hl 3 rfl) ?_
        refine lv_imul hx hb dX12_bare_72 ?_
        refine lv_topi (fun y13 hy13 => ?_)
        obtain rfl : (nI (24 * bn)) = y13 := (hy13.trans (pk_mul 24 bn)).symm
        refine lv_iconst (v := 2) hx hb dX12_bare_73 (by decide) ?_
        refine lv_iadd hx hb dX12_bare_74 ?_
        refine lv_topi (fun y14 hy14 => ?_)
        obtain rfl : (nI ((24 * bn) + 2)) = y14 := (hy14.trans (nI_add (24 * bn) 2)).symm
        refine lv_iload hx hb dX12_bare_75 (lv_at hl 0 rfl) ?_
        refine lv_iadd hx hb dX12_bare_77 ?_
        refine lv_topi (fun y15 hy15 => ?_)
        obtain rfl : (nI (((24 * bn) + 2) + kk)) = y15 := (hy15.trans (nI_add ((24 * bn) + 2) kk)).symm
        refine va_iald (cA := k 0) (n := 26400) (f := (vF 0)) hx hb hK hP 1 0 (WR_get 0 (by decide)) (TR_get 0 (by decide)) (vp_in_nI (show (((24 * bn) + 2) + kk) < 26400 by omega) (by omega)) dX12_bare_78 ?_
        refine lv_topi (fun y16 hy16 => ?_)
        obtain rfl : ((vF 0) (((24 * bn) + 2) + kk)) = y16 := (hy16.trans (by rw [nI_clamp (by omega)])).symm
        refine lv_icmp_eq (tgt := 112) hx hb dX12_bare_79 (by decide) (fun c_79 => ?_) (fun c_79 => ?_)
        · have t_79 : (((vF 0) (((24 * an) + 2) + kk))).toInt = (((vF 0) (((24 * bn) + 2) + kk))).toInt := toI_eq c_79 rfl rfl
          refine lv_iinc (v := ((nI kk) + (-1))) hx hb dX12_bare_112 hl (k := 0) rfl rfl (by decide) rfl (fun ls (hl : lv_has ls _ ([(4, .int ((nI kk) + (-1))), (0, .ref h0), (1, .int (nI an)), (2, .int (nI bn))])) => ?_)
          refine lv_goto (tgt := 46) hx hb dX12_bare_115 (by decide) ?_
          have hl : lv_has _ _ ([(4, .int ((nI kk) + (-1))), (0, .ref h0), (1, .int (nI an)), (2, .int (nI bn))]) := lv_sub hl [0, 1, 2, 3] rfl
          exact ih46 ((nI kk) + (-1)) (kk1 - 1) _ _ _ (by rw [m1T (by omega)]; omega) (by omega) (fun q h1 h2 => by by_cases e9 : q = kk; (rw [e9]; exact c_79); (exact heq q (by omega) h2)) (by omega) hP hD hS hl
        · have t_79 : ¬ (((vF 0) (((24 * an) + 2) + kk))).toInt = (((vF 0) (((24 * bn) + 2) + kk))).toInt := toI_neq c_79 rfl rfl
          have l1 := limb_lt hna3 (q := kk) (by omega)
          have l2 := limb_lt hnb3 (q := kk) (by omega)
          refine lv_aload_n hx hb dX12_bare_82 rfl (lv_at hl 1 rfl) ?_
          refine va_get (D := (dC, dI)) (ci := 12) (v := .ref (a 0)) (C := RX12) (T := TX12) (N := 163) (fs := fM (vS a vi vj)) hx hb hts iwsRX12_bare_in12 hown hK hP 0 rfl rfl 1 (by decide) (hts (.fieldLink RX12 7 "OptimaWorksModel" "big" "[I") (by decide +kernel)) (fun _ h9 => h9) rfl dX12_bare_83 ?_
          refine lv_bipush (v := 24) hx hb dX12_bare_86 (by decide) ?_
          refine lv_iload_n hx hb dX12_bare_88 rfl (lv_at hl 2 rfl) ?_
          refine lv_imul hx hb dX12_bare_89 ?_
          refine lv_topi (fun y17 hy17 => ?_)
          obtain rfl : (nI (24 * an)) = y17 := (hy17.trans (pk_mul 24 an)).symm
          refine lv_iconst (v := 2) hx hb dX12_bare_90 (by decide) ?_
          refine lv_iadd hx hb dX12_bare_91 ?_
          refine lv_topi (fun y18 hy18 => ?_)
          obtain rfl : (nI ((24 * an) + 2)) = y18 := (hy18.trans (nI_add (24 * an) 2)).symm
          refine lv_iload hx hb dX12_bare_92 (lv_at hl 0 rfl) ?_
          refine lv_iadd hx hb dX12_bare_94 ?_
          refine lv_topi (fun y19 hy19 => ?_)
          obtain rfl : (nI (((24 * an) + 2) + kk)) = y19 := (hy19.trans (nI_add ((24 * an) + 2) kk)).symm
          refine va_iald (cA := k 0) (n := 26400) (f := (vF 0)) hx hb hK hP 1 0 (WR_get 0 (by decide)) (TR_get 0 (by decide)) (vp_in_nI (show (((24 * an) + 2) + kk) < 26400 by omega) (by omega)) dX12_bare_95 ?_
          refine lv_topi (fun y20 hy20 => ?_)
          obtain rfl : ((vF 0) (((24 * an) + 2) + kk)) = y20 := (hy20.trans (by rw [nI_clamp (by omega)])).symm
          refine lv_aload_n hx hb dX12_bare_96 rfl (lv_at hl 1 rfl) ?_
          refine va_get (D := (dC, dI)) (ci := 12) (v := .ref (a 0)) (C := RX12) (T := TX12) (N := 163) (fs := fM (vS a vi vj)) hx hb hts iwsRX12_bare_in12 hown hK hP 0 rfl rfl 1 (by decide) (hts (.fieldLink RX12 7 "OptimaWorksModel" "big" "[I") (by decide +kernel)) (fun _ h9 => h9) rfl dX12_bare_97 ?_
          refine lv_bipush (v := 24) hx hb dX12_bare_100 (by decide) ?_
          refine lv_iload_n hx hb dX12_bare_102 rfl (lv_at hl 3 rfl) ?_
          refine lv_imul hx hb dX12_bare_103 ?_
          refine lv_topi (fun y21 hy21 => ?_)
          obtain rfl : (nI (24 * bn)) = y21 := (hy21.trans (pk_mul 24 bn)).symm
          refine lv_iconst (v := 2) hx hb dX12_bare_104 (by decide) ?_
          refine lv_iadd hx hb dX12_bare_105 ?_
          refine lv_topi (fun y22 hy22 => ?_)
          obtain rfl : (nI ((24 * bn) + 2)) = y22 := (hy22.trans (nI_add (24 * bn) 2)).symm
          refine lv_iload hx hb dX12_bare_106 (lv_at hl 0 rfl) ?_
          refine lv_iadd hx hb dX12_bare_108 ?_
          refine lv_topi (fun y23 hy23 => ?_)
          obtain rfl : (nI (((24 * bn) + 2) + kk)) = y23 := (hy23.trans (nI_add ((24 * bn) + 2) kk)).symm
          refine va_iald (cA := k 0) (n := 26400) (f := (vF 0)) hx hb hK hP 1 0 (WR_get 0 (by decide)) (TR_get 0 (by decide)) (vp_in_nI (show (((24 * bn) + 2) + kk) < 26400 by omega) (by omega)) dX12_bare_109 ?_
          refine lv_topi (fun y24 hy24 => ?_)
          obtain rfl : ((vF 0) (((24 * bn) + 2) + kk)) = y24 := (hy24.trans (by rw [nI_clamp (by omega)])).symm
          refine lv_isub hx hb dX12_bare_110 ?_
          refine W.widen (k := 0) (n := 0) (by decide +kernel) (by decide +kernel) ?_
          exact W.iret (v := (((vF 0) (((24 * an) + 2) + kk)) - ((vF 0) (((24 * bn) + 2) + kk)))) hx hb hr (fun t9_ ht hW => ⟨⟨(((vF 0) (((24 * an) + 2) + kk)) - ((vF 0) (((24 * bn) + 2) + kk))), (), rfl, by (try dsimp only); exact ⟨by (have en : nb_ = na := by omega); (have hb3 : Lm (vF 0) (24 * bn + 2) na := by rw [← en]; exact hnb3); (have hb5 : xb.natAbs = lv28 (vF 0) (24 * bn + 2) na := by rw [← en]; exact hnb5); (have e9 : (vF 0 (24 * an + 2 + kk) - vF 0 (24 * bn + 2 + kk)).toInt = (vF 0 (24 * an + 2 + kk)).toInt - (vF 0 (24 * bn + 2 + kk)).toInt := subT ⟨by omega, by omega⟩ ⟨by omega, by omega⟩); rcases Int.lt_or_le (vF 0 (24 * an + 2 + kk)).toInt (vF 0 (24 * bn + 2 + kk)).toInt with h9 | h9; (exact Or.inl ⟨by omega, by rw [hna5, hb5]; exact lv28_less na (k := kk) (by omega) hna3 (fun q h1 h2 => heq q (by omega) h2) (by omega)⟩); (exact Or.inr (Or.inr ⟨by omega, by rw [hna5, hb5]; exact lv28_less na (k := kk) (by omega) hb3 (fun q h1 h2 => (heq q (by omega) h2).symm) (by omega)⟩)), by (have e9 : (vF 0 (24 * an + 2 + kk) - vF 0 (24 * bn + 2 + kk)).toInt = (vF 0 (24 * an + 2 + kk)).toInt - (vF 0 (24 * bn + 2 + kk)).toInt := subT ⟨by omega, by omega⟩ ⟨by omega, by omega⟩); omega⟩, by rw [ht]; exact hP, hD⟩, hS.F ht⟩) hS.2.2 dX12_bare_111
  · have t_24 : ¬ ((na : Nat) : Int) = ((nb_ : Nat) : Int) := toI_neq c_24 (nI_toInt (by omega)) (nI_toInt (by omega))
    refine lv_iload_n hx hb dX12_bare_27 rfl (lv_at hl 0 rfl) ?_
    refine lv_aload_n hx hb dX12_bare_28 rfl (lv_at hl 1 rfl) ?_
    refine va_get (D := (dC, dI)) (ci := 12) (v := .ref (a 0)) (C := RX12) (T := TX12) (N := 163) (fs := fM (vS a vi vj)) hx hb hts iwsRX12_bare_in12 hown hK hP 0 rfl rfl 1 (by decide) (hts (.fieldLink RX12 7 "OptimaWorksModel" "big" "[I") (by decide +kernel)) (fun _ h9 => h9) rfl dX12_bare_29 ?_
    refine lv_bipush (v := 24) hx hb dX12_bare_32 (by decide) ?_
    refine lv_iload_n hx hb dX12_bare_34 rfl (lv_at hl 3 rfl) ?_
    refine lv_imul hx hb dX12_bare_35 ?_
    refine lv_topi (fun y25 hy25 => ?_)
    obtain rfl : (nI (24 * bn)) = y25 := (hy25.trans (pk_mul 24 bn)).symm
    refine lv_iconst (v := 1) hx hb dX12_bare_36 (by decide) ?_
    refine lv_iadd hx hb dX12_bare_37 ?_
    refine lv_topi (fun y26 hy26 => ?_)
    obtain rfl : (nI ((24 * bn) + 1)) = y26 := (hy26.trans (nI_add (24 * bn) 1)).symm
    refine va_iald (cA := k 0) (n := 26400) (f := (vF 0)) hx hb hK hP 1 0 (WR_get 0 (by decide)) (TR_get 0 (by decide)) (vp_in_nI (show ((24 * bn) + 1) < 26400 by omega) (by omega)) dX12_bare_38 ?_
    refine lv_topi (fun y27 hy27 => ?_)
    obtain rfl : ((vF 0) ((24 * bn) + 1)) = y27 := (hy27.trans (by rw [nI_clamp (by omega)])).symm
    refine lv_topi (fun y28 hy28 => ?_)
    obtain rfl : (nI nb_) = y28 := (hy28.trans (hnb2)).symm
    refine lv_isub hx hb dX12_bare_39 ?_
    refine W.widen (k := 0) (n := 0) (by decide +kernel) (by decide +kernel) ?_
    exact W.iret (v := ((nI na) - (nI nb_))) hx hb hr (fun t9_ ht hW => ⟨⟨((nI na) - (nI nb_)), (), rfl, by (try dsimp only); exact ⟨by (have e9 : (nI na - nI nb_).toInt = (na : Int) - nb_ := pk_sub_toInt (by omega) (by omega)); rcases Nat.lt_or_ge na nb_ with h9 | h9; (exact Or.inl ⟨by omega, by rw [hna5, hnb5]; exact lv28_few hna3 hnb3 (by rw [show 24 * bn + 2 + (nb_ - 1) = 24 * bn + 1 + nb_ by omega]; exact hnb4 (by omega)) h9⟩); (exact Or.inr (Or.inr ⟨by omega, by rw [hna5, hnb5]; exact lv28_few hnb3 hna3 (by rw [show 24 * an + 2 + (na - 1) = 24 * an + 1 + na by omega]; exact hna4 (by omega)) (by omega)⟩)), by (have e9 : (nI na - nI nb_).toInt = (na : Int) - nb_ := pk_sub_toInt (by omega) (by omega)); omega⟩, by rw [ht]; exact hP, hD⟩, hS.F ht⟩) hS.2.2 dX12_bare_40
theorem dX12_compare_0 : decode cX12_compare 0 = .ok (.aload_n 0, 1) := dk_42 (by decide +kernel)
theorem dX12_compare_1 : decode cX12_compare 1 = .ok (.iload_n 1, 1) := dk_27 (by decide +kernel)
theorem dX12_compare_2 : decode cX12_compare 2 = .ok (.invokevirtual 353, 3) := dk_182 (by decide +kernel)
theorem dX12_compare_5 : decode cX12_compare 5 = .ok (.istore_n 3, 1) := dk_62 (by decide +kernel)
theorem dX12_compare_6 : decode cX12_compare 6 = .ok (.aload_n 0, 1) := dk_42 (by decide +kernel)
theorem dX12_compare_7 : decode cX12_compare 7 = .ok (.iload_n 2, 1) := dk_28 (by decide +kernel)
theorem dX12_compare_8 : decode cX12_compare 8 = .ok (.invokevirtual 353, 3) := dk_182 (by decide +kernel)
theorem dX12_compare_11 : decode cX12_compare 11 = .ok (.istore 4, 2) := dk_54 (by decide +kernel)
theorem dX12_compare_13 : decode cX12_compare 13 = .ok (.iload_n 3, 1) := dk_29 (by decide +kernel)
theorem dX12_compare_14 : decode cX12_compare 14 = .ok (.iload 4, 2) := dk_21 (by decide +kernel)
theorem dX12_compare_16 : decode cX12_compare 16 = .ok (.if_icmp .eq 10, 3) := dk_159 (by decide +kernel)
theorem dX12_compare_19 : decode cX12_compare 19 = .ok (.iload_n 3, 1) := dk_29 (by decide +kernel)
theorem dX12_compare_20 : decode cX12_compare 20 = .ok (.iload 4, 2) := dk_21 (by decide +kernel)
theorem dX12_compare_22 : decode cX12_compare 22 = .ok (.isub, 1) := dk_100 (by decide +kernel)
theorem dX12_compare_23 : decode cX12_compare 23 = .ok (.goto 19, 3) := dk_167 (by decide +kernel)
theorem dX12_compare_26 : decode cX12_compare 26 = .ok (.iload_n 3, 1) := dk_29 (by decide +kernel)
theorem dX12_compare_27 : decode cX12_compare 27 = .ok (.ifCond .ne 7, 3) := dk_154 (by decide +kernel)
theorem dX12_compare_30 : decode cX12_compare 30 = .ok (.iconst 0, 1) := dk_3 (by decide +kernel)
theorem dX12_compare_31 : decode cX12_compare 31 = .ok (.goto 11, 3) := dk_167 (by decide +kernel)
theorem dX12_compare_34 : decode cX12_compare 34 = .ok (.iload_n 3, 1) := dk_29 (by decide +kernel)
theorem dX12_compare_35 : decode cX12_compare 35 = .ok (.aload_n 0, 1) := dk_42 (by decide +kernel)
theorem dX12_compare_36 : decode cX12_compare 36 = .ok (.iload_n 1, 1) := dk_27 (by decide +kernel)
theorem dX12_compare_37 : decode cX12_compare 37 = .ok (.iload_n 2, 1) := dk_28 (by decide +kernel)
theorem dX12_compare_38 : decode cX12_compare 38 = .ok (.invokevirtual 357, 3) := dk_182 (by decide +kernel)
theorem dX12_compare_41 : decode cX12_compare 41 = .ok (.imul, 1) := dk_104 (by decide +kernel)
theorem dX12_compare_42 : decode cX12_compare 42 = .ok (.ireturn, 1) := dk_172 (by decide +kernel)
def wsRX12_compare : List Cond := .code yX12_compare cX12_compare 5 (some .int) :: ([] ++ wsX120 ++ (wsV RX12 353 RX12 yX12_sign wsRX12_sign) ++ (wsV RX12 357 RX12 yX12_bare wsRX12_bare))
theorem iwsRX12_compare_in12 : ∀ w ∈ wsX120, w ∈ wsRX12_compare := fun _ h => List.mem_cons_of_mem _ (List.mem_append_left _ (List.mem_append_left _ (List.mem_append_right _ h)))
theorem gwsRX12_compare_0 : GoodIn wsRX12_compare (wsV RX12 353 RX12 yX12_sign wsRX12_sign) := goodIn_sub (fun _ h => List.mem_cons_of_mem _ (List.mem_append_left _ (List.mem_append_right _ h))) (by decide +kernel)
theorem gwsRX12_compare_1 : GoodIn wsRX12_compare (wsV RX12 357 RX12 yX12_bare wsRX12_bare) := goodIn_sub (fun _ h => List.mem_cons_of_mem _ (List.mem_append_right _ h)) (by decide +kernel)
set_option maxHeartbeats 4000000 in
set_option maxRecDepth 100000 in
/-- compare(a, b) -/
theorem r_X12_compare (l : Launch) (dC : Nat → ClassId) (dI : Nat → Nat → Nat) (a : Nat → Nat) (k : Nat → ClassId) (h0 : Nat) (vi : Nat → Int32) (vj : Nat → Int64) (vF : Nat → Nat → Int32) (vG : Nat → Nat → Int64) (an : Nat) (bn : Nat) (xa : Int) (xb : Int) (hna : an < 1100) (hnb : bn < 1100) (hxa : Nu (vF 0) an xa) (hxb : Nu (vF 0) bn xb) (sz : Nat) : Met l yX12_compare wsRX12_compare ({ frames := 1, cells := 0, slots := 0, locals := 24 }) (va_Pc [.ref h0, .int (nI an), .int (nI bn)] (fun U => U.heap.size = sz ∧ va_P (dC, dI) vwCl (WR a k h0 vi vj vF vG) U.heap ∧ va_K (dC, dI) vwCl (tX12 k) U ∧ va_D (fun _ => True) (WR a k h0 vi vj vF vG))) (va_Qi (fun (r : Int32) (u : Unit) => (((r).toInt < 0 ∧ xa < xb) ∨ ((r).toInt = 0 ∧ xa = xb) ∨ (0 < (r).toInt ∧ xb < xa))) (fun (u : Unit) t => va_P (dC, dI) vwCl (WR a k h0 vi vj vF vG) t.heap ∧ va_D (va_A (WR a k h0 vi vj vF vG) sz) (WR a k h0 vi vj vF vG)) (va_A (WR a k h0 vi vj vF vG) sz)) 0 0 (va_A (WR a k h0 vi vj vF vG) sz) := by
  refine Met.ofW (cc := cX12_compare) (maxL := 5) (ret := (some .int)) (by decide) rfl ?_
  intro p e s m args below meth c s₁ B hml hv
  obtain ⟨rfl, hsz, hP, hK, hD0⟩ := hv
  have hx := B.exec
  have hb := B.bytes
  have hr := B.returns
  have hts := atoms_spec (ws := wsRX12_compare) B.pre
  have hown : s.vm.findClass RX12 = some m.cls := findClass_of_methodNamed B.named
  have hlocks := B.notSynchronized
  subst hsz
  have hD := hD0.self (sz := s.heap.size)
  generalize hAe : va_A (WR a k h0 vi vj vF vG) s.heap.size = A at hD ⊢
  have hA : ∀ q : Nat, s.heap.size ≤ q → A q := fun q h => by rw [← hAe]; exact Or.inr h
  have hS : va_S A s.heap s.heap [] := va_S.rf
  have hl := lv_entry ([.ref h0, .int (nI an), .int (nI bn)]) (n := 5) (Nat.le_of_ble_eq_true rfl)
  rw [lg_entry_eq]
  generalize (lg_sl ([.ref h0, .int (nI an), .int (nI bn)]) ++ List.replicate (5 - (lg_sl ([.ref h0, .int (nI an), .int (nI bn)])).length) Slot.unset).toArray = ls at hl ⊢
  have hl : lv_has ls 5 [(0, .ref h0), (1, .int (nI an)), (2, .int (nI bn))] := hl
  obtain ⟨na, hna1, hna2, hna3, hna4, hna5, hna6⟩ := id hxa
  obtain ⟨nb_, hnb1, hnb2, hnb3, hnb4, hnb5, hnb6⟩ := id hxb
  have sa := sgT hna6
  have sb := sgT hnb6
  refine lv_aload_n hx hb dX12_compare_0 rfl (lv_at hl 0 rfl) ?_
  refine lv_iload_n hx hb dX12_compare_1 rfl (lv_at hl 1 rfl) ?_
  have hFc := allFree hD hS hA
  refine va_calli (va_runV (As := [.int (nI an)]) (rest := []) ⟨hx, hb, hml, hown, hts⟩ (r_X12_sign l dC dI a k h0 vi vj vF vG an (by first | with_reducible assumption | decide | omega | rfl | assumption) s.heap.size) (cwV 1 hts gwsRX12_compare_0 rfl rfl rfl hd_yX12_sign_RX12 (by decide +kernel)) (fz_pre (va_recv hK hP (ci := 12) (q0 := 0) rfl rfl) hP hK hD) rfl rfl hl.1 rfl (lv_room (Nat.le_of_ble_eq_true rfl)) dX12_compare_2 (by decide +kernel)) hS (fun q _ h => hFc q h) hFc (fun r2 u t9_ H locs ht hvm hw9 hB9 hz1 hk1 hS => ?_)
  have hP : va_P (dC, dI) vwCl (WR a k h0 vi vj vF vG) H := fz_P ht hB9.1
  have hD : va_D A (WR a k h0 vi vj vF vG) := hB9.2.weaken (fun _ q _ h => hFc q.1 h)
  obtain rfl := hw9
  refine lv_istore_n hx hb dX12_compare_5 rfl hl (by decide) rfl (fun ls (hl : lv_has ls _ ([(3, .int (vF 0 (24 * an))), (0, .ref h0), (1, .int (nI an)), (2, .int (nI bn))])) => ?_)
  refine lv_aload_n hx hb dX12_compare_6 rfl (lv_at hl 1 rfl) ?_
  refine lv_iload_n hx hb dX12_compare_7 rfl (lv_at hl 3 rfl) ?_
  have hFc := allFree hD hS hA
  refine va_calli (va_runV (As := [.int (nI bn)]) (rest := []) ⟨hx, hb, hml, hown, hts⟩ (r_X12_sign l dC dI a k h0 vi vj vF vG bn (by first | with_reducible assumption | decide | omega | rfl | assumption) H.size) (cwV 1 hts gwsRX12_compare_0 rfl rfl rfl hd_yX12_sign_RX12 (by decide +kernel)) (fz_pre (va_recv hK hP (ci := 12) (q0 := 0) rfl rfl) hP hK hD) rfl rfl hl.1 rfl (lv_room (Nat.le_of_ble_eq_true rfl)) dX12_compare_8 (by decide +kernel)) hS (fun q _ h => hFc q h) hFc (fun r8 u t9_ H locs ht hvm hw9 hB9 hz1 hk1 hS => ?_)
  have hP : va_P (dC, dI) vwCl (WR a k h0 vi vj vF vG) H := fz_P ht hB9.1
  have hD : va_D A (WR a k h0 vi vj vF vG) := hB9.2.weaken (fun _ q _ h => hFc q.1 h)
  obtain rfl := hw9
  refine lv_istore hx hb dX12_compare_11 hl (by decide) rfl (fun ls (hl : lv_has ls _ ([(4, .int (vF 0 (24 * bn))), (3, .int (vF 0 (24 * an))), (0, .ref h0), (1, .int (nI an)), (2, .int (nI bn))])) => ?_)
  refine lv_iload_n hx hb dX12_compare_13 rfl (lv_at hl 1 rfl) ?_
  refine lv_iload hx hb dX12_compare_14 (lv_at hl 0 rfl) ?_
  refine lv_icmp_eq (tgt := 26) hx hb dX12_compare_16 (by decide) (fun c_16 => ?_) (fun c_16 => ?_)
  · have t_16 : ((vF 0 (24 * an))).toInt = ((vF 0 (24 * bn))).toInt := toI_eq c_16 rfl rfl
    refine lv_iload_n hx hb dX12_compare_26 rfl (lv_at hl 1 rfl) ?_
    refine lv_if_ne (tgt := 34) hx hb dX12_compare_27 (by decide) (fun c_27 => ?_) (fun c_27 => ?_)
    · have t_27 : ((vF 0 (24 * an))).toInt ≠ 0 := toI_ne c_27 rfl (by decide)
      refine lv_iload_n hx hb dX12_compare_34 rfl (lv_at hl 1 rfl) ?_
      refine lv_aload_n hx hb dX12_compare_35 rfl (lv_at hl 2 rfl) ?_
      refine lv_iload_n hx hb dX12_compare_36 rfl (lv_at hl 3 rfl) ?_
      refine lv_iload_n hx hb dX12_compare_37 rfl (lv_at hl 4 rfl) ?_
      have hFc := allFree hD hS hA
      refine va_calli (va_runV (As := [.int (nI an), .int (nI bn)]) (rest := [.int (vF 0 (24 * an))]) ⟨hx, hb, hml, hown, hts⟩ (r_X12_bare l dC dI a k h0 vi vj vF vG an bn xa xb (by first | with_reducible assumption | decide | omega | rfl | assumption) (by first | with_reducible assumption | decide | omega | rfl | assumption) (hxa) (hxb) H.size) (cwV 2 hts gwsRX12_compare_1 rfl rfl rfl hd_yX12_bare_RX12 (by decide +kernel)) (fz_pre (va_recv hK hP (ci := 12) (q0 := 0) rfl rfl) hP hK hD) rfl rfl hl.1 rfl (lv_room (Nat.le_of_ble_eq_true rfl)) dX12_compare_38 (by decide +kernel)) hS (fun q _ h => hFc q h) hFc (fun r38 u t9_ H locs ht hvm hw9 hB9 hz1 hk1 hS => ?_)
      have hP : va_P (dC, dI) vwCl (WR a k h0 vi vj vF vG) H := fz_P ht hB9.1
      have hD : va_D A (WR a k h0 vi vj vF vG) := hB9.2.weaken (fun _ q _ h => hFc q.1 h)
      revert hw9
      refine fz_a2 ?_
      intro f38_0 f38_1
      refine lv_imul hx hb dX12_compare_41 ?_
      refine W.widen (k := 0) (n := 0) (by decide +kernel) (by decide +kernel) ?_
      exact W.iret (v := ((vF 0 (24 * an)) * r38)) hx hb hr (fun t9_ ht hW => ⟨⟨((vF 0 (24 * an)) * r38), (), rfl, by (try dsimp only); (have e9 : (((vF 0 (24 * an)) * r38)).toInt = (vF 0 (24 * an)).toInt * (r38).toInt := mulS (by omega) (by omega)); (have e8 : (vF 0 (24 * an)).toInt = 1 ∨ (vF 0 (24 * an)).toInt = -1 := by omega); rcases e8 with e8 | e8 <;> rw [e8] at e9 <;> omega, by rw [ht]; exact hP, hD⟩, hS.F ht⟩) hS.2.2 dX12_compare_42
    · have t_27 : ((vF 0 (24 * an))).toInt = 0 := toI_nne c_27 rfl (by decide)
      refine lv_iconst (v := 0) hx hb dX12_compare_30 (by decide) ?_
      refine lv_goto (tgt := 42) hx hb dX12_compare_31 (by decide) ?_
      refine W.widen (k := 0) (n := 0) (by decide +kernel) (by decide +kernel) ?_
      exact W.iret (v := 0) hx hb hr (fun t9_ ht hW => ⟨⟨0, (), rfl, by (try dsimp only); (have e9 : (0 : Int32).toInt = 0 := by decide); omega, by rw [ht]; exact hP, hD⟩, hS.F ht⟩) hS.2.2 dX12_compare_42
  · have t_16 : ¬ ((vF 0 (24 * an))).toInt = ((vF 0 (24 * bn))).toInt := toI_neq c_16 rfl rfl
    refine lv_iload_n hx hb dX12_compare_19 rfl (lv_at hl 1 rfl) ?_
    refine lv_iload hx hb dX12_compare_20 (lv_at hl 0 rfl) ?_
    refine lv_isub hx hb dX12_compare_22 ?_
    refine lv_goto (tgt := 42) hx hb dX12_compare_23 (by decide) ?_
    refine W.widen (k := 0) (n := 0) (by decide +kernel) (by decide +kernel) ?_
    exact W.iret (v := ((vF 0 (24 * an)) - (vF 0 (24 * bn)))) hx hb hr (fun t9_ ht hW => ⟨⟨((vF 0 (24 * an)) - (vF 0 (24 * bn))), (), rfl, by (try dsimp only); (have e9 : (((vF 0 (24 * an)) - (vF 0 (24 * bn)))).toInt = (vF 0 (24 * an)).toInt - (vF 0 (24 * bn)).toInt := subB (by omega) (by omega)); omega, by rw [ht]; exact hP, hD⟩, hS.F ht⟩) hS.2.2 dX12_compare_42
end
section
def sv28 (f : Nat → Int64) : Nat → Int
  | 0 => 0
  | n + 1 => sv28 f n + (f n).toInt * ((2 ^ (28 * n) : Nat) : Int)
theorem maskS (v : Int64) : ∃ md : Nat, md < 268435456 ∧ (md : Int) = v.toInt % 268435456 ∧ v &&& 268435455 = lN md := by
  refine ⟨v.toBitVec.toNat % 268435456, by omega, ?_, ?_⟩
  · have h : v.toInt = v.toBitVec.toInt := rfl
    rw [h, BitVec.toInt_eq_toNat_cond]
    split <;> omega
  · apply Int64.toBitVec_inj.mp
    apply BitVec.eq_of_toNat_eq
    have h2 : (lN (v.toBitVec.toNat % 268435456)).toBitVec.toNat = v.toBitVec.toNat % 268435456 := Nat.mod_eq_of_lt (by omega)
    rw [Int64.toBitVec_and, BitVec.toNat_and, h2]
    exact Nat.and_two_pow_sub_one_eq_mod _ 28
theorem shrS (v : Int64) : (v >>> ((28 : Int32).toInt64 &&& 63)).toInt = v.toInt / 268435456 := by
  have e : (v >>> ((28 : Int32).toInt64 &&& 63)).toInt = v.toInt >>> 28 := BitVec.toInt_sshiftRight ..
  rw [e, Int.shiftRight_eq_div_pow]
  rfl
theorem addJ {x y : Int64} (hx : -2305843009213693952 ≤ x.toInt ∧ x.toInt ≤ 2305843009213693952) (hy : -2305843009213693952 ≤ y.toInt ∧ y.toInt ≤ 2305843009213693952) : (x + y).toInt = x.toInt + y.toInt := by
  rw [Int64.toInt_add]
  exact Int.bmod_eq_of_le (by omega) (by omega)
theorem sv_step {g : Nat → Int32} {gs : Nat → Int64} {o i md : Nat} {ov v : Int} (ho : o + i < 2 ^ 31) (hm : md < 268435456) (h : ((lv28 g o i : Nat) : Int) + ov * ((2 ^ (28 * i) : Nat) : Int) = sv28 gs i) (hv : v = (gs i).toInt + ov) (hmd : (md : Int) = v % 268435456) :
    ((lv28 (upd g (nI (o + i)).toNatClampNeg (nI md)) o (i + 1) : Nat) : Int) + v / 268435456 * ((2 ^ (28 * (i + 1)) : Nat) : Int) = sv28 gs (i + 1) := by
  have e1 : lv28 (upd g (nI (o + i)).toNatClampNeg (nI md)) o i = lv28 g o i := lv28_congr fun q hq => by rw [upd_at ho, if_neg (by omega)]
  have e2 : (nI md).toNatClampNeg = md := nI_clamp (by omega)
  simp only [lv28, sv28]
  rw [e1, upd_at ho, if_pos rfl, e2, show 28 * (i + 1) = 28 * i + 28 by omega, Nat.pow_add]
  generalize hP : 2 ^ (28 * i) = P at h ⊢
  have e3 : v = (md : Int) + 268435456 * (v / 268435456) := by omega
  have e4 : ((lv28 g o i + md * P : Nat) : Int) = (lv28 g o i : Int) + (md : Int) * (P : Int) := by rw [Int.natCast_add, Int.natCast_mul]
  have e5 : v / 268435456 * ((P * 2 ^ 28 : Nat) : Int) = 268435456 * (v / 268435456) * (P : Int) := by
    rw [Int.natCast_mul, Int.mul_comm (P : Int), ← Int.mul_assoc, Int.mul_comm (v / 268435456)]; rfl
  rw [e4, e5]
  have e6 : (md : Int) * (P : Int) + 268435456 * (v / 268435456) * (P : Int) = v * (P : Int) := by rw [← Int.add_mul, ← e3]
  have e7 : v * (P : Int) = (gs i).toInt * (P : Int) + ov * (P : Int) := by rw [hv, Int.add_mul]
  omega
theorem lv28_top22 {r n v : Nat} (h : v + r * 2 ^ (28 * n) < 2 ^ 616) (hr : 0 < r) : n ≤ 21 := by
  refine Nat.le_of_not_lt fun hn => ?_
  have h1 : 2 ^ 616 ≤ 2 ^ (28 * n) := Nat.pow_le_pow_right (by omega) (by omega)
  have h2 : 2 ^ (28 * n) ≤ r * 2 ^ (28 * n) := Nat.le_mul_of_pos_left _ hr
  omega
theorem ov_pos {L n : Nat} {ov S : Int} (hL : L < 2 ^ (28 * n)) (h : (L : Int) + ov * ((2 ^ (28 * n) : Nat) : Int) = S) (hS : 0 ≤ S) : 0 ≤ ov := by
  refine Int.not_lt.mp fun hneg => ?_
  generalize 2 ^ (28 * n) = P at hL h
  have : ov * (P : Int) ≤ -1 * (P : Int) := Int.mul_le_mul_of_nonneg_right (by omega) (by omega)
  omega
theorem nu_fin {G : Nat → Int32} {sn kk SS : Nat} {sg : Int} {qs : Int32} (hk : kk ≤ 22) (h1 : G (24 * sn + 1) = nI kk) (hL : Lm G (24 * sn + 2) kk) (ht : 0 < kk → G (24 * sn + 1 + kk) ≠ 0) (hv : lv28 G (24 * sn + 2) kk = SS) (hq : (kk = 0 ∧ G (24 * sn) = 0) ∨ (0 < kk ∧ G (24 * sn) = qs)) (hsg : 0 < SS → (sg = 1 ∧ qs = 1) ∨ (sg = -1 ∧ qs = -1)) : Nu G sn (sg * (SS : Int)) := by
  rcases hq with ⟨h0, hq⟩ | ⟨h0, hq⟩
  · subst h0
    have e : SS = 0 := by rw [← hv]; rfl
    subst e
    exact ⟨0, by omega, h1, hL, ht, by simp [lv28], Or.inl ⟨by simp, hq⟩⟩
  · obtain ⟨k, rfl⟩ : ∃ k, kk = k + 1 := ⟨kk - 1, by omega⟩
    have h2 := lv28_ge hL (by rw [show 24 * sn + 2 + k = 24 * sn + 1 + (k + 1) by omega]; exact ht h0)
    have h3 : 0 < 2 ^ (28 * k) := Nat.two_pow_pos _
    have hS : 0 < SS := by omega
    rcases hsg hS with ⟨a1, a2⟩ | ⟨a1, a2⟩
    · subst a1
      exact ⟨k + 1, hk, h1, hL, ht, by rw [hv]; omega, Or.inr (Or.inl ⟨by omega, by rw [hq, a2]⟩)⟩
    · subst a1
      exact ⟨k + 1, hk, h1, hL, ht, by rw [hv]; omega, Or.inr (Or.inr ⟨by omega, by rw [hq, a2]⟩)⟩
end
section
theorem dX12_carry_0 : decode cX12_carry 0 = .ok (.lconst 0, 1) := dk_9 (by decide +kernel)
theorem dX12_carry_1 : decode cX12_carry 1 = .ok (.lstore 4, 2) := dk_55 (by decide +kernel)
theorem dX12_carry_3 : decode cX12_carry 3 = .ok (.iconst 0, 1) := dk_3 (by decide +kernel)
theorem dX12_carry_4 : decode cX12_carry 4 = .ok (.istore 6, 2) := dk_54 (by decide +kernel)
theorem dX12_carry_6 : decode cX12_carry 6 = .ok (.iload 6, 2) := dk_21 (by decide +kernel)
theorem dX12_carry_8 : decode cX12_carry 8 = .ok (.iload_n 2, 1) := dk_28 (by decide +kernel)
theorem dX12_carry_9 : decode cX12_carry 9 = .ok (.if_icmp .ge 49, 3) := dk_162 (by decide +kernel)
theorem dX12_carry_12 : decode cX12_carry 12 = .ok (.aload_n 0, 1) := dk_42 (by decide +kernel)
theorem dX12_carry_13 : decode cX12_carry 13 = .ok (.getfield 13, 3) := dk_180 (by decide +kernel)
theorem dX12_carry_16 : decode cX12_carry 16 = .ok (.iload 6, 2) := dk_21 (by decide +kernel)
theorem dX12_carry_18 : decode cX12_carry 18 = .ok (.laload, 1) := dk_47 (by decide +kernel)
theorem dX12_carry_19 : decode cX12_carry 19 = .ok (.lload 4, 2) := dk_22 (by decide +kernel)
theorem dX12_carry_21 : decode cX12_carry 21 = .ok (.ladd, 1) := dk_97 (by decide +kernel)
theorem dX12_carry_22 : decode cX12_carry 22 = .ok (.lstore 7, 2) := dk_55 (by decide +kernel)
theorem dX12_carry_24 : decode cX12_carry 24 = .ok (.lload 7, 2) := dk_22 (by decide +kernel)
theorem dX12_carry_26 : decode cX12_carry 26 = .ok (.bipush 28, 2) := dk_16 (by decide +kernel)
theorem dX12_carry_28 : decode cX12_carry 28 = .ok (.lshr, 1) := dk_123 (by decide +kernel)
theorem dX12_carry_29 : decode cX12_carry 29 = .ok (.lstore 4, 2) := dk_55 (by decide +kernel)
theorem dX12_carry_31 : decode cX12_carry 31 = .ok (.aload_n 0, 1) := dk_42 (by decide +kernel)
theorem dX12_carry_32 : decode cX12_carry 32 = .ok (.getfield 7, 3) := dk_180 (by decide +kernel)
theorem dX12_carry_35 : decode cX12_carry 35 = .ok (.bipush 24, 2) := dk_16 (by decide +kernel)
theorem dX12_carry_37 : decode cX12_carry 37 = .ok (.iload_n 1, 1) := dk_27 (by decide +kernel)
theorem dX12_carry_38 : decode cX12_carry 38 = .ok (.imul, 1) := dk_104 (by decide +kernel)
theorem dX12_carry_39 : decode cX12_carry 39 = .ok (.iconst 2, 1) := dk_5 (by decide +kernel)
theorem dX12_carry_40 : decode cX12_carry 40 = .ok (.iadd, 1) := dk_96 (by decide +kernel)
theorem dX12_carry_41 : decode cX12_carry 41 = .ok (.iload 6, 2) := dk_21 (by decide +kernel)
theorem dX12_carry_43 : decode cX12_carry 43 = .ok (.iadd, 1) := dk_96 (by decide +kernel)
theorem dX12_carry_44 : decode cX12_carry 44 = .ok (.lload 7, 2) := dk_22 (by decide +kernel)
theorem dX12_carry_46 : decode cX12_carry 46 = .ok (.ldc2_w 351, 3) := dk_20 (by decide +kernel)
theorem dX12_carry_49 : decode cX12_carry 49 = .ok (.land, 1) := dk_127 (by decide +kernel)
theorem dX12_carry_50 : decode cX12_carry 50 = .ok (.l2i, 1) := dk_136 (by decide +kernel)
theorem dX12_carry_51 : decode cX12_carry 51 = .ok (.iastore, 1) := dk_79 (by decide +kernel)
theorem dX12_carry_52 : decode cX12_carry 52 = .ok (.iinc 6 1, 3) := dk_132 (by decide +kernel)
theorem dX12_carry_55 : decode cX12_carry 55 = .ok (.goto (-49), 3) := dk_167 (by decide +kernel)
theorem dX12_carry_58 : decode cX12_carry 58 = .ok (.iload_n 2, 1) := dk_28 (by decide +kernel)
theorem dX12_carry_59 : decode cX12_carry 59 = .ok (.istore 6, 2) := dk_54 (by decide +kernel)
theorem dX12_carry_61 : decode cX12_carry 61 = .ok (.lload 4, 2) := dk_22 (by decide +kernel)
theorem dX12_carry_63 : decode cX12_carry 63 = .ok (.lconst 0, 1) := dk_9 (by decide +kernel)
theorem dX12_carry_64 : decode cX12_carry 64 = .ok (.lcmp, 1) := dk_148 (by decide +kernel)
theorem dX12_carry_65 : decode cX12_carry 65 = .ok (.ifCond .le 37, 3) := dk_158 (by decide +kernel)
theorem dX12_carry_68 : decode cX12_carry 68 = .ok (.aload_n 0, 1) := dk_42 (by decide +kernel)
theorem dX12_carry_69 : decode cX12_carry 69 = .ok (.getfield 7, 3) := dk_180 (by decide +kernel)
theorem dX12_carry_72 : decode cX12_carry 72 = .ok (.bipush 24, 2) := dk_16 (by decide +kernel)
theorem dX12_carry_74 : decode cX12_carry 74 = .ok (.iload_n 1, 1) := dk_27 (by decide +kernel)
theorem dX12_carry_75 : decode cX12_carry 75 = .ok (.imul, 1) := dk_104 (by decide +kernel)
theorem dX12_carry_76 : decode cX12_carry 76 = .ok (.iconst 2, 1) := dk_5 (by decide +kernel)
theorem dX12_carry_77 : decode cX12_carry 77 = .ok (.iadd, 1) := dk_96 (by decide +kernel)
theorem dX12_carry_78 : decode cX12_carry 78 = .ok (.iload 6, 2) := dk_21 (by decide +kernel)
theorem dX12_carry_80 : decode cX12_carry 80 = .ok (.iadd, 1) := dk_96 (by decide +kernel)
theorem dX12_carry_81 : decode cX12_carry 81 = .ok (.lload 4, 2) := dk_22 (by decide +kernel)
theorem dX12_carry_83 : decode cX12_carry 83 = .ok (.ldc2_w 351, 3) := dk_20 (by decide +kernel)
theorem dX12_carry_86 : decode cX12_carry 86 = .ok (.land, 1) := dk_127 (by decide +kernel)
theorem dX12_carry_87 : decode cX12_carry 87 = .ok (.l2i, 1) := dk_136 (by decide +kernel)
theorem dX12_carry_88 : decode cX12_carry 88 = .ok (.iastore, 1) := dk_79 (by decide +kernel)
theorem dX12_carry_89 : decode cX12_carry 89 = .ok (.lload 4, 2) := dk_22 (by decide +kernel)
theorem dX12_carry_91 : decode cX12_carry 91 = .ok (.bipush 28, 2) := dk_16 (by decide +kernel)
theorem dX12_carry_93 : decode cX12_carry 93 = .ok (.lshr, 1) := dk_123 (by decide +kernel)
theorem dX12_carry_94 : decode cX12_carry 94 = .ok (.lstore 4, 2) := dk_55 (by decide +kernel)
theorem dX12_carry_96 : decode cX12_carry 96 = .ok (.iinc 6 1, 3) := dk_132 (by decide +kernel)
theorem dX12_carry_99 : decode cX12_carry 99 = .ok (.goto (-38), 3) := dk_167 (by decide +kernel)
theorem dX12_carry_102 : decode cX12_carry 102 = .ok (.iload 6, 2) := dk_21 (by decide +kernel)
theorem dX12_carry_104 : decode cX12_carry 104 = .ok (.ifCond .le 26, 3) := dk_158 (by decide +kernel)
theorem dX12_carry_107 : decode cX12_carry 107 = .ok (.aload_n 0, 1) := dk_42 (by decide +kernel)
theorem dX12_carry_108 : decode cX12_carry 108 = .ok (.getfield 7, 3) := dk_180 (by decide +kernel)
theorem dX12_carry_111 : decode cX12_carry 111 = .ok (.bipush 24, 2) := dk_16 (by decide +kernel)
theorem dX12_carry_113 : decode cX12_carry 113 = .ok (.iload_n 1, 1) := dk_27 (by decide +kernel)
theorem dX12_carry_114 : decode cX12_carry 114 = .ok (.imul, 1) := dk_104 (by decide +kernel)
theorem dX12_carry_115 : decode cX12_carry 115 = .ok (.iconst 1, 1) := dk_4 (by decide +kernel)
theorem dX12_carry_116 : decode cX12_carry 116 = .ok (.iadd, 1) := dk_96 (by decide +kernel)
theorem dX12_carry_117 : decode cX12_carry 117 = .ok (.iload 6, 2) := dk_21 (by decide +kernel)
theorem dX12_carry_119 : decode cX12_carry 119 = .ok (.iadd, 1) := dk_96 (by decide +kernel)
theorem dX12_carry_120 : decode cX12_carry 120 = .ok (.iaload, 1) := dk_46 (by decide +kernel)
theorem dX12_carry_121 : decode cX12_carry 121 = .ok (.ifCond .ne 9, 3) := dk_154 (by decide +kernel)
theorem dX12_carry_124 : decode cX12_carry 124 = .ok (.iinc 6 (-1), 3) := dk_132 (by decide +kernel)
theorem dX12_carry_127 : decode cX12_carry 127 = .ok (.goto (-25), 3) := dk_167 (by decide +kernel)
theorem dX12_carry_130 : decode cX12_carry 130 = .ok (.aload_n 0, 1) := dk_42 (by decide +kernel)
theorem dX12_carry_131 : decode cX12_carry 131 = .ok (.getfield 7, 3) := dk_180 (by decide +kernel)
theorem dX12_carry_134 : decode cX12_carry 134 = .ok (.bipush 24, 2) := dk_16 (by decide +kernel)
theorem dX12_carry_136 : decode cX12_carry 136 = .ok (.iload_n 1, 1) := dk_27 (by decide +kernel)
theorem dX12_carry_137 : decode cX12_carry 137 = .ok (.imul, 1) := dk_104 (by decide +kernel)
theorem dX12_carry_138 : decode cX12_carry 138 = .ok (.iconst 1, 1) := dk_4 (by decide +kernel)
theorem dX12_carry_139 : decode cX12_carry 139 = .ok (.iadd, 1) := dk_96 (by decide +kernel)
theorem dX12_carry_140 : decode cX12_carry 140 = .ok (.iload 6, 2) := dk_21 (by decide +kernel)
theorem dX12_carry_142 : decode cX12_carry 142 = .ok (.iastore, 1) := dk_79 (by decide +kernel)
theorem dX12_carry_143 : decode cX12_carry 143 = .ok (.aload_n 0, 1) := dk_42 (by decide +kernel)
theorem dX12_carry_144 : decode cX12_carry 144 = .ok (.getfield 7, 3) := dk_180 (by decide +kernel)
theorem dX12_carry_147 : decode cX12_carry 147 = .ok (.bipush 24, 2) := dk_16 (by decide +kernel)
theorem dX12_carry_149 : decode cX12_carry 149 = .ok (.iload_n 1, 1) := dk_27 (by decide +kernel)
theorem dX12_carry_150 : decode cX12_carry 150 = .ok (.imul, 1) := dk_104 (by decide +kernel)
theorem dX12_carry_151 : decode cX12_carry 151 = .ok (.iload 6, 2) := dk_21 (by decide +kernel)
theorem dX12_carry_153 : decode cX12_carry 153 = .ok (.ifCond .ne 7, 3) := dk_154 (by decide +kernel)
theorem dX12_carry_156 : decode cX12_carry 156 = .ok (.iconst 0, 1) := dk_3 (by decide +kernel)
theorem dX12_carry_157 : decode cX12_carry 157 = .ok (.goto 4, 3) := dk_167 (by decide +kernel)
theorem dX12_carry_160 : decode cX12_carry 160 = .ok (.iload_n 3, 1) := dk_29 (by decide +kernel)
theorem dX12_carry_161 : decode cX12_carry 161 = .ok (.iastore, 1) := dk_79 (by decide +kernel)
theorem dX12_carry_162 : decode cX12_carry 162 = .ok (.return_, 1) := dk_177 (by decide +kernel)
def wsRX12_carry : List Cond := .code yX12_carry cX12_carry 9 none :: ([.fieldLink RX12 7 "OptimaWorksModel" "big" "[I", .constantLong RX12 351 268435455, .fieldLink RX12 13 "OptimaWorksModel" "sum" "[J"] ++ wsX120)
theorem iwsRX12_carry_in12 : ∀ w ∈ wsX120, w ∈ wsRX12_carry := fun _ h => List.mem_cons_of_mem _ (List.mem_append_right _ h)
set_option maxHeartbeats 4000000 in
set_option maxRecDepth 100000 in
/-- carry(s, n, sign) -/
theorem r_X12_carry (l : Launch) (dC : Nat → ClassId) (dI : Nat → Nat → Nat) (a : Nat → Nat) (k : Nat → ClassId) (h0 : Nat) (vi : Nat → Int32) (vj : Nat → Int64) (vF : Nat → Nat → Int32) (vG : Nat → Nat → Int64) (sn : Nat) (n : Nat) (qs : Int32) (SS : Nat) (sg : Int) (hs : sn < 1100) (hn : n ≤ 22) (hgs : ∀ q, q < n → -1152921504606846976 ≤ (vG 1 q).toInt ∧ (vG 1 q).toInt ≤ 1152921504606846976) (hSS : sv28 (vG 1) n = (SS : Int)) (hSb : SS < 2 ^ 616) (hsg : 0 < SS → (sg = 1 ∧ qs = 1) ∨ (sg = -1 ∧ qs = -1)) (sz : Nat) : Met l yX12_carry wsRX12_carry ({ frames := 0, cells := 0, slots := 0, locals := 0 }) (va_Pc [.ref h0, .int (nI sn), .int (nI n), .int qs] (fun U => U.heap.size = sz ∧ va_P (dC, dI) vwCl (WR a k h0 vi vj vF vG) U.heap ∧ va_K (dC, dI) vwCl (tX12 k) U ∧ va_D (fun _ => True) (WR a k h0 vi vj vF vG))) (va_Qv (fun (u : Nat → Int32) => (Nu u sn (sg * (SS : Int))) ∧ (∀ q, (q < 24 * sn ∨ 24 * sn + 24 ≤ q) → u q = vF 0 q)) (fun (u : Nat → Int32) t => va_P (dC, dI) vwCl (WR a k h0 vi vj (fT vF 0 u) vG) t.heap ∧ va_D (va_A (WR a k h0 vi vj vF vG) sz) (WR a k h0 vi vj (fT vF 0 u) vG)) (va_A (WR a k h0 vi vj vF vG) sz)) 0 0 (va_A (WR a k h0 vi vj vF vG) sz) := by
  refine Met.ofW (cc := cX12_carry) (maxL := 9) (ret := none) (by decide) rfl ?_
  intro p e s m args below meth c s₁ B hml hv
  obtain ⟨rfl, hsz, hP, hK, hD0⟩ := hv
  have hx := B.exec
  have hb := B.bytes
  have hr := B.returns
  have hts := atoms_spec (ws := wsRX12_carry) B.pre
  have hown : s.vm.findClass RX12 = some m.cls := findClass_of_methodNamed B.named
  have hlocks := B.notSynchronized
  subst hsz
  have hD := hD0.self (sz := s.heap.size)
  generalize hAe : va_A (WR a k h0 vi vj vF vG) s.heap.size = A at hD ⊢
  have hA : ∀ q : Nat, s.heap.size ≤ q → A q := fun q h => by rw [← hAe]; exact Or.inr h
  have hS : va_S A s.heap s.heap [] := va_S.rf
  have hl := lv_entry ([.ref h0, .int (nI sn), .int (nI n), .int qs]) (n := 9) (Nat.le_of_ble_eq_true rfl)
  rw [lg_entry_eq]
  generalize (lg_sl ([.ref h0, .int (nI sn), .int (nI n), .int qs]) ++ List.replicate (9 - (lg_sl ([.ref h0, .int (nI sn), .int (nI n), .int qs])).length) Slot.unset).toArray = ls at hl ⊢
  have hl : lv_has ls 9 [(0, .ref h0), (1, .int (nI sn)), (2, .int (nI n)), (3, .int qs)] := hl
  refine lv_lconst (v := 0) hx hb dX12_carry_0 (by decide) ?_
  refine lv_lstore hx hb dX12_carry_1 hl (by decide) rfl (fun ls (hl : lv_has ls _ ([(4, .long 0), (0, .ref h0), (1, .int (nI sn)), (2, .int (nI n)), (3, .int qs)])) => ?_)
  refine lv_iconst (v := 0) hx hb dX12_carry_3 (by decide) ?_
  refine lv_istore hx hb dX12_carry_4 hl (by decide) rfl (fun ls (hl : lv_has ls _ ([(6, .int 0), (4, .long 0), (0, .ref h0), (1, .int (nI sn)), (2, .int (nI n)), (3, .int qs)])) => ?_)
  have e9 : fT vF 0 (vF 0) = vF := by funext q9; by_cases h9_0 : q9 = 0; (subst h9_0; exact (fT_eq _ _ _).trans (Eq.trans (by first | with_reducible rfl | with_reducible assumption | (symm; with_reducible assumption) | rfl | assumption | (symm; assumption) | (subst_vars; rfl)) (Eq.refl _).symm)); exact (fT_ne _ _ h9_0).trans (Eq.refl _).symm
  have hP : va_P (dC, dI) vwCl (WR a k h0 vi vj (fT vF 0 (vF 0)) vG) s.heap := by rw [e9]; exact hP
  have hD : va_D A (WR a k h0 vi vj (fT vF 0 (vF 0)) vG) := by rw [e9]; exact hD
  clear e9
  have hl : lv_has _ _ ([(6, .int (nI 0)), (4, .long 0), (0, .ref h0), (1, .int (nI sn)), (2, .int (nI n)), (3, .int qs)]) := lv_sub hl [0, 1, 2, 3, 4, 5] rfl
  refine (fun (loop : ∀ (n9 : Nat) (i : Nat) (ov : Int64) (g : Nat → Int32) (H : Heap) (locs : List Loc) (ls : Array Slot), (i ≤ n) → (-8589934592 ≤ ov.toInt ∧ ov.toInt ≤ 8589934592) → (((lv28 g (24 * sn + 2) i : Nat) : Int) + ov.toInt * ((2 ^ (28 * i) : Nat) : Int) = sv28 (vG 1) i) → (Lm g (24 * sn + 2) i) → (∀ q, (q < 24 * sn ∨ 24 * sn + 24 ≤ q) → g q = vF 0 q) →  (n < i + n9) → va_P (dC, dI) vwCl (WR a k h0 vi vj (fT vF 0 g) vG) H → va_D A (WR a k h0 vi vj (fT vF 0 g) vG) → va_S A s.heap H locs → lv_has ls 9 [(6, .int (nI i)), (4, .long ov), (0, .ref h0), (1, .int (nI sn)), (2, .int (nI n)), (3, .int qs)] → W p l e _ s m _ below meth c H locs 0 0 _ (F0 m 6 ls [])) => loop (n + 1) 0 0 (vF 0) _ _ _ (by omega) (by decide) (by simp [lv28, sv28]) (fun q hq => absurd hq (by omega)) (fun q hq => rfl) (by omega) hP hD hS hl) ?_
  intro n9
  induction n9 with
  | zero => intro i ov g H locs ls hi hov hlv hlm ho hf9; exact False.elim (by omega)
  | succ n9 ih6 =>
    intro i ov g H locs ls hi hov hlv hlm ho hf6 hP hD hS hl
    refine lv_iload hx hb dX12_carry_6 (lv_at hl 0 rfl) ?_
    refine lv_iload_n hx hb dX12_carry_8 rfl (lv_at hl 4 rfl) ?_
    refine lv_icmp_ge (tgt := 58) hx hb dX12_carry_9 (by decide) (fun c_9 => ?_) (fun c_9 => ?_)
    · have t_9 : ((i : Nat) : Int) ≥ ((n : Nat) : Int) := toI_ge c_9 (nI_toInt (by omega)) (nI_toInt (by omega))
      have ei : i = n := by omega
      subst ei
      have hov0 : 0 ≤ ov.toInt := ov_pos (lv28_lt hlm) hlv (by omega)
      obtain ⟨r0, hr0⟩ : ∃ r0, r0 = ov.toInt.natAbs := ⟨_, rfl⟩
      obtain rfl : lN r0 = ov := (by rw [hr0]; exact (posL hov0).symm)
      have eov : (lN r0).toInt = (r0 : Int) := pk_lT (by omega)
      have hsum : lv28 g (24 * sn + 2) i + r0 * 2 ^ (28 * i) = SS := by rw [eov] at hlv; (have e9 : ((lv28 g (24 * sn + 2) i + r0 * 2 ^ (28 * i) : Nat) : Int) = (SS : Int) := by rw [Int.natCast_add, Int.natCast_mul]; omega); omega
      refine lv_iload_n hx hb dX12_carry_58 rfl (lv_at hl 4 rfl) ?_
      refine lv_istore hx hb dX12_carry_59 hl (by decide) rfl (fun ls (hl : lv_has ls _ ([(6, .int (nI i)), (4, .long (lN r0)), (0, .ref h0), (1, .int (nI sn)), (2, .int (nI i)), (3, .int qs)])) => ?_)
      have hl : lv_has _ _ ([(6, .int (nI i)), (4, .long (lN r0)), (0, .ref h0), (1, .int (nI sn)), (3, .int qs)]) := lv_sub hl [0, 1, 2, 3, 5] rfl
      refine (fun (loop : ∀ (n9 : Nat) (nn : Nat) (rr : Nat) (g2 : Nat → Int32) (H : Heap) (locs : List Loc) (ls : Array Slot), (nn ≤ 22) → (lv28 g2 (24 * sn + 2) nn + rr * 2 ^ (28 * nn) = SS) → (rr < 2 ^ 63) → (Lm g2 (24 * sn + 2) nn) → (∀ q, (q < 24 * sn ∨ 24 * sn + 24 ≤ q) → g2 q = vF 0 q) →  (rr < n9) → va_P (dC, dI) vwCl (WR a k h0 vi vj (fT vF 0 g2) vG) H → va_D A (WR a k h0 vi vj (fT vF 0 g2) vG) → va_S A s.heap H locs → lv_has ls 9 [(6, .int (nI nn)), (4, .long (lN rr)), (0, .ref h0), (1, .int (nI sn)), (3, .int qs)] → W p l e _ s m _ below meth c H locs 0 0 _ (F0 m 61 ls [])) => loop (r0 + 1) i r0 g _ _ _ (by omega) (hsum) (by omega) (hlm) (ho) (by omega) hP hD hS hl) ?_
      intro n9
      induction n9 with
      | zero => intro nn rr g2 H locs ls hnn hlv2 hrb hlm2 ho2 hf9; exact False.elim (by omega)
      | succ n9 ih61_1 =>
        intro nn rr g2 H locs ls hnn hlv2 hrb hlm2 ho2 hf61_1 hP hD hS hl
        refine lv_lload hx hb dX12_carry_61 (lv_at hl 1 rfl) ?_
        refine lv_lconst (v := 0) hx hb dX12_carry_63 (by decide) ?_
        refine W.lcmp hx hb dX12_carry_64 ?_
        refine lv_if_le (tgt := 102) hx hb dX12_carry_65 (by decide) (fun c_65 => ?_) (fun c_65 => ?_)
        · have t_65 : ((rr : Nat) : Int) ≤ 0 := toL_le c_65 (pk_lT (by omega)) (by decide)
          have hl : lv_has _ _ ([(6, .int (nI nn)), (0, .ref h0), (1, .int (nI sn)), (3, .int qs)]) := lv_sub hl [0, 2, 3, 4] rfl
          refine (fun (loop : ∀ (n9 : Nat) (kk : Nat) (H : Heap) (locs : List Loc) (ls : Array Slot), (kk ≤ nn) → (lv28 g2 (24 * sn + 2) kk = SS) →  (kk < n9) → va_P (dC, dI) vwCl (WR a k h0 vi vj (fT vF 0 g2) vG) H → va_D A (WR a k h0 vi vj (fT vF 0 g2) vG) → va_S A s.heap H locs → lv_has ls 9 [(6, .int (nI kk)), (0, .ref h0), (1, .int (nI sn)), (3, .int qs)] → W p l e _ s m _ below meth c H locs 0 0 _ (F0 m 102 ls [])) => loop (nn + 1) nn _ _ _ (by omega) (by (have e8 : rr = 0 := (by omega)); rw [e8, Nat.zero_mul] at hlv2; omega) (by omega) hP hD hS hl) ?_
          intro n9
          induction n9 with
          | zero => intro kk H locs ls hkk hlv3 hf9; exact False.elim (by omega)
          | succ n9 ih102_2 =>
            intro kk H locs ls hkk hlv3 hf102_2 hP hD hS hl
            refine lv_iload hx hb dX12_carry_102 (lv_at hl 0 rfl) ?_
            refine lv_if_le (tgt := 130) hx hb dX12_carry_104 (by decide) (fun c_104 => ?_) (fun c_104 => ?_)
            · have t_104 : ((kk : Nat) : Int) ≤ 0 := toI_le c_104 (nI_toInt (by omega)) (by decide)
              refine lv_aload_n hx hb dX12_carry_130 rfl (lv_at hl 1 rfl) ?_
              refine va_get (D := (dC, dI)) (ci := 12) (v := .ref (a 0)) (C := RX12) (T := TX12) (N := 163) (fs := fM (vS a vi vj)) hx hb hts iwsRX12_carry_in12 hown hK hP 0 rfl rfl 1 (by decide) (hts (.fieldLink RX12 7 "OptimaWorksModel" "big" "[I") (by decide +kernel)) (fun _ h9 => h9) rfl dX12_carry_131 ?_
              refine lv_bipush (v := 24) hx hb dX12_carry_134 (by decide) ?_
              refine lv_iload_n hx hb dX12_carry_136 rfl (lv_at hl 2 rfl) ?_
              refine lv_imul hx hb dX12_carry_137 ?_
              refine lv_topi (fun y1 hy1 => ?_)
              obtain rfl : (nI (24 * sn)) = y1 := (hy1.trans (pk_mul 24 sn)).symm
              refine lv_iconst (v := 1) hx hb dX12_carry_138 (by decide) ?_
              refine lv_iadd hx hb dX12_carry_139 ?_
              refine lv_topi (fun y2 hy2 => ?_)
              obtain rfl : (nI ((24 * sn) + 1)) = y2 := (hy2.trans (nI_add (24 * sn) 1)).symm
              refine lv_iload hx hb dX12_carry_140 (lv_at hl 0 rfl) ?_
              refine va_iast (cA := k 0) (n := 26400) (f := g2) hx hb hK hP hD hS 1 0 (WR_get 0 (by decide)) (TR_get 0 (by decide)) (vp_in_nI (show ((24 * sn) + 1) < 26400 by omega) (by omega)) dX12_carry_142 (fun H locs hP hD hS => ?_)
              have e9 : fT vF 0 (upd g2 ((nI ((24 * sn) + 1))).toNatClampNeg (nI kk)) = fT (fT vF 0 g2) 0 (upd g2 ((nI ((24 * sn) + 1))).toNatClampNeg (nI kk)) := (fT_sm _ _ _ _).symm
              have hP : va_P (dC, dI) vwCl (WR a k h0 vi vj (fT vF 0 (upd g2 ((nI ((24 * sn) + 1))).toNatClampNeg (nI kk))) vG) H := by rw [e9, ← WR_F 0 (by decide) _ rfl]; exact hP
              have hD : va_D A (WR a k h0 vi vj (fT vF 0 (upd g2 ((nI ((24 * sn) + 1))).toNatClampNeg (nI kk))) vG) := by rw [e9, ← WR_F 0 (by decide) _ rfl]; exact hD
              clear e9
              refine lv_aload_n hx hb dX12_carry_143 rfl (lv_at hl 1 rfl) ?_
              refine va_get (D := (dC, dI)) (ci := 12) (v := .ref (a 0)) (C := RX12) (T := TX12) (N := 163) (fs := fM (vS a vi vj)) hx hb hts iwsRX12_carry_in12 hown hK hP 0 rfl rfl 1 (by decide) (hts (.fieldLink RX12 7 "OptimaWorksModel" "big" "[I") (by decide +kernel)) (fun _ h9 => h9) rfl dX12_carry_144 ?_
              refine lv_bipush (v := 24) hx hb dX12_carry_147 (by decide) ?_
              refine lv_iload_n hx hb dX12_carry_149 rfl (lv_at hl 2 rfl) ?_
              refine lv_imul hx hb dX12_carry_150 ?_
              refine lv_topi (fun y3 hy3 => ?_)
              obtain rfl : (nI (24 * sn)) = y3 := (hy3.trans (pk_mul 24 sn)).symm
              refine lv_iload hx hb dX12_carry_151 (lv_at hl 0 rfl) ?_
              refine lv_if_ne (tgt := 160) hx hb dX12_carry_153 (by decide) (fun c_153 => ?_) (fun c_153 => ?_)
              · have t_153 : ((kk : Nat) : Int) ≠ 0 := toI_ne c_153 (nI_toInt (by omega)) (by decide)
                refine lv_iload_n hx hb dX12_carry_160 rfl (lv_at hl 3 rfl) ?_
                refine va_iast (cA := k 0) (n := 26400) (f := (upd g2 ((nI ((24 * sn) + 1))).toNatClampNeg (nI kk))) hx hb hK hP hD hS 1 0 (WR_get 0 (by decide)) (TR_get 0 (by decide)) (vp_in_nI (show (24 * sn) < 26400 by omega) (by omega)) dX12_carry_161 (fun H locs hP hD hS => ?_)
                have e9 : fT vF 0 (upd (upd g2 ((nI ((24 * sn) + 1))).toNatClampNeg (nI kk)) ((nI (24 * sn))).toNatClampNeg qs) = fT (fT vF 0 (upd g2 ((nI ((24 * sn) + 1))).toNatClampNeg (nI kk))) 0 (upd (upd g2 ((nI ((24 * sn) + 1))).toNatClampNeg (nI kk)) ((nI (24 * sn))).toNatClampNeg qs) := (fT_sm _ _ _ _).symm
                have hP : va_P (dC, dI) vwCl (WR a k h0 vi vj (fT vF 0 (upd (upd g2 ((nI ((24 * sn) + 1))).toNatClampNeg (nI kk)) ((nI (24 * sn))).toNatClampNeg qs)) vG) H := by rw [e9, ← WR_F 0 (by decide) _ rfl]; exact hP
                have hD : va_D A (WR a k h0 vi vj (fT vF 0 (upd (upd g2 ((nI ((24 * sn) + 1))).toNatClampNeg (nI kk)) ((nI (24 * sn))).toNatClampNeg qs)) vG) := by rw [e9, ← WR_F 0 (by decide) _ rfl]; exact hD
                clear e9
                refine W.widen (k := 0) (n := 0) (by decide +kernel) (by decide +kernel) ?_
                exact W.vret hx hb hr (fun t9_ ht hW => ⟨⟨(upd (upd g2 ((nI ((24 * sn) + 1))).toNatClampNeg (nI kk)) ((nI (24 * sn))).toNatClampNeg qs), rfl, by (try dsimp only); exact ⟨nu_fin (kk := kk) (qs := qs) (by omega) (by rw [upd_at (by omega), if_neg (by omega), upd_at (by omega), if_pos rfl]) (fun q hq => by rw [upd_at (by omega), if_neg (by omega), upd_at (by omega), if_neg (by omega)]; exact hlm2 q (by omega)) (fun h9 => by rw [upd_at (by omega), if_neg (by omega), upd_at (by omega), if_neg (by omega)]; first | exact c_121 | exact absurd h9 (by omega)) (by rw [lv28_congr (g := g2) (p := 24 * sn + 2) (fun q hq => by rw [upd_at (by omega), if_neg (by omega), upd_at (by omega), if_neg (by omega)])]; exact hlv3) (by rw [upd_at (by omega), if_pos rfl]; first | exact Or.inl ⟨by omega, rfl⟩ | exact Or.inr ⟨by omega, rfl⟩ | exact absurd rfl (by omega)) hsg, fun q hq => by rw [upd_at (by omega), if_neg (by omega), upd_at (by omega), if_neg (by omega)]; exact ho2 q hq⟩, by rw [ht]; exact hP, hD⟩, hS.F ht⟩) hS.2.2 dX12_carry_162
              · have t_153 : ((kk : Nat) : Int) = 0 := toI_nne c_153 (nI_toInt (by omega)) (by decide)
                refine lv_iconst (v := 0) hx hb dX12_carry_156 (by decide) ?_
                refine lv_goto (tgt := 161) hx hb dX12_carry_157 (by decide) ?_
                refine va_iast (cA := k 0) (n := 26400) (f := (upd g2 ((nI ((24 * sn) + 1))).toNatClampNeg (nI kk))) hx hb hK hP hD hS 1 0 (WR_get 0 (by decide)) (TR_get 0 (by decide)) (vp_in_nI (show (24 * sn) < 26400 by omega) (by omega)) dX12_carry_161 (fun H locs hP hD hS => ?_)
                have e9 : fT vF 0 (upd (upd g2 ((nI ((24 * sn) + 1))).toNatClampNeg (nI kk)) ((nI (24 * sn))).toNatClampNeg 0) = fT (fT vF 0 (upd g2 ((nI ((24 * sn) + 1))).toNatClampNeg (nI kk))) 0 (upd (upd g2 ((nI ((24 * sn) + 1))).toNatClampNeg (nI kk)) ((nI (24 * sn))).toNatClampNeg 0) := (fT_sm _ _ _ _).symm
                have hP : va_P (dC, dI) vwCl (WR a k h0 vi vj (fT vF 0 (upd (upd g2 ((nI ((24 * sn) + 1))).toNatClampNeg (nI kk)) ((nI (24 * sn))).toNatClampNeg 0)) vG) H := by rw [e9, ← WR_F 0 (by decide) _ rfl]; exact hP
                have hD : va_D A (WR a k h0 vi vj (fT vF 0 (upd (upd g2 ((nI ((24 * sn) + 1))).toNatClampNeg (nI kk)) ((nI (24 * sn))).toNatClampNeg 0)) vG) := by rw [e9, ← WR_F 0 (by decide) _ rfl]; exact hD
                clear e9
                refine W.widen (k := 0) (n := 0) (by decide +kernel) (by decide +kernel) ?_
                exact W.vret hx hb hr (fun t9_ ht hW => ⟨⟨(upd (upd g2 ((nI ((24 * sn) + 1))).toNatClampNeg (nI kk)) ((nI (24 * sn))).toNatClampNeg 0), rfl, by (try dsimp only); exact ⟨nu_fin (kk := kk) (qs := qs) (by omega) (by rw [upd_at (by omega), if_neg (by omega), upd_at (by omega), if_pos rfl]) (fun q hq => by rw [upd_at (by omega), if_neg (by omega), upd_at (by omega), if_neg (by omega)]; exact hlm2 q (by omega)) (fun h9 => by rw [upd_at (by omega), if_neg (by omega), upd_at (by omega), if_neg (by omega)]; first | exact c_121 | exact absurd h9 (by omega)) (by rw [lv28_congr (g := g2) (p := 24 * sn + 2) (fun q hq => by rw [upd_at (by omega), if_neg (by omega), upd_at (by omega), if_neg (by omega)])]; exact hlv3) (by rw [upd_at (by omega), if_pos rfl]; first | exact Or.inl ⟨by omega, rfl⟩ | exact Or.inr ⟨by omega, rfl⟩ | exact absurd rfl (by omega)) hsg, fun q hq => by rw [upd_at (by omega), if_neg (by omega), upd_at (by omega), if_neg (by omega)]; exact ho2 q hq⟩, by rw [ht]; exact hP, hD⟩, hS.F ht⟩) hS.2.2 dX12_carry_162
            · have t_104 : ¬ ((kk : Nat) : Int) ≤ 0 := toI_nle c_104 (nI_toInt (by omega)) (by decide)
              refine lv_aload_n hx hb dX12_carry_107 rfl (lv_at hl 1 rfl) ?_
              refine va_get (D := (dC, dI)) (ci := 12) (v := .ref (a 0)) (C := RX12) (T := TX12) (N := 163) (fs := fM (vS a vi vj)) hx hb hts iwsRX12_carry_in12 hown hK hP 0 rfl rfl 1 (by decide) (hts (.fieldLink RX12 7 "OptimaWorksModel" "big" "[I") (by decide +kernel)) (fun _ h9 => h9) rfl dX12_carry_108 ?_
              refine lv_bipush (v := 24) hx hb dX12_carry_111 (by decide) ?_
              refine lv_iload_n hx hb dX12_carry_113 rfl (lv_at hl 2 rfl) ?_
              refine lv_imul hx hb dX12_carry_114 ?_
              refine lv_topi (fun y4 hy4 => ?_)
              obtain rfl : (nI (24 * sn)) = y4 := (hy4.trans (pk_mul 24 sn)).symm
              refine lv_iconst (v := 1) hx hb dX12_carry_115 (by decide) ?_
              refine lv_iadd hx hb dX12_carry_116 ?_
              refine lv_topi (fun y5 hy5 => ?_)
              obtain rfl : (nI ((24 * sn) + 1)) = y5 := (hy5.trans (nI_add (24 * sn) 1)).symm
              refine lv_iload hx hb dX12_carry_117 (lv_at hl 0 rfl) ?_
              refine lv_iadd hx hb dX12_carry_119 ?_
              refine lv_topi (fun y6 hy6 => ?_)
              obtain rfl : (nI (((24 * sn) + 1) + kk)) = y6 := (hy6.trans (nI_add ((24 * sn) + 1) kk)).symm
              refine va_iald (cA := k 0) (n := 26400) (f := g2) hx hb hK hP 1 0 (WR_get 0 (by decide)) (TR_get 0 (by decide)) (vp_in_nI (show (((24 * sn) + 1) + kk) < 26400 by omega) (by omega)) dX12_carry_120 ?_
              refine lv_topi (fun y7 hy7 => ?_)
              obtain rfl : (g2 (((24 * sn) + 1) + kk)) = y7 := (hy7.trans (by rw [nI_clamp (by omega)])).symm
              refine lv_if_ne (tgt := 130) hx hb dX12_carry_121 (by decide) (fun c_121 => ?_) (fun c_121 => ?_)
              · have t_121 : ((g2 (((24 * sn) + 1) + kk))).toInt ≠ 0 := toI_ne c_121 rfl (by decide)
                refine lv_aload_n hx hb dX12_carry_130 rfl (lv_at hl 1 rfl) ?_
                refine va_get (D := (dC, dI)) (ci := 12) (v := .ref (a 0)) (C := RX12) (T := TX12) (N := 163) (fs := fM (vS a vi vj)) hx hb hts iwsRX12_carry_in12 hown hK hP 0 rfl rfl 1 (by decide) (hts (.fieldLink RX12 7 "OptimaWorksModel" "big" "[I") (by decide +kernel)) (fun _ h9 => h9) rfl dX12_carry_131 ?_
                refine lv_bipush (v := 24) hx hb dX12_carry_134 (by decide) ?_
                refine lv_iload_n hx hb dX12_carry_136 rfl (lv_at hl 2 rfl) ?_
                refine lv_imul hx hb dX12_carry_137 ?_
                refine lv_topi (fun y8 hy8 => ?_)
                obtain rfl : (nI (24 * sn)) = y8 := (hy8.trans (pk_mul 24 sn)).symm
                refine lv_iconst (v := 1) hx hb dX12_carry_138 (by decide) ?_
                refine lv_iadd hx hb dX12_carry_139 ?_
                refine lv_topi (fun y9 hy9 => ?_)
                obtain rfl : (nI ((24 * sn) + 1)) = y9 := (hy9.trans (nI_add (24 * sn) 1)).symm
                refine lv_iload hx hb dX12_carry_140 (lv_at hl 0 rfl) ?_
                refine va_iast (cA := k 0) (n := 26400) (f := g2) hx hb hK hP hD hS 1 0 (WR_get 0 (by decide)) (TR_get 0 (by decide)) (vp_in_nI (show ((24 * sn) + 1) < 26400 by omega) (by omega)) dX12_carry_142 (fun H locs hP hD hS => ?_)
                have e9 : fT vF 0 (upd g2 ((nI ((24 * sn) + 1))).toNatClampNeg (nI kk)) = fT (fT vF 0 g2) 0 (upd g2 ((nI ((24 * sn) + 1))).toNatClampNeg (nI kk)) := (fT_sm _ _ _ _).symm
                have hP : va_P (dC, dI) vwCl (WR a k h0 vi vj (fT vF 0 (upd g2 ((nI ((24 * sn) + 1))).toNatClampNeg (nI kk))) vG) H := by rw [e9, ← WR_F 0 (by decide) _ rfl]; exact hP
                have hD : va_D A (WR a k h0 vi vj (fT vF 0 (upd g2 ((nI ((24 * sn) + 1))).toNatClampNeg (nI kk))) vG) := by rw [e9, ← WR_F 0 (by decide) _ rfl]; exact hD
                clear e9
                refine lv_aload_n hx hb dX12_carry_143 rfl (lv_at hl 1 rfl) ?_
                refine va_get (D := (dC, dI)) (ci := 12) (v := .ref (a 0)) (C := RX12) (T := TX12) (N := 163) (fs := fM (vS a vi vj)) hx hb hts iwsRX12_carry_in12 hown hK hP 0 rfl rfl 1 (by decide) (hts (.fieldLink RX12 7 "OptimaWorksModel" "big" "[I") (by decide +kernel)) (fun _ h9 => h9) rfl dX12_carry_144 ?_
                refine lv_bipush (v := 24) hx hb dX12_carry_147 (by decide) ?_
                refine lv_iload_n hx hb dX12_carry_149 rfl (lv_at hl 2 rfl) ?_
                refine lv_imul hx hb dX12_carry_150 ?_
                refine lv_topi (fun y10 hy10 => ?_)
                obtain rfl : (nI (24 * sn)) = y10 := (hy10.trans (pk_mul 24 sn)).symm
                refine lv_iload hx hb dX12_carry_151 (lv_at hl 0 rfl) ?_
                refine lv_if_ne (tgt := 160) hx hb dX12_carry_153 (by decide) (fun c_153 => ?_) (fun c_153 => ?_)
                · have t_153 : ((kk : Nat) : Int) ≠ 0 := toI_ne c_153 (nI_toInt (by omega)) (by decide)
                  refine lv_iload_n hx hb dX12_carry_160 rfl (lv_at hl 3 rfl) ?_
                  refine va_iast (cA := k 0) (n := 26400) (f := (upd g2 ((nI ((24 * sn) + 1))).toNatClampNeg (nI kk))) hx hb hK hP hD hS 1 0 (WR_get 0 (by decide)) (TR_get 0 (by decide)) (vp_in_nI (show (24 * sn) < 26400 by omega) (by omega)) dX12_carry_161 (fun H locs hP hD hS => ?_)
                  have e9 : fT vF 0 (upd (upd g2 ((nI ((24 * sn) + 1))).toNatClampNeg (nI kk)) ((nI (24 * sn))).toNatClampNeg qs) = fT (fT vF 0 (upd g2 ((nI ((24 * sn) + 1))).toNatClampNeg (nI kk))) 0 (upd (upd g2 ((nI ((24 * sn) + 1))).toNatClampNeg (nI kk)) ((nI (24 * sn))).toNatClampNeg qs) := (fT_sm _ _ _ _).symm
                  have hP : va_P (dC, dI) vwCl (WR a k h0 vi vj (fT vF 0 (upd (upd g2 ((nI ((24 * sn) + 1))).toNatClampNeg (nI kk)) ((nI (24 * sn))).toNatClampNeg qs)) vG) H := by rw [e9, ← WR_F 0 (by decide) _ rfl]; exact hP
                  have hD : va_D A (WR a k h0 vi vj (fT vF 0 (upd (upd g2 ((nI ((24 * sn) + 1))).toNatClampNeg (nI kk)) ((nI (24 * sn))).toNatClampNeg qs)) vG) := by rw [e9, ← WR_F 0 (by decide) _ rfl]; exact hD
                  clear e9
                  refine W.widen (k := 0) (n := 0) (by decide +kernel) (by decide +kernel) ?_
                  exact W.vret hx hb hr (fun t9_ ht hW => ⟨⟨(upd (upd g2 ((nI ((24 * sn) + 1))).toNatClampNeg (nI kk)) ((nI (24 * sn))).toNatClampNeg qs), rfl, by (try dsimp only); exact ⟨nu_fin (kk := kk) (qs := qs) (by omega) (by rw [upd_at (by omega), if_neg (by omega), upd_at (by omega), if_pos rfl]) (fun q hq => by rw [upd_at (by omega), if_neg (by omega), upd_at (by omega), if_neg (by omega)]; exact hlm2 q (by omega)) (fun h9 => by rw [upd_at (by omega), if_neg (by omega), upd_at (by omega), if_neg (by omega)]; first | exact c_121 | exact absurd h9 (by omega)) (by rw [lv28_congr (g := g2) (p := 24 * sn + 2) (fun q hq => by rw [upd_at (by omega), if_neg (by omega), upd_at (by omega), if_neg (by omega)])]; exact hlv3) (by rw [upd_at (by omega), if_pos rfl]; first | exact Or.inl ⟨by omega, rfl⟩ | exact Or.inr ⟨by omega, rfl⟩ | exact absurd rfl (by omega)) hsg, fun q hq => by rw [upd_at (by omega), if_neg (by omega), upd_at (by omega), if_neg (by omega)]; exact ho2 q hq⟩, by rw [ht]; exact hP, hD⟩, hS.F ht⟩) hS.2.2 dX12_carry_162
                · have t_153 : ((kk : Nat) : Int) = 0 := toI_nne c_153 (nI_toInt (by omega)) (by decide)
                  refine lv_iconst (v := 0) hx hb dX12_carry_156 (by decide) ?_
                  refine lv_goto (tgt := 161) hx hb dX12_carry_157 (by decide) ?_
                  refine va_iast (cA := k 0) (n := 26400) (f := (upd g2 ((nI ((24 * sn) + 1))).toNatClampNeg (nI kk))) hx hb hK hP hD hS 1 0 (WR_get 0 (by decide)) (TR_get 0 (by decide)) (vp_in_nI (show (24 * sn) < 26400 by omega) (by omega)) dX12_carry_161 (fun H locs hP hD hS => ?_)
                  have e9 : fT vF 0 (upd (upd g2 ((nI ((24 * sn) + 1))).toNatClampNeg (nI kk)) ((nI (24 * sn))).toNatClampNeg 0) = fT (fT vF 0 (upd g2 ((nI ((24 * sn) + 1))).toNatClampNeg (nI kk))) 0 (upd (upd g2 ((nI ((24 * sn) + 1))).toNatClampNeg (nI kk)) ((nI (24 * sn))).toNatClampNeg 0) := (fT_sm _ _ _ _).symm
                  have hP : va_P (dC, dI) vwCl (WR a k h0 vi vj (fT vF 0 (upd (upd g2 ((nI ((24 * sn) + 1))).toNatClampNeg (nI kk)) ((nI (24 * sn))).toNatClampNeg 0)) vG) H := by rw [e9, ← WR_F 0 (by decide) _ rfl]; exact hP
                  have hD : va_D A (WR a k h0 vi vj (fT vF 0 (upd (upd g2 ((nI ((24 * sn) + 1))).toNatClampNeg (nI kk)) ((nI (24 * sn))).toNatClampNeg 0)) vG) := by rw [e9, ← WR_F 0 (by decide) _ rfl]; exact hD
                  clear e9
                  refine W.widen (k := 0) (n := 0) (by decide +kernel) (by decide +kernel) ?_
                  exact W.vret hx hb hr (fun t9_ ht hW => ⟨⟨(upd (upd g2 ((nI ((24 * sn) + 1))).toNatClampNeg (nI kk)) ((nI (24 * sn))).toNatClampNeg 0), rfl, by (try dsimp only); exact ⟨nu_fin (kk := kk) (qs := qs) (by omega) (by rw [upd_at (by omega), if_neg (by omega), upd_at (by omega), if_pos rfl]) (fun q hq => by rw [upd_at (by omega), if_neg (by omega), upd_at (by omega), if_neg (by omega)]; exact hlm2 q (by omega)) (fun h9 => by rw [upd_at (by omega), if_neg (by omega), upd_at (by omega), if_neg (by omega)]; first | exact c_121 | exact absurd h9 (by omega)) (by rw [lv28_congr (g := g2) (p := 24 * sn + 2) (fun q hq => by rw [upd_at (by omega), if_neg (by omega), upd_at (by omega), if_neg (by omega)])]; exact hlv3) (by rw [upd_at (by omega), if_pos rfl]; first | exact Or.inl ⟨by omega, rfl⟩ | exact Or.inr ⟨by omega, rfl⟩ | exact absurd rfl (by omega)) hsg, fun q hq => by rw [upd_at (by omega), if_neg (by omega), upd_at (by omega), if_neg (by omega)]; exact ho2 q hq⟩, by rw [ht]; exact hP, hD⟩, hS.F ht⟩) hS.2.2 dX12_carry_162
              · have t_121 : ((g2 (((24 * sn) + 1) + kk))).toInt = 0 := toI_nne c_121 rfl (by decide)
                refine lv_iinc (v := (nI (kk - 1))) hx hb dX12_carry_124 hl (k := 0) rfl (sb_m1 (by omega)) (by decide) rfl (fun ls (hl : lv_has ls _ ([(6, .int (nI (kk - 1))), (0, .ref h0), (1, .int (nI sn)), (3, .int qs)])) => ?_)
                refine lv_goto (tgt := 102) hx hb dX12_carry_127 (by decide) ?_
                have hl : lv_has _ _ ([(6, .int (nI (kk - 1))), (0, .ref h0), (1, .int (nI sn)), (3, .int qs)]) := lv_sub hl [0, 1, 2, 3] rfl
                exact ih102_2 (kk - 1) _ _ _ (by omega) (by obtain ⟨k9, rfl⟩ : ∃ k9, kk = k9 + 1 := ⟨kk - 1, by omega⟩; rw [show k9 + 1 - 1 = k9 by omega]; simp only [lv28] at hlv3; rw [show 24 * sn + 2 + k9 = 24 * sn + 1 + (k9 + 1) by omega, c_121] at hlv3; simpa using hlv3) (by omega) hP hD hS hl
        · have t_65 : ¬ ((rr : Nat) : Int) ≤ 0 := toL_nle c_65 (pk_lT (by omega)) (by decide)
          have hn2 : nn ≤ 21 := lv28_top22 (r := rr) (v := lv28 g2 (24 * sn + 2) nn) (by omega) (by omega)
          refine lv_aload_n hx hb dX12_carry_68 rfl (lv_at hl 2 rfl) ?_
          refine va_get (D := (dC, dI)) (ci := 12) (v := .ref (a 0)) (C := RX12) (T := TX12) (N := 163) (fs := fM (vS a vi vj)) hx hb hts iwsRX12_carry_in12 hown hK hP 0 rfl rfl 1 (by decide) (hts (.fieldLink RX12 7 "OptimaWorksModel" "big" "[I") (by decide +kernel)) (fun _ h9 => h9) rfl dX12_carry_69 ?_
          refine lv_bipush (v := 24) hx hb dX12_carry_72 (by decide) ?_
          refine lv_iload_n hx hb dX12_carry_74 rfl (lv_at hl 3 rfl) ?_
          refine lv_imul hx hb dX12_carry_75 ?_
          refine lv_topi (fun y11 hy11 => ?_)
          obtain rfl : (nI (24 * sn)) = y11 := (hy11.trans (pk_mul 24 sn)).symm
          refine lv_iconst (v := 2) hx hb dX12_carry_76 (by decide) ?_
          refine lv_iadd hx hb dX12_carry_77 ?_
          refine lv_topi (fun y12 hy12 => ?_)
          obtain rfl : (nI ((24 * sn) + 2)) = y12 := (hy12.trans (nI_add (24 * sn) 2)).symm
          refine lv_iload hx hb dX12_carry_78 (lv_at hl 0 rfl) ?_
          refine lv_iadd hx hb dX12_carry_80 ?_
          refine lv_topi (fun y13 hy13 => ?_)
          obtain rfl : (nI (((24 * sn) + 2) + nn)) = y13 := (hy13.trans (nI_add ((24 * sn) + 2) nn)).symm
          refine lv_lload hx hb dX12_carry_81 (lv_at hl 1 rfl) ?_
          refine lv_ldc2 (v := 268435455) hx hb hown (hts (.constantLong RX12 351 268435455) (by decide +kernel)) dX12_carry_83 ?_
          refine lv_land hx hb dX12_carry_86 ?_
          refine lv_topl (fun y14 hy14 => ?_)
          obtain rfl : (lN (rr % 268435456)) = y14 := (hy14.trans (mask28 (by omega))).symm
          refine lv_l2i hx hb dX12_carry_87 rfl ?_
          refine lv_topi (fun y15 hy15 => ?_)
          obtain rfl : (nI (rr % 268435456)) = y15 := (hy15.trans (lN_i _)).symm
          refine va_iast (cA := k 0) (n := 26400) (f := g2) hx hb hK hP hD hS 1 0 (WR_get 0 (by decide)) (TR_get 0 (by decide)) (vp_in_nI (show (((24 * sn) + 2) + nn) < 26400 by omega) (by omega)) dX12_carry_88 (fun H locs hP hD hS => ?_)
          have e9 : fT vF 0 (upd g2 ((nI (((24 * sn) + 2) + nn))).toNatClampNeg (nI (rr % 268435456))) = fT (fT vF 0 g2) 0 (upd g2 ((nI (((24 * sn) + 2) + nn))).toNatClampNeg (nI (rr % 268435456))) := (fT_sm _ _ _ _).symm
          have hP : va_P (dC, dI) vwCl (WR a k h0 vi vj (fT vF 0 (upd g2 ((nI (((24 * sn) + 2) + nn))).toNatClampNeg (nI (rr % 268435456)))) vG) H := by rw [e9, ← WR_F 0 (by decide) _ rfl]; exact hP
          have hD : va_D A (WR a k h0 vi vj (fT vF 0 (upd g2 ((nI (((24 * sn) + 2) + nn))).toNatClampNeg (nI (rr % 268435456)))) vG) := by rw [e9, ← WR_F 0 (by decide) _ rfl]; exact hD
          clear e9
          refine lv_lload hx hb dX12_carry_89 (lv_at hl 1 rfl) ?_
          refine lv_bipush (v := 28) hx hb dX12_carry_91 (by decide) ?_
          refine lv_lshr hx hb dX12_carry_93 rfl ?_
          refine lv_topl (fun y16 hy16 => ?_)
          obtain rfl : (lN (rr / 268435456)) = y16 := (hy16.trans (shr28 (by omega))).symm
          refine lv_lstore hx hb dX12_carry_94 hl (by decide) rfl (fun ls (hl : lv_has ls _ ([(4, .long (lN (rr / 268435456))), (6, .int (nI nn)), (0, .ref h0), (1, .int (nI sn)), (3, .int qs)])) => ?_)
          refine lv_iinc (v := (nI (nn + 1))) hx hb dX12_carry_96 hl (k := 1) rfl (nI_add nn 1) (by decide) rfl (fun ls (hl : lv_has ls _ ([(6, .int (nI (nn + 1))), (4, .long (lN (rr / 268435456))), (0, .ref h0), (1, .int (nI sn)), (3, .int qs)])) => ?_)
          refine lv_goto (tgt := 61) hx hb dX12_carry_99 (by decide) ?_
          have hl : lv_has _ _ ([(6, .int (nI (nn + 1))), (4, .long (lN (rr / 268435456))), (0, .ref h0), (1, .int (nI sn)), (3, .int qs)]) := lv_sub hl [0, 1, 2, 3, 4] rfl
          exact ih61_1 (nn + 1) (rr / 268435456) (upd g2 ((nI (((24 * sn) + 2) + nn))).toNatClampNeg (nI (rr % 268435456))) _ _ _ (by omega) (lv28_step (by omega) hlv2) (by omega) (fun q hq => by rw [upd_at (by omega)]; by_cases e9 : 24 * sn + 2 + q = 24 * sn + 2 + nn; (exact ⟨rr % 268435456, by omega, if_pos e9⟩); (rw [if_neg e9]; exact hlm2 q (by omega))) (fun q hq => by rw [upd_at (by omega), if_neg (by omega)]; exact ho2 q hq) (by omega) hP hD hS hl
    · have t_9 : ¬ ((i : Nat) : Int) ≥ ((n : Nat) : Int) := toI_nge c_9 (nI_toInt (by omega)) (nI_toInt (by omega))
      refine lv_aload_n hx hb dX12_carry_12 rfl (lv_at hl 2 rfl) ?_
      refine va_get (D := (dC, dI)) (ci := 12) (v := .ref (a 1)) (C := RX12) (T := TX12) (N := 163) (fs := fM (vS a vi vj)) hx hb hts iwsRX12_carry_in12 hown hK hP 0 rfl rfl 2 (by decide) (hts (.fieldLink RX12 13 "OptimaWorksModel" "sum" "[J") (by decide +kernel)) (fun _ h9 => h9) rfl dX12_carry_13 ?_
      refine lv_iload hx hb dX12_carry_16 (lv_at hl 0 rfl) ?_
      refine va_lald (cA := k 1) (n := 48) (f := (vG 1)) hx hb hK hP 2 1 (WR_get 1 (by decide)) (TR_get 1 (by decide)) (vp_in_nI (show i < 48 by omega) (by omega)) dX12_carry_18 ?_
      refine lv_topl (fun y17 hy17 => ?_)
      obtain rfl : ((vG 1) i) = y17 := (hy17.trans (by rw [nI_clamp (by omega)])).symm
      refine lv_lload hx hb dX12_carry_19 (lv_at hl 1 rfl) ?_
      refine lv_ladd hx hb dX12_carry_21 ?_
      refine lv_lstore hx hb dX12_carry_22 hl (by decide) rfl (fun ls (hl : lv_has ls _ ([(7, .long (((vG 1) i) + ov)), (6, .int (nI i)), (4, .long ov), (0, .ref h0), (1, .int (nI sn)), (2, .int (nI n)), (3, .int qs)])) => ?_)
      have hb9 := hgs i (by omega)
      have ev : (vG 1 i + ov).toInt = (vG 1 i).toInt + ov.toInt := addJ (by omega) (by omega)
      obtain ⟨md, hmd1, hmd2, hmd3⟩ := maskS (vG 1 i + ov)
      have esh := shrS (vG 1 i + ov)
      refine lv_lload hx hb dX12_carry_24 (lv_at hl 0 rfl) ?_
      refine lv_bipush (v := 28) hx hb dX12_carry_26 (by decide) ?_
      refine lv_lshr hx hb dX12_carry_28 rfl ?_
      refine lv_lstore hx hb dX12_carry_29 hl (by decide) rfl (fun ls (hl : lv_has ls _ ([(4, .long ((((vG 1) i) + ov) >>> ((28 : Int32).toInt64 &&& 63))), (7, .long (((vG 1) i) + ov)), (6, .int (nI i)), (0, .ref h0), (1, .int (nI sn)), (2, .int (nI n)), (3, .int qs)])) => ?_)
      refine lv_aload_n hx hb dX12_carry_31 rfl (lv_at hl 3 rfl) ?_
      refine va_get (D := (dC, dI)) (ci := 12) (v := .ref (a 0)) (C := RX12) (T := TX12) (N := 163) (fs := fM (vS a vi vj)) hx hb hts iwsRX12_carry_in12 hown hK hP 0 rfl rfl 1 (by decide) (hts (.fieldLink RX12 7 "OptimaWorksModel" "big" "[I") (by decide +kernel)) (fun _ h9 => h9) rfl dX12_carry_32 ?_
      refine lv_bipush (v := 24) hx hb dX12_carry_35 (by decide) ?_
      refine lv_iload_n hx hb dX12_carry_37 rfl (lv_at hl 4 rfl) ?_
      refine lv_imul hx hb dX12_carry_38 ?_
      refine lv_topi (fun y18 hy18 => ?_)
      obtain rfl : (nI (24 * sn)) = y18 := (hy18.trans (pk_mul 24 sn)).symm
      refine lv_iconst (v := 2) hx hb dX12_carry_39 (by decide) ?_
      refine lv_iadd hx hb dX12_carry_40 ?_
      refine lv_topi (fun y19 hy19 => ?_)
      obtain rfl : (nI ((24 * sn) + 2)) = y19 := (hy19.trans (nI_add (24 * sn) 2)).symm
      refine lv_iload hx hb dX12_carry_41 (lv_at hl 2 rfl) ?_
      refine lv_iadd hx hb dX12_carry_43 ?_
      refine lv_topi (fun y20 hy20 => ?_)
      obtain rfl : (nI (((24 * sn) + 2) + i)) = y20 := (hy20.trans (nI_add ((24 * sn) + 2) i)).symm
      refine lv_lload hx hb dX12_carry_44 (lv_at hl 1 rfl) ?_
      refine lv_ldc2 (v := 268435455) hx hb hown (hts (.constantLong RX12 351 268435455) (by decide +kernel)) dX12_carry_46 ?_
      refine lv_land hx hb dX12_carry_49 ?_
      refine lv_topl (fun y21 hy21 => ?_)
      obtain rfl : (lN md) = y21 := (hy21.trans (hmd3)).symm
      refine lv_l2i hx hb dX12_carry_50 rfl ?_
      refine lv_topi (fun y22 hy22 => ?_)
      obtain rfl : (nI md) = y22 := (hy22.trans (lN_i _)).symm
      refine va_iast (cA := k 0) (n := 26400) (f := g) hx hb hK hP hD hS 1 0 (WR_get 0 (by decide)) (TR_get 0 (by decide)) (vp_in_nI (show (((24 * sn) + 2) + i) < 26400 by omega) (by omega)) dX12_carry_51 (fun H locs hP hD hS => ?_)
      have e9 : fT vF 0 (upd g ((nI (((24 * sn) + 2) + i))).toNatClampNeg (nI md)) = fT (fT vF 0 g) 0 (upd g ((nI (((24 * sn) + 2) + i))).toNatClampNeg (nI md)) := (fT_sm _ _ _ _).symm
      have hP : va_P (dC, dI) vwCl (WR a k h0 vi vj (fT vF 0 (upd g ((nI (((24 * sn) + 2) + i))).toNatClampNeg (nI md))) vG) H := by rw [e9, ← WR_F 0 (by decide) _ rfl]; exact hP
      have hD : va_D A (WR a k h0 vi vj (fT vF 0 (upd g ((nI (((24 * sn) + 2) + i))).toNatClampNeg (nI md))) vG) := by rw [e9, ← WR_F 0 (by decide) _ rfl]; exact hD
      clear e9
      refine lv_iinc (v := (nI (i + 1))) hx hb dX12_carry_52 hl (k := 2) rfl (nI_add i 1) (by decide) rfl (fun ls (hl : lv_has ls _ ([(6, .int (nI (i + 1))), (4, .long ((((vG 1) i) + ov) >>> ((28 : Int32).toInt64 &&& 63))), (7, .long (((vG 1) i) + ov)), (0, .ref h0), (1, .int (nI sn)), (2, .int (nI n)), (3, .int qs)])) => ?_)
      refine lv_goto (tgt := 6) hx hb dX12_carry_55 (by decide) ?_
      have hl : lv_has _ _ ([(6, .int (nI (i + 1))), (4, .long ((((vG 1) i) + ov) >>> ((28 : Int32).toInt64 &&& 63))), (0, .ref h0), (1, .int (nI sn)), (2, .int (nI n)), (3, .int qs)]) := lv_sub hl [0, 1, 3, 4, 5, 6] rfl
      exact ih6 (i + 1) ((((vG 1) i) + ov) >>> ((28 : Int32).toInt64 &&& 63)) (upd g ((nI (((24 * sn) + 2) + i))).toNatClampNeg (nI md)) _ _ _ (by omega) (by rw [esh, ev]; omega) (by rw [esh]; exact sv_step (by omega) hmd1 hlv ev hmd2) (fun q hq => by rw [upd_at (by omega)]; by_cases e9 : 24 * sn + 2 + q = 24 * sn + 2 + i; (exact ⟨md, by omega, if_pos e9⟩); (rw [if_neg e9]; exact hlm q (by omega))) (fun q hq => by rw [upd_at (by omega), if_neg (by omega)]; exact ho q hq) (by omega) hP hD hS hl
end
section
/-- a limb, or nought behind the last -/
def la28 (f : Nat → Int32) (o n q : Nat) : Int := if q < n then (f (o + q)).toInt else 0
theorem la28_sum {f : Nat → Int32} {o n : Nat} (h : Lm f o n) (w : Nat) {gs : Nat → Int64} (hg : ∀ q, q < w → (gs q).toInt = la28 f o n q) (hw : n ≤ w) : sv28 gs w = ((lv28 f o n : Nat) : Int) := by
  have key : ∀ w, (∀ q, q < w → (gs q).toInt = la28 f o n q) → sv28 gs w = ((lv28 f o (if w ≤ n then w else n) : Nat) : Int) := by
    intro w
    induction w with
    | zero => intro _; simp [sv28, lv28]
    | succ w ih =>
      intro hg
      simp only [sv28]
      rw [ih (fun q hq => hg q (by omega)), hg w (by omega)]
      unfold la28
      by_cases hwn : w < n
      · rw [if_pos hwn, if_pos (by omega), if_pos (by omega)]
        obtain ⟨d, hd, e⟩ := h w hwn
        simp only [lv28]
        rw [e, nI_toInt (by omega), nI_clamp (by omega), Int.natCast_add, Int.natCast_mul]
      · rw [if_neg hwn, Int.zero_mul, Int.add_zero, if_neg (show ¬ w + 1 ≤ n by omega)]
        by_cases e : w = n
        · rw [e, if_pos (Nat.le_refl n)]
        · rw [if_neg (by omega)]
  rw [key w hg]
  by_cases e : w = n
  · rw [e, if_pos (Nat.le_refl n)]
  · rw [if_neg (by omega)]
theorem sv28_lin (gs ga gb : Nat → Int64) (ca cb : Int) (w : Nat) (h : ∀ q, q < w → (gs q).toInt = ca * (ga q).toInt + cb * (gb q).toInt) : sv28 gs w = ca * sv28 ga w + cb * sv28 gb w := by
  induction w with
  | zero => simp [sv28]
  | succ w ih =>
    simp only [sv28]
    rw [ih (fun q hq => h q (by omega)), h w (by omega), Int.add_mul, Int.mul_add, Int.mul_add, Int.mul_assoc, Int.mul_assoc]
    omega
theorem sum28 {f : Nat → Int32} {oa ob na nb w : Nat} (ha : Lm f oa na) (hb : Lm f ob nb) (h1 : na ≤ w) (h2 : nb ≤ w) {gs : Nat → Int64} {ca cb : Int} (h : ∀ q, q < w → (gs q).toInt = ca * la28 f oa na q + cb * la28 f ob nb q) : sv28 gs w = ca * ((lv28 f oa na : Nat) : Int) + cb * ((lv28 f ob nb : Nat) : Int) := by
  have bd : ∀ (o n : Nat), Lm f o n → ∀ q, (Int64.ofInt (la28 f o n q)).toInt = la28 f o n q := fun o n hL q => by
    rw [Int64.toInt_ofInt]
    unfold la28
    by_cases e : q < n
    · rw [if_pos e]
      have := limb_lt hL e
      have hz : Int64.size = 18446744073709551616 := rfl
      exact Int.bmod_eq_of_le (by omega) (by omega)
    · rw [if_neg e]; rfl
  rw [← la28_sum ha w (gs := fun q => Int64.ofInt (la28 f oa na q)) (fun q _ => bd oa na ha q) h1, ← la28_sum hb w (gs := fun q => Int64.ofInt (la28 f ob nb q)) (fun q _ => bd ob nb hb q) h2]
  exact sv28_lin gs _ _ ca cb w (fun q hq => by rw [bd oa na ha, bd ob nb hb]; exact h q hq)
theorem la_bd {f : Nat → Int32} {o n : Nat} (h : Lm f o n) (q : Nat) : 0 ≤ la28 f o n q ∧ la28 f o n q < 268435456 := by
  unfold la28
  by_cases e : q < n
  · rw [if_pos e]; have := limb_lt h e; omega
  · rw [if_neg e]; omega
/-- the product of two signs -/
theorem sgMul {x y : Int32} {X Y : Int} (hx : (X = 0 ∧ x.toInt = 0) ∨ (0 < X ∧ x.toInt = 1) ∨ (X < 0 ∧ x.toInt = -1)) (hy : (Y = 0 ∧ y.toInt = 0) ∨ (0 < Y ∧ y.toInt = 1) ∨ (Y < 0 ∧ y.toInt = -1)) :
    ((x * y).toInt < 0 ∧ ((0 < X ∧ Y < 0) ∨ (X < 0 ∧ 0 < Y))) ∨ (0 ≤ (x * y).toInt ∧ ¬ ((0 < X ∧ Y < 0) ∨ (X < 0 ∧ 0 < Y))) := by
  have h : (x * y).toInt = x.toInt * y.toInt := by
    rw [Int32.toInt_mul]
    rcases hx with ⟨_, h⟩ | ⟨_, h⟩ | ⟨_, h⟩ <;> rcases hy with ⟨_, h'⟩ | ⟨_, h'⟩ | ⟨_, h'⟩ <;> rw [h, h'] <;> rfl
  rcases hx with ⟨a, b⟩ | ⟨a, b⟩ | ⟨a, b⟩ <;> rcases hy with ⟨c, d⟩ | ⟨c, d⟩ | ⟨c, d⟩ <;> rw [b, d] at h <;> omega
theorem sgTimes {x y : Int32} {X Y : Int} (hx : (X = 0 ∧ x.toInt = 0) ∨ (0 < X ∧ x.toInt = 1) ∨ (X < 0 ∧ x.toInt = -1)) (hy : (Y = 1 ∧ y = 1) ∨ (Y = -1 ∧ y = -1)) : (Y * X = 0 ∧ (x * y).toInt = 0) ∨ (0 < Y * X ∧ (x * y).toInt = 1) ∨ (Y * X < 0 ∧ (x * y).toInt = -1) := by
  have h : (x * y).toInt = x.toInt * y.toInt := by
    rw [Int32.toInt_mul]
    rcases hy with ⟨_, h'⟩ | ⟨_, h'⟩ <;> rw [h'] <;> rcases hx with ⟨_, h⟩ | ⟨_, h⟩ | ⟨_, h⟩ <;> rw [h] <;> rfl
  rcases hy with ⟨c, d⟩ | ⟨c, d⟩
  · rw [d] at h ⊢; rw [c]; have e : (1 : Int32).toInt = 1 := by decide
    rw [e] at h; omega
  · rw [d] at h ⊢; rw [c]; have e : (-1 : Int32).toInt = -1 := by decide
    rw [e] at h; omega
theorem of1 {x : Int32} (h : x.toInt = 1) : x = 1 := Int32.toInt_inj.mp (by rw [h]; decide)
theorem ofm1 {x : Int32} (h : x.toInt = -1) : x = -1 := Int32.toInt_inj.mp (by rw [h]; decide)
theorem i64T (x : Int32) : x.toInt64.toInt = x.toInt := Int32.toInt_toInt64 x
theorem subJ {x y : Int64} (hx : -2305843009213693952 ≤ x.toInt ∧ x.toInt ≤ 2305843009213693952) (hy : -2305843009213693952 ≤ y.toInt ∧ y.toInt ≤ 2305843009213693952) : (x - y).toInt = x.toInt - y.toInt := by
  rw [Int64.toInt_sub]
  exact Int.bmod_eq_of_le (by omega) (by omega)
theorem W.cut {p : Program} {l : Launch} {e : Env} {R : Room} {s : State} {m : MethodId} {args : Array Value} {below : List Frame} {meth : Method} {c : Code} {H0 : Heap} {locs0 : List Loc} {n1 n2 : Nat} {Q : State → Prop} {g0 : JFrame} {pc : Nat} (Pre : Heap → List Loc → Array Slot → List Value → Prop)
    (h1 : (∀ H locs ls stk, Pre H locs ls stk → W p l e R s m args below meth c H locs n1 n2 Q (F0 m pc ls stk)) → W p l e R s m args below meth c H0 locs0 n1 n2 Q g0) (h2 : ∀ H locs ls stk, Pre H locs ls stk → W p l e R s m args below meth c H locs n1 n2 Q (F0 m pc ls stk)) : W p l e R s m args below meth c H0 locs0 n1 n2 Q g0 := h1 h2
end
section
theorem hd_yX12_carry_RX12 : yX12_carry.cls = RX12 ∧ yX12_carry.cls ≠ "java/lang/invoke/MethodHandle" ∧ yX12_carry.cls ≠ "java/lang/invoke/VarHandle" ∧ (parseMethodDescriptor yX12_carry.desc).map (fun d => d.parameters.length) = some 3 := by decide +kernel
theorem dX12_add_0 : decode cX12_add 0 = .ok (.aload_n 0, 1) := dk_42 (by decide +kernel)
theorem dX12_add_1 : decode cX12_add 1 = .ok (.iload_n 2, 1) := dk_28 (by decide +kernel)
theorem dX12_add_2 : decode cX12_add 2 = .ok (.invokevirtual 353, 3) := dk_182 (by decide +kernel)
theorem dX12_add_5 : decode cX12_add 5 = .ok (.istore 5, 2) := dk_54 (by decide +kernel)
theorem dX12_add_7 : decode cX12_add 7 = .ok (.aload_n 0, 1) := dk_42 (by decide +kernel)
theorem dX12_add_8 : decode cX12_add 8 = .ok (.iload_n 3, 1) := dk_29 (by decide +kernel)
theorem dX12_add_9 : decode cX12_add 9 = .ok (.invokevirtual 353, 3) := dk_182 (by decide +kernel)
theorem dX12_add_12 : decode cX12_add 12 = .ok (.iload 4, 2) := dk_21 (by decide +kernel)
theorem dX12_add_14 : decode cX12_add 14 = .ok (.imul, 1) := dk_104 (by decide +kernel)
theorem dX12_add_15 : decode cX12_add 15 = .ok (.istore 6, 2) := dk_54 (by decide +kernel)
theorem dX12_add_17 : decode cX12_add 17 = .ok (.aload_n 0, 1) := dk_42 (by decide +kernel)
theorem dX12_add_18 : decode cX12_add 18 = .ok (.getfield 7, 3) := dk_180 (by decide +kernel)
theorem dX12_add_21 : decode cX12_add 21 = .ok (.bipush 24, 2) := dk_16 (by decide +kernel)
theorem dX12_add_23 : decode cX12_add 23 = .ok (.iload_n 2, 1) := dk_28 (by decide +kernel)
theorem dX12_add_24 : decode cX12_add 24 = .ok (.imul, 1) := dk_104 (by decide +kernel)
theorem dX12_add_25 : decode cX12_add 25 = .ok (.iconst 1, 1) := dk_4 (by decide +kernel)
theorem dX12_add_26 : decode cX12_add 26 = .ok (.iadd, 1) := dk_96 (by decide +kernel)
theorem dX12_add_27 : decode cX12_add 27 = .ok (.iaload, 1) := dk_46 (by decide +kernel)
theorem dX12_add_28 : decode cX12_add 28 = .ok (.istore 7, 2) := dk_54 (by decide +kernel)
theorem dX12_add_30 : decode cX12_add 30 = .ok (.aload_n 0, 1) := dk_42 (by decide +kernel)
theorem dX12_add_31 : decode cX12_add 31 = .ok (.getfield 7, 3) := dk_180 (by decide +kernel)
theorem dX12_add_34 : decode cX12_add 34 = .ok (.bipush 24, 2) := dk_16 (by decide +kernel)
theorem dX12_add_36 : decode cX12_add 36 = .ok (.iload_n 3, 1) := dk_29 (by decide +kernel)
theorem dX12_add_37 : decode cX12_add 37 = .ok (.imul, 1) := dk_104 (by decide +kernel)
theorem dX12_add_38 : decode cX12_add 38 = .ok (.iconst 1, 1) := dk_4 (by decide +kernel)
theorem dX12_add_39 : decode cX12_add 39 = .ok (.iadd, 1) := dk_96 (by decide +kernel)
theorem dX12_add_40 : decode cX12_add 40 = .ok (.iaload, 1) := dk_46 (by decide +kernel)
theorem dX12_add_41 : decode cX12_add 41 = .ok (.istore 8, 2) := dk_54 (by decide +kernel)
theorem dX12_add_43 : decode cX12_add 43 = .ok (.iload 7, 2) := dk_21 (by decide +kernel)
theorem dX12_add_45 : decode cX12_add 45 = .ok (.iload 8, 2) := dk_21 (by decide +kernel)
theorem dX12_add_47 : decode cX12_add 47 = .ok (.if_icmp .le 8, 3) := dk_164 (by decide +kernel)
theorem dX12_add_50 : decode cX12_add 50 = .ok (.iload 7, 2) := dk_21 (by decide +kernel)
theorem dX12_add_52 : decode cX12_add 52 = .ok (.goto 5, 3) := dk_167 (by decide +kernel)
theorem dX12_add_55 : decode cX12_add 55 = .ok (.iload 8, 2) := dk_21 (by decide +kernel)
theorem dX12_add_57 : decode cX12_add 57 = .ok (.istore 9, 2) := dk_54 (by decide +kernel)
theorem dX12_add_59 : decode cX12_add 59 = .ok (.iload 5, 2) := dk_21 (by decide +kernel)
theorem dX12_add_61 : decode cX12_add 61 = .ok (.iload 6, 2) := dk_21 (by decide +kernel)
theorem dX12_add_63 : decode cX12_add 63 = .ok (.imul, 1) := dk_104 (by decide +kernel)
theorem dX12_add_64 : decode cX12_add 64 = .ok (.ifCond .ge 16, 3) := dk_156 (by decide +kernel)
theorem dX12_add_67 : decode cX12_add 67 = .ok (.aload_n 0, 1) := dk_42 (by decide +kernel)
theorem dX12_add_68 : decode cX12_add 68 = .ok (.iload_n 2, 1) := dk_28 (by decide +kernel)
theorem dX12_add_69 : decode cX12_add 69 = .ok (.iload_n 3, 1) := dk_29 (by decide +kernel)
theorem dX12_add_70 : decode cX12_add 70 = .ok (.invokevirtual 357, 3) := dk_182 (by decide +kernel)
theorem dX12_add_73 : decode cX12_add 73 = .ok (.ifCond .ge 7, 3) := dk_156 (by decide +kernel)
theorem dX12_add_76 : decode cX12_add 76 = .ok (.iconst 1, 1) := dk_4 (by decide +kernel)
theorem dX12_add_77 : decode cX12_add 77 = .ok (.goto 4, 3) := dk_167 (by decide +kernel)
theorem dX12_add_80 : decode cX12_add 80 = .ok (.iconst 0, 1) := dk_3 (by decide +kernel)
theorem dX12_add_81 : decode cX12_add 81 = .ok (.istore 10, 2) := dk_54 (by decide +kernel)
theorem dX12_add_83 : decode cX12_add 83 = .ok (.iconst 0, 1) := dk_3 (by decide +kernel)
theorem dX12_add_84 : decode cX12_add 84 = .ok (.istore 11, 2) := dk_54 (by decide +kernel)
theorem dX12_add_86 : decode cX12_add 86 = .ok (.iload 11, 2) := dk_21 (by decide +kernel)
theorem dX12_add_88 : decode cX12_add 88 = .ok (.iload 9, 2) := dk_21 (by decide +kernel)
theorem dX12_add_90 : decode cX12_add 90 = .ok (.if_icmp .ge 106, 3) := dk_162 (by decide +kernel)
theorem dX12_add_93 : decode cX12_add 93 = .ok (.iload 11, 2) := dk_21 (by decide +kernel)
theorem dX12_add_95 : decode cX12_add 95 = .ok (.iload 7, 2) := dk_21 (by decide +kernel)
theorem dX12_add_97 : decode cX12_add 97 = .ok (.if_icmp .ge 21, 3) := dk_162 (by decide +kernel)
theorem dX12_add_100 : decode cX12_add 100 = .ok (.aload_n 0, 1) := dk_42 (by decide +kernel)
theorem dX12_add_101 : decode cX12_add 101 = .ok (.getfield 7, 3) := dk_180 (by decide +kernel)
theorem dX12_add_104 : decode cX12_add 104 = .ok (.bipush 24, 2) := dk_16 (by decide +kernel)
theorem dX12_add_106 : decode cX12_add 106 = .ok (.iload_n 2, 1) := dk_28 (by decide +kernel)
theorem dX12_add_107 : decode cX12_add 107 = .ok (.imul, 1) := dk_104 (by decide +kernel)
theorem dX12_add_108 : decode cX12_add 108 = .ok (.iconst 2, 1) := dk_5 (by decide +kernel)
theorem dX12_add_109 : decode cX12_add 109 = .ok (.iadd, 1) := dk_96 (by decide +kernel)
theorem dX12_add_110 : decode cX12_add 110 = .ok (.iload 11, 2) := dk_21 (by decide +kernel)
theorem dX12_add_112 : decode cX12_add 112 = .ok (.iadd, 1) := dk_96 (by decide +kernel)
theorem dX12_add_113 : decode cX12_add 113 = .ok (.iaload, 1) := dk_46 (by decide +kernel)
theorem dX12_add_114 : decode cX12_add 114 = .ok (.i2l, 1) := dk_133 (by decide +kernel)
theorem dX12_add_115 : decode cX12_add 115 = .ok (.goto 4, 3) := dk_167 (by decide +kernel)
theorem dX12_add_118 : decode cX12_add 118 = .ok (.lconst 0, 1) := dk_9 (by decide +kernel)
theorem dX12_add_119 : decode cX12_add 119 = .ok (.lstore 12, 2) := dk_55 (by decide +kernel)
theorem dX12_add_121 : decode cX12_add 121 = .ok (.iload 11, 2) := dk_21 (by decide +kernel)
theorem dX12_add_123 : decode cX12_add 123 = .ok (.iload 8, 2) := dk_21 (by decide +kernel)
theorem dX12_add_125 : decode cX12_add 125 = .ok (.if_icmp .ge 21, 3) := dk_162 (by decide +kernel)
theorem dX12_add_128 : decode cX12_add 128 = .ok (.aload_n 0, 1) := dk_42 (by decide +kernel)
theorem dX12_add_129 : decode cX12_add 129 = .ok (.getfield 7, 3) := dk_180 (by decide +kernel)
theorem dX12_add_132 : decode cX12_add 132 = .ok (.bipush 24, 2) := dk_16 (by decide +kernel)
theorem dX12_add_134 : decode cX12_add 134 = .ok (.iload_n 3, 1) := dk_29 (by decide +kernel)
theorem dX12_add_135 : decode cX12_add 135 = .ok (.imul, 1) := dk_104 (by decide +kernel)
theorem dX12_add_136 : decode cX12_add 136 = .ok (.iconst 2, 1) := dk_5 (by decide +kernel)
theorem dX12_add_137 : decode cX12_add 137 = .ok (.iadd, 1) := dk_96 (by decide +kernel)
theorem dX12_add_138 : decode cX12_add 138 = .ok (.iload 11, 2) := dk_21 (by decide +kernel)
theorem dX12_add_140 : decode cX12_add 140 = .ok (.iadd, 1) := dk_96 (by decide +kernel)
theorem dX12_add_141 : decode cX12_add 141 = .ok (.iaload, 1) := dk_46 (by decide +kernel)
theorem dX12_add_142 : decode cX12_add 142 = .ok (.i2l, 1) := dk_133 (by decide +kernel)
theorem dX12_add_143 : decode cX12_add 143 = .ok (.goto 4, 3) := dk_167 (by decide +kernel)
theorem dX12_add_146 : decode cX12_add 146 = .ok (.lconst 0, 1) := dk_9 (by decide +kernel)
theorem dX12_add_147 : decode cX12_add 147 = .ok (.lstore 14, 2) := dk_55 (by decide +kernel)
theorem dX12_add_149 : decode cX12_add 149 = .ok (.aload_n 0, 1) := dk_42 (by decide +kernel)
theorem dX12_add_150 : decode cX12_add 150 = .ok (.getfield 13, 3) := dk_180 (by decide +kernel)
theorem dX12_add_153 : decode cX12_add 153 = .ok (.iload 11, 2) := dk_21 (by decide +kernel)
theorem dX12_add_155 : decode cX12_add 155 = .ok (.iload 5, 2) := dk_21 (by decide +kernel)
theorem dX12_add_157 : decode cX12_add 157 = .ok (.iload 6, 2) := dk_21 (by decide +kernel)
theorem dX12_add_159 : decode cX12_add 159 = .ok (.imul, 1) := dk_104 (by decide +kernel)
theorem dX12_add_160 : decode cX12_add 160 = .ok (.ifCond .lt 11, 3) := dk_155 (by decide +kernel)
theorem dX12_add_163 : decode cX12_add 163 = .ok (.lload 12, 2) := dk_22 (by decide +kernel)
theorem dX12_add_165 : decode cX12_add 165 = .ok (.lload 14, 2) := dk_22 (by decide +kernel)
theorem dX12_add_167 : decode cX12_add 167 = .ok (.ladd, 1) := dk_97 (by decide +kernel)
theorem dX12_add_168 : decode cX12_add 168 = .ok (.goto 21, 3) := dk_167 (by decide +kernel)
theorem dX12_add_171 : decode cX12_add 171 = .ok (.iload 10, 2) := dk_21 (by decide +kernel)
theorem dX12_add_173 : decode cX12_add 173 = .ok (.ifCond .eq 11, 3) := dk_153 (by decide +kernel)
theorem dX12_add_176 : decode cX12_add 176 = .ok (.lload 14, 2) := dk_22 (by decide +kernel)
theorem dX12_add_178 : decode cX12_add 178 = .ok (.lload 12, 2) := dk_22 (by decide +kernel)
theorem dX12_add_180 : decode cX12_add 180 = .ok (.lsub, 1) := dk_101 (by decide +kernel)
theorem dX12_add_181 : decode cX12_add 181 = .ok (.goto 8, 3) := dk_167 (by decide +kernel)
theorem dX12_add_184 : decode cX12_add 184 = .ok (.lload 12, 2) := dk_22 (by decide +kernel)
theorem dX12_add_186 : decode cX12_add 186 = .ok (.lload 14, 2) := dk_22 (by decide +kernel)
theorem dX12_add_188 : decode cX12_add 188 = .ok (.lsub, 1) := dk_101 (by decide +kernel)
theorem dX12_add_189 : decode cX12_add 189 = .ok (.lastore, 1) := dk_80 (by decide +kernel)
theorem dX12_add_190 : decode cX12_add 190 = .ok (.iinc 11 1, 3) := dk_132 (by decide +kernel)
theorem dX12_add_193 : decode cX12_add 193 = .ok (.goto (-107), 3) := dk_167 (by decide +kernel)
theorem dX12_add_196 : decode cX12_add 196 = .ok (.aload_n 0, 1) := dk_42 (by decide +kernel)
theorem dX12_add_197 : decode cX12_add 197 = .ok (.iload_n 1, 1) := dk_27 (by decide +kernel)
theorem dX12_add_198 : decode cX12_add 198 = .ok (.iload 9, 2) := dk_21 (by decide +kernel)
theorem dX12_add_200 : decode cX12_add 200 = .ok (.iload 5, 2) := dk_21 (by decide +kernel)
theorem dX12_add_202 : decode cX12_add 202 = .ok (.iload 6, 2) := dk_21 (by decide +kernel)
theorem dX12_add_204 : decode cX12_add 204 = .ok (.imul, 1) := dk_104 (by decide +kernel)
theorem dX12_add_205 : decode cX12_add 205 = .ok (.ifCond .lt 18, 3) := dk_155 (by decide +kernel)
theorem dX12_add_208 : decode cX12_add 208 = .ok (.iload 5, 2) := dk_21 (by decide +kernel)
theorem dX12_add_210 : decode cX12_add 210 = .ok (.ifCond .eq 8, 3) := dk_153 (by decide +kernel)
theorem dX12_add_213 : decode cX12_add 213 = .ok (.iload 5, 2) := dk_21 (by decide +kernel)
theorem dX12_add_215 : decode cX12_add 215 = .ok (.goto 20, 3) := dk_167 (by decide +kernel)
theorem dX12_add_218 : decode cX12_add 218 = .ok (.iload 6, 2) := dk_21 (by decide +kernel)
theorem dX12_add_220 : decode cX12_add 220 = .ok (.goto 15, 3) := dk_167 (by decide +kernel)
theorem dX12_add_223 : decode cX12_add 223 = .ok (.iload 10, 2) := dk_21 (by decide +kernel)
theorem dX12_add_225 : decode cX12_add 225 = .ok (.ifCond .eq 8, 3) := dk_153 (by decide +kernel)
theorem dX12_add_228 : decode cX12_add 228 = .ok (.iload 6, 2) := dk_21 (by decide +kernel)
theorem dX12_add_230 : decode cX12_add 230 = .ok (.goto 5, 3) := dk_167 (by decide +kernel)
theorem dX12_add_233 : decode cX12_add 233 = .ok (.iload 5, 2) := dk_21 (by decide +kernel)
theorem dX12_add_235 : decode cX12_add 235 = .ok (.invokevirtual 361, 3) := dk_182 (by decide +kernel)
theorem dX12_add_238 : decode cX12_add 238 = .ok (.return_, 1) := dk_177 (by decide +kernel)
def wsRX12_add : List Cond := .code yX12_add cX12_add 16 none :: ([.fieldLink RX12 7 "OptimaWorksModel" "big" "[I", .fieldLink RX12 13 "OptimaWorksModel" "sum" "[J"] ++ wsX120 ++ (wsV RX12 353 RX12 yX12_sign wsRX12_sign) ++ (wsV RX12 361 RX12 yX12_carry wsRX12_carry) ++ (wsV RX12 357 RX12 yX12_bare wsRX12_bare))
theorem iwsRX12_add_in12 : ∀ w ∈ wsX120, w ∈ wsRX12_add := fun _ h => List.mem_cons_of_mem _ (List.mem_append_left _ (List.mem_append_left _ (List.mem_append_left _ (List.mem_append_right _ h))))
theorem gwsRX12_add_0 : GoodIn wsRX12_add (wsV RX12 353 RX12 yX12_sign wsRX12_sign) := goodIn_sub (fun _ h => List.mem_cons_of_mem _ (List.mem_append_left _ (List.mem_append_left _ (List.mem_append_right _ h)))) (by decide +kernel)
theorem gwsRX12_add_1 : GoodIn wsRX12_add (wsV RX12 361 RX12 yX12_carry wsRX12_carry) := goodIn_sub (fun _ h => List.mem_cons_of_mem _ (List.mem_append_left _ (List.mem_append_right _ h))) (by decide +kernel)
theorem gwsRX12_add_2 : GoodIn wsRX12_add (wsV RX12 357 RX12 yX12_bare wsRX12_bare) := goodIn_sub (fun _ h => List.mem_cons_of_mem _ (List.mem_append_right _ h)) (by decide +kernel)
set_option maxHeartbeats 4000000 in
set_option maxRecDepth 100000 in
/-- add(s, a, b, how) -/
theorem r_X12_add (l : Launch) (dC : Nat → ClassId) (dI : Nat → Nat → Nat) (a : Nat → Nat) (k : Nat → ClassId) (h0 : Nat) (vi : Nat → Int32) (vj : Nat → Int64) (vF : Nat → Nat → Int32) (vG : Nat → Nat → Int64) (sn : Nat) (hs : sn < 1100) (an : Nat) (bn : Nat) (xa : Int) (xb : Int) (hw : Int32) (hI : Int) (hna : an < 1100) (hnb : bn < 1100) (hxa : Nu (vF 0) an xa) (hxb : Nu (vF 0) bn xb) (hhw : (hI = 1 ∧ hw = 1) ∨ (hI = -1 ∧ hw = -1)) (hbig : (xa + hI * xb).natAbs < 2 ^ 616) (sz : Nat) : Met l yX12_add wsRX12_add ({ frames := 1, cells := 0, slots := 0, locals := 28 }) (va_Pc [.ref h0, .int (nI sn), .int (nI an), .int (nI bn), .int hw] (fun U => U.heap.size = sz ∧ va_P (dC, dI) vwCl (WR a k h0 vi vj vF vG) U.heap ∧ va_K (dC, dI) vwCl (tX12 k) U ∧ va_D (fun _ => True) (WR a k h0 vi vj vF vG))) (va_Qv (fun (u : (Nat → Int32) × (Nat → Int64)) => (Nu (u.1) sn (xa + hI * xb)) ∧ (∀ q, (q < 24 * sn ∨ 24 * sn + 24 ≤ q) → (u.1) q = vF 0 q)) (fun (u : (Nat → Int32) × (Nat → Int64)) t => va_P (dC, dI) vwCl (WR a k h0 vi vj (fT vF 0 (u.1)) (fT vG 1 (u.2))) t.heap ∧ va_D (va_A (WR a k h0 vi vj vF vG) sz) (WR a k h0 vi vj (fT vF 0 (u.1)) (fT vG 1 (u.2)))) (va_A (WR a k h0 vi vj vF vG) sz)) 0 0 (va_A (WR a k h0 vi vj vF vG) sz) := by
  refine Met.ofW (cc := cX12_add) (maxL := 16) (ret := none) (by decide) rfl ?_
  intro p e s m args below meth c s₁ B hml hv
  obtain ⟨rfl, hsz, hP, hK, hD0⟩ := hv
  have hx := B.exec
  have hb := B.bytes
  have hr := B.returns
  have hts := atoms_spec (ws := wsRX12_add) B.pre
  have hown : s.vm.findClass RX12 = some m.cls := findClass_of_methodNamed B.named
  have hlocks := B.notSynchronized
  subst hsz
  have hD := hD0.self (sz := s.heap.size)
  generalize hAe : va_A (WR a k h0 vi vj vF vG) s.heap.size = A at hD ⊢
  have hA : ∀ q : Nat, s.heap.size ≤ q → A q := fun q h => by rw [← hAe]; exact Or.inr h
  have hS : va_S A s.heap s.heap [] := va_S.rf
  have hl := lv_entry ([.ref h0, .int (nI sn), .int (nI an), .int (nI bn), .int hw]) (n := 16) (Nat.le_of_ble_eq_true rfl)
  rw [lg_entry_eq]
  generalize (lg_sl ([.ref h0, .int (nI sn), .int (nI an), .int (nI bn), .int hw]) ++ List.replicate (16 - (lg_sl ([.ref h0, .int (nI sn), .int (nI an), .int (nI bn), .int hw])).length) Slot.unset).toArray = ls at hl ⊢
  have hl : lv_has ls 16 [(0, .ref h0), (1, .int (nI sn)), (2, .int (nI an)), (3, .int (nI bn)), (4, .int hw)] := hl
  obtain ⟨na, hna1, hna2, hna3, hna4, hna5, hna6⟩ := id hxa
  obtain ⟨nb_, hnb1, hnb2, hnb3, hnb4, hnb5, hnb6⟩ := id hxb
  have sa := sgT hna6
  have sb := sgTimes (sgT hnb6) hhw
  have sxy := sgMul sa sb
  have hyb : (hI * xb).natAbs = xb.natAbs := by rcases hhw with ⟨h9, _⟩ | ⟨h9, _⟩ <;> rw [h9] <;> omega
  generalize hYB : hI * xb = yb at *
  refine lv_aload_n hx hb dX12_add_0 rfl (lv_at hl 0 rfl) ?_
  refine lv_iload_n hx hb dX12_add_1 rfl (lv_at hl 2 rfl) ?_
  have hFc := allFree hD hS hA
  refine va_calli (va_runV (As := [.int (nI an)]) (rest := []) ⟨hx, hb, hml, hown, hts⟩ (r_X12_sign l dC dI a k h0 vi vj vF vG an (by first | with_reducible assumption | decide | omega | rfl | assumption) s.heap.size) (cwV 1 hts gwsRX12_add_0 rfl rfl rfl hd_yX12_sign_RX12 (by decide +kernel)) (fz_pre (va_recv hK hP (ci := 12) (q0 := 0) rfl rfl) hP hK hD) rfl rfl hl.1 rfl (lv_room (Nat.le_of_ble_eq_true rfl)) dX12_add_2 (by decide +kernel)) hS (fun q _ h => hFc q h) hFc (fun r2 u t9_ H locs ht hvm hw9 hB9 hz1 hk1 hS => ?_)
  have hP : va_P (dC, dI) vwCl (WR a k h0 vi vj vF vG) H := fz_P ht hB9.1
  have hD : va_D A (WR a k h0 vi vj vF vG) := hB9.2.weaken (fun _ q _ h => hFc q.1 h)
  obtain rfl := hw9
  refine lv_istore hx hb dX12_add_5 hl (by decide) rfl (fun ls (hl : lv_has ls _ ([(5, .int (vF 0 (24 * an))), (0, .ref h0), (1, .int (nI sn)), (2, .int (nI an)), (3, .int (nI bn)), (4, .int hw)])) => ?_)
  refine lv_aload_n hx hb dX12_add_7 rfl (lv_at hl 1 rfl) ?_
  refine lv_iload_n hx hb dX12_add_8 rfl (lv_at hl 4 rfl) ?_
  have hFc := allFree hD hS hA
  refine va_calli (va_runV (As := [.int (nI bn)]) (rest := []) ⟨hx, hb, hml, hown, hts⟩ (r_X12_sign l dC dI a k h0 vi vj vF vG bn (by first | with_reducible assumption | decide | omega | rfl | assumption) H.size) (cwV 1 hts gwsRX12_add_0 rfl rfl rfl hd_yX12_sign_RX12 (by decide +kernel)) (fz_pre (va_recv hK hP (ci := 12) (q0 := 0) rfl rfl) hP hK hD) rfl rfl hl.1 rfl (lv_room (Nat.le_of_ble_eq_true rfl)) dX12_add_9 (by decide +kernel)) hS (fun q _ h => hFc q h) hFc (fun r9 u t9_ H locs ht hvm hw9 hB9 hz1 hk1 hS => ?_)
  have hP : va_P (dC, dI) vwCl (WR a k h0 vi vj vF vG) H := fz_P ht hB9.1
  have hD : va_D A (WR a k h0 vi vj vF vG) := hB9.2.weaken (fun _ q _ h => hFc q.1 h)
  obtain rfl := hw9
  refine lv_iload hx hb dX12_add_12 (lv_at hl 5 rfl) ?_
  refine lv_imul hx hb dX12_add_14 ?_
  refine lv_istore hx hb dX12_add_15 hl (by decide) rfl (fun ls (hl : lv_has ls _ ([(6, .int ((vF 0 (24 * bn)) * hw)), (5, .int (vF 0 (24 * an))), (0, .ref h0), (1, .int (nI sn)), (2, .int (nI an)), (3, .int (nI bn)), (4, .int hw)])) => ?_)
  refine lv_aload_n hx hb dX12_add_17 rfl (lv_at hl 2 rfl) ?_
  refine va_get (D := (dC, dI)) (ci := 12) (v := .ref (a 0)) (C := RX12) (T := TX12) (N := 163) (fs := fM (vS a vi vj)) hx hb hts iwsRX12_add_in12 hown hK hP 0 rfl rfl 1 (by decide) (hts (.fieldLink RX12 7 "OptimaWorksModel" "big" "[I") (by decide +kernel)) (fun _ h9 => h9) rfl dX12_add_18 ?_
  refine lv_bipush (v := 24) hx hb dX12_add_21 (by decide) ?_
  refine lv_iload_n hx hb dX12_add_23 rfl (lv_at hl 4 rfl) ?_
  refine lv_imul hx hb dX12_add_24 ?_
  refine lv_topi (fun y1 hy1 => ?_)
  obtain rfl : (nI (24 * an)) = y1 := (hy1.trans (pk_mul 24 an)).symm
  refine lv_iconst (v := 1) hx hb dX12_add_25 (by decide) ?_
  refine lv_iadd hx hb dX12_add_26 ?_
  refine lv_topi (fun y2 hy2 => ?_)
  obtain rfl : (nI ((24 * an) + 1)) = y2 := (hy2.trans (nI_add (24 * an) 1)).symm
  refine va_iald (cA := k 0) (n := 26400) (f := (vF 0)) hx hb hK hP 1 0 (WR_get 0 (by decide)) (TR_get 0 (by decide)) (vp_in_nI (show ((24 * an) + 1) < 26400 by omega) (by omega)) dX12_add_27 ?_
  refine lv_topi (fun y3 hy3 => ?_)
  obtain rfl : ((vF 0) ((24 * an) + 1)) = y3 := (hy3.trans (by rw [nI_clamp (by omega)])).symm
  refine lv_topi (fun y4 hy4 => ?_)
  obtain rfl : (nI na) = y4 := (hy4.trans (hna2)).symm
  refine lv_istore hx hb dX12_add_28 hl (by decide) rfl (fun ls (hl : lv_has ls _ ([(7, .int (nI na)), (6, .int ((vF 0 (24 * bn)) * hw)), (5, .int (vF 0 (24 * an))), (0, .ref h0), (1, .int (nI sn)), (2, .int (nI an)), (3, .int (nI bn)), (4, .int hw)])) => ?_)
  refine lv_aload_n hx hb dX12_add_30 rfl (lv_at hl 3 rfl) ?_
  refine va_get (D := (dC, dI)) (ci := 12) (v := .ref (a 0)) (C := RX12) (T := TX12) (N := 163) (fs := fM (vS a vi vj)) hx hb hts iwsRX12_add_in12 hown hK hP 0 rfl rfl 1 (by decide) (hts (.fieldLink RX12 7 "OptimaWorksModel" "big" "[I") (by decide +kernel)) (fun _ h9 => h9) rfl dX12_add_31 ?_
  refine lv_bipush (v := 24) hx hb dX12_add_34 (by decide) ?_
  refine lv_iload_n hx hb dX12_add_36 rfl (lv_at hl 6 rfl) ?_
  refine lv_imul hx hb dX12_add_37 ?_
  refine lv_topi (fun y5 hy5 => ?_)
  obtain rfl : (nI (24 * bn)) = y5 := (hy5.trans (pk_mul 24 bn)).symm
  refine lv_iconst (v := 1) hx hb dX12_add_38 (by decide) ?_
  refine lv_iadd hx hb dX12_add_39 ?_
  refine lv_topi (fun y6 hy6 => ?_)
  obtain rfl : (nI ((24 * bn) + 1)) = y6 := (hy6.trans (nI_add (24 * bn) 1)).symm
  refine va_iald (cA := k 0) (n := 26400) (f := (vF 0)) hx hb hK hP 1 0 (WR_get 0 (by decide)) (TR_get 0 (by decide)) (vp_in_nI (show ((24 * bn) + 1) < 26400 by omega) (by omega)) dX12_add_40 ?_
  refine lv_topi (fun y7 hy7 => ?_)
  obtain rfl : ((vF 0) ((24 * bn) + 1)) = y7 := (hy7.trans (by rw [nI_clamp (by omega)])).symm
  refine lv_topi (fun y8 hy8 => ?_)
  obtain rfl : (nI nb_) = y8 := (hy8.trans (hnb2)).symm
  refine lv_istore hx hb dX12_add_41 hl (by decide) rfl (fun ls (hl : lv_has ls _ ([(8, .int (nI nb_)), (7, .int (nI na)), (6, .int ((vF 0 (24 * bn)) * hw)), (5, .int (vF 0 (24 * an))), (0, .ref h0), (1, .int (nI sn)), (2, .int (nI an)), (3, .int (nI bn)), (4, .int hw)])) => ?_)
  refine lv_iload hx hb dX12_add_43 (lv_at hl 1 rfl) ?_
  refine lv_iload hx hb dX12_add_45 (lv_at hl 0 rfl) ?_
  refine W.cut (pc := 57) (fun H locs ls stk => ∃ (wn : Nat), (na ≤ wn) ∧ (nb_ ≤ wn) ∧ (wn ≤ 22) ∧  stk = [.int (nI wn)] ∧ va_P (dC, dI) vwCl (WR a k h0 vi vj vF vG) H ∧ va_D A (WR a k h0 vi vj vF vG) ∧ va_S A s.heap H locs ∧ lv_has ls 16 [(8, .int (nI nb_)), (7, .int (nI na)), (6, .int ((vF 0 (24 * bn)) * hw)), (5, .int (vF 0 (24 * an))), (0, .ref h0), (1, .int (nI sn)), (2, .int (nI an)), (3, .int (nI bn)), (4, .int hw)]) (fun join1 => ?_) ?_
  · refine lv_icmp_le (tgt := 55) hx hb dX12_add_47 (by decide) (fun c_47 => ?_) (fun c_47 => ?_)
    · have t_47 : ((na : Nat) : Int) ≤ ((nb_ : Nat) : Int) := toI_le c_47 (nI_toInt (by omega)) (nI_toInt (by omega))
      refine lv_iload hx hb dX12_add_55 (lv_at hl 0 rfl) ?_
      have hl : lv_has _ _ ([(8, .int (nI nb_)), (7, .int (nI na)), (6, .int ((vF 0 (24 * bn)) * hw)), (5, .int (vF 0 (24 * an))), (0, .ref h0), (1, .int (nI sn)), (2, .int (nI an)), (3, .int (nI bn)), (4, .int hw)]) := lv_sub hl [0, 1, 2, 3, 4, 5, 6, 7, 8] rfl
      exact join1 _ _ _ _ ⟨nb_, by omega, by omega, by omega, rfl, hP, hD, hS, hl⟩
    · have t_47 : ¬ ((na : Nat) : Int) ≤ ((nb_ : Nat) : Int) := toI_nle c_47 (nI_toInt (by omega)) (nI_toInt (by omega))
      refine lv_iload hx hb dX12_add_50 (lv_at hl 1 rfl) ?_
      refine lv_goto (tgt := 57) hx hb dX12_add_52 (by decide) ?_
      have hl : lv_has _ _ ([(8, .int (nI nb_)), (7, .int (nI na)), (6, .int ((vF 0 (24 * bn)) * hw)), (5, .int (vF 0 (24 * an))), (0, .ref h0), (1, .int (nI sn)), (2, .int (nI an)), (3, .int (nI bn)), (4, .int hw)]) := lv_sub hl [0, 1, 2, 3, 4, 5, 6, 7, 8] rfl
      exact join1 _ _ _ _ ⟨na, by omega, by omega, by omega, rfl, hP, hD, hS, hl⟩
  · rintro H locs ls stk ⟨wn, hwn2, hwn3, hwn4, rfl, hP, hD, hS, hl⟩
    refine lv_istore hx hb dX12_add_57 hl (by decide) rfl (fun ls (hl : lv_has ls _ ([(9, .int (nI wn)), (8, .int (nI nb_)), (7, .int (nI na)), (6, .int ((vF 0 (24 * bn)) * hw)), (5, .int (vF 0 (24 * an))), (0, .ref h0), (1, .int (nI sn)), (2, .int (nI an)), (3, .int (nI bn)), (4, .int hw)])) => ?_)
    refine lv_iload hx hb dX12_add_59 (lv_at hl 4 rfl) ?_
    refine lv_iload hx hb dX12_add_61 (lv_at hl 3 rfl) ?_
    refine lv_imul hx hb dX12_add_63 ?_
    refine lv_if_ge (tgt := 80) hx hb dX12_add_64 (by decide) (fun c_64 => ?_) (fun c_64 => ?_)
    · have t_64 : (((vF 0 (24 * an)) * ((vF 0 (24 * bn)) * hw))).toInt ≥ 0 := toI_ge c_64 rfl (by decide)
      refine lv_iconst (v := 0) hx hb dX12_add_80 (by decide) ?_
      refine lv_istore hx hb dX12_add_81 hl (by decide) rfl (fun ls (hl : lv_has ls _ ([(10, .int 0), (9, .int (nI wn)), (8, .int (nI nb_)), (7, .int (nI na)), (6, .int ((vF 0 (24 * bn)) * hw)), (5, .int (vF 0 (24 * an))), (0, .ref h0), (1, .int (nI sn)), (2, .int (nI an)), (3, .int (nI bn)), (4, .int hw)])) => ?_)
      refine lv_iconst (v := 0) hx hb dX12_add_83 (by decide) ?_
      refine lv_istore hx hb dX12_add_84 hl (by decide) rfl (fun ls (hl : lv_has ls _ ([(11, .int 0), (10, .int 0), (9, .int (nI wn)), (8, .int (nI nb_)), (7, .int (nI na)), (6, .int ((vF 0 (24 * bn)) * hw)), (5, .int (vF 0 (24 * an))), (0, .ref h0), (1, .int (nI sn)), (2, .int (nI an)), (3, .int (nI bn)), (4, .int hw)])) => ?_)
      have e9 : fT vG 1 (vG 1) = vG := by funext q9; by_cases h9_1 : q9 = 1; (subst h9_1; exact (fT_eq _ _ _).trans (Eq.trans (by first | with_reducible rfl | with_reducible assumption | (symm; with_reducible assumption) | rfl | assumption | (symm; assumption) | (subst_vars; rfl)) (Eq.refl _).symm)); exact (fT_ne _ _ h9_1).trans (Eq.refl _).symm
      have hP : va_P (dC, dI) vwCl (WR a k h0 vi vj vF (fT vG 1 (vG 1))) H := by rw [e9]; exact hP
      have hD : va_D A (WR a k h0 vi vj vF (fT vG 1 (vG 1))) := by rw [e9]; exact hD
      clear e9
      have hl : lv_has _ _ ([(11, .int (nI 0)), (0, .ref h0), (1, .int (nI sn)), (2, .int (nI an)), (3, .int (nI bn)), (5, .int (vF 0 (24 * an))), (6, .int ((vF 0 (24 * bn)) * hw)), (7, .int (nI na)), (8, .int (nI nb_)), (9, .int (nI wn)), (10, .int 0)]) := lv_sub hl [0, 7, 8, 9, 10, 6, 5, 4, 3, 2, 1] rfl
      refine (fun (loop : ∀ (n9 : Nat) (i : Nat) (gs : Nat → Int64) (H : Heap) (locs : List Loc) (ls : Array Slot), (i ≤ wn) → (∀ q, q < i → (gs q).toInt = 1 * la28 (vF 0) (24 * an + 2) na q + 1 * la28 (vF 0) (24 * bn + 2) nb_ q) →  (wn < i + n9) → va_P (dC, dI) vwCl (WR a k h0 vi vj vF (fT vG 1 gs)) H → va_D A (WR a k h0 vi vj vF (fT vG 1 gs)) → va_S A s.heap H locs → lv_has ls 16 [(11, .int (nI i)), (0, .ref h0), (1, .int (nI sn)), (2, .int (nI an)), (3, .int (nI bn)), (5, .int (vF 0 (24 * an))), (6, .int ((vF 0 (24 * bn)) * hw)), (7, .int (nI na)), (8, .int (nI nb_)), (9, .int (nI wn)), (10, .int 0)] → W p l e _ s m _ below meth c H locs 0 0 _ (F0 m 86 ls [])) => loop (wn + 1) 0 (vG 1) _ _ _ (by omega) (fun q h => absurd h (by omega)) (by omega) hP hD hS hl) ?_
      intro n9
      induction n9 with
      | zero => intro i gs H locs ls hi hE hf9; exact False.elim (by omega)
      | succ n9 ih86 =>
        intro i gs H locs ls hi hE hf86 hP hD hS hl
        refine lv_iload hx hb dX12_add_86 (lv_at hl 0 rfl) ?_
        refine lv_iload hx hb dX12_add_88 (lv_at hl 9 rfl) ?_
        refine lv_icmp_ge (tgt := 196) hx hb dX12_add_90 (by decide) (fun c_90 => ?_) (fun c_90 => ?_)
        · have t_90 : ((i : Nat) : Int) ≥ ((wn : Nat) : Int) := toI_ge c_90 (nI_toInt (by omega)) (nI_toInt (by omega))
          refine lv_aload_n hx hb dX12_add_196 rfl (lv_at hl 1 rfl) ?_
          refine lv_iload_n hx hb dX12_add_197 rfl (lv_at hl 2 rfl) ?_
          refine lv_iload hx hb dX12_add_198 (lv_at hl 9 rfl) ?_
          refine lv_iload hx hb dX12_add_200 (lv_at hl 5 rfl) ?_
          refine lv_iload hx hb dX12_add_202 (lv_at hl 6 rfl) ?_
          refine lv_imul hx hb dX12_add_204 ?_
          refine lv_if_lt (tgt := 223) hx hb dX12_add_205 (by decide) (fun c9 => False.elim (by have t9 : (((vF 0 (24 * an)) * ((vF 0 (24 * bn)) * hw))).toInt < 0 := toI_lt c9 rfl (by decide); omega)) (fun c_205 => ?_)
          have t_205 : ¬ (((vF 0 (24 * an)) * ((vF 0 (24 * bn)) * hw))).toInt < 0 := toI_nlt c_205 rfl (by decide)
          refine lv_iload hx hb dX12_add_208 (lv_at hl 5 rfl) ?_
          refine lv_if_eq (tgt := 218) hx hb dX12_add_210 (by decide) (fun c_210 => ?_) (fun c_210 => ?_)
          · have t_210 : ((vF 0 (24 * an))).toInt = 0 := toI_eq c_210 rfl (by decide)
            refine lv_iload hx hb dX12_add_218 (lv_at hl 6 rfl) ?_
            refine lv_goto (tgt := 235) hx hb dX12_add_220 (by decide) ?_
            have hsv := sum28 hna3 hnb3 hwn2 hwn3 (gs := gs) (ca := 1) (cb := 1) (fun q hq => hE q (by omega))
            rw [← hna5, ← hnb5] at hsv
            have hFc := allFree hD hS hA
            refine va_callv (va_runV (As := [.int (nI sn), .int (nI wn), .int ((vF 0 (24 * bn)) * hw)]) (rest := []) ⟨hx, hb, hml, hown, hts⟩ (r_X12_carry l dC dI a k h0 vi vj vF (fT vG 1 gs) sn wn ((vF 0 (24 * bn)) * hw) ((xa + yb).natAbs) (if xa + yb < 0 then -1 else 1) (by first | with_reducible assumption | decide | omega | rfl | assumption) (by first | with_reducible assumption | decide | omega | rfl | assumption) (fun q hq => by show -1152921504606846976 ≤ (gs q).toInt ∧ (gs q).toInt ≤ 1152921504606846976; have := hE q (by omega); have := la_bd hna3 q; have := la_bd hnb3 q; omega) (by show sv28 gs wn = _; rw [hsv]; omega) (by first | with_reducible assumption | decide | omega | rfl | assumption) (fun h9 => by split <;> first | exact Or.inr ⟨rfl, ofm1 (by omega)⟩ | exact Or.inl ⟨rfl, of1 (by omega)⟩) H.size) (cwV 3 hts gwsRX12_add_1 rfl rfl rfl hd_yX12_carry_RX12 (by decide +kernel)) (fz_pre (va_recv hK hP (ci := 12) (q0 := 0) rfl rfl) hP hK hD) rfl rfl hl.1 rfl (lv_room (Nat.le_of_ble_eq_true rfl)) dX12_add_235 (by decide +kernel)) hS (fun q _ h => hFc q h) hFc (fun g235 t9_ H locs ht hvm hw9 hB9 hz1 hk1 hS => ?_)
            have hP : va_P (dC, dI) vwCl (WR a k h0 vi vj (fT vF 0 g235) (fT vG 1 gs)) H := fz_P ht hB9.1
            have hD : va_D A (WR a k h0 vi vj (fT vF 0 g235) (fT vG 1 gs)) := hB9.2.weaken (fun _ q _ h => hFc q.1 h)
            revert hw9
            refine fz_a2 ?_
            intro f235_0 f235_1
            refine W.widen (k := 0) (n := 0) (by decide +kernel) (by decide +kernel) ?_
            exact W.vret hx hb hr (fun t9_ ht hW => ⟨⟨(g235, gs), rfl, by (try dsimp only); (have e9 : (if xa + yb < 0 then -1 else 1) * (((xa + yb).natAbs : Nat) : Int) = xa + yb := by split <;> omega); rw [e9] at f235_0; exact ⟨f235_0, f235_1⟩, by rw [ht]; exact hP, hD⟩, hS.F ht⟩) hS.2.2 dX12_add_238
          · have t_210 : ¬ ((vF 0 (24 * an))).toInt = 0 := toI_neq c_210 rfl (by decide)
            refine lv_iload hx hb dX12_add_213 (lv_at hl 5 rfl) ?_
            refine lv_goto (tgt := 235) hx hb dX12_add_215 (by decide) ?_
            have hsv := sum28 hna3 hnb3 hwn2 hwn3 (gs := gs) (ca := 1) (cb := 1) (fun q hq => hE q (by omega))
            rw [← hna5, ← hnb5] at hsv
            have hFc := allFree hD hS hA
            refine va_callv (va_runV (As := [.int (nI sn), .int (nI wn), .int (vF 0 (24 * an))]) (rest := []) ⟨hx, hb, hml, hown, hts⟩ (r_X12_carry l dC dI a k h0 vi vj vF (fT vG 1 gs) sn wn (vF 0 (24 * an)) ((xa + yb).natAbs) (if xa + yb < 0 then -1 else 1) (by first | with_reducible assumption | decide | omega | rfl | assumption) (by first | with_reducible assumption | decide | omega | rfl | assumption) (fun q hq => by show -1152921504606846976 ≤ (gs q).toInt ∧ (gs q).toInt ≤ 1152921504606846976; have := hE q (by omega); have := la_bd hna3 q; have := la_bd hnb3 q; omega) (by show sv28 gs wn = _; rw [hsv]; omega) (by first | with_reducible assumption | decide | omega | rfl | assumption) (fun h9 => by split <;> first | exact Or.inr ⟨rfl, ofm1 (by omega)⟩ | exact Or.inl ⟨rfl, of1 (by omega)⟩) H.size) (cwV 3 hts gwsRX12_add_1 rfl rfl rfl hd_yX12_carry_RX12 (by decide +kernel)) (fz_pre (va_recv hK hP (ci := 12) (q0 := 0) rfl rfl) hP hK hD) rfl rfl hl.1 rfl (lv_room (Nat.le_of_ble_eq_true rfl)) dX12_add_235 (by decide +kernel)) hS (fun q _ h => hFc q h) hFc (fun g235_1 t9_ H locs ht hvm hw9 hB9 hz1 hk1 hS => ?_)
            have hP : va_P (dC, dI) vwCl (WR a k h0 vi vj (fT vF 0 g235_1) (fT vG 1 gs)) H := fz_P ht hB9.1
            have hD : va_D A (WR a k h0 vi vj (fT vF 0 g235_1) (fT vG 1 gs)) := hB9.2.weaken (fun _ q _ h => hFc q.1 h)
            revert hw9
            refine fz_a2 ?_
            intro f235_1_0 f235_1_1
            refine W.widen (k := 0) (n := 0) (by decide +kernel) (by decide +kernel) ?_
            exact W.vret hx hb hr (fun t9_ ht hW => ⟨⟨(g235_1, gs), rfl, by (try dsimp only); (have e9 : (if xa + yb < 0 then -1 else 1) * (((xa + yb).natAbs : Nat) : Int) = xa + yb := by split <;> omega); rw [e9] at f235_1_0; exact ⟨f235_1_0, f235_1_1⟩, by rw [ht]; exact hP, hD⟩, hS.F ht⟩) hS.2.2 dX12_add_238
        · have t_90 : ¬ ((i : Nat) : Int) ≥ ((wn : Nat) : Int) := toI_nge c_90 (nI_toInt (by omega)) (nI_toInt (by omega))
          refine lv_iload hx hb dX12_add_93 (lv_at hl 0 rfl) ?_
          refine lv_iload hx hb dX12_add_95 (lv_at hl 7 rfl) ?_
          refine W.cut (pc := 119) (fun H locs ls stk => ∃ (uL : Int64), ((uL).toInt = la28 (vF 0) (24 * an + 2) na i) ∧  stk = [.long uL] ∧ va_P (dC, dI) vwCl (WR a k h0 vi vj vF (fT vG 1 gs)) H ∧ va_D A (WR a k h0 vi vj vF (fT vG 1 gs)) ∧ va_S A s.heap H locs ∧ lv_has ls 16 [(11, .int (nI i)), (0, .ref h0), (1, .int (nI sn)), (2, .int (nI an)), (3, .int (nI bn)), (5, .int (vF 0 (24 * an))), (6, .int ((vF 0 (24 * bn)) * hw)), (7, .int (nI na)), (8, .int (nI nb_)), (9, .int (nI wn)), (10, .int 0)]) (fun join2 => ?_) ?_
          · refine lv_icmp_ge (tgt := 118) hx hb dX12_add_97 (by decide) (fun c_97 => ?_) (fun c_97 => ?_)
            · have t_97 : ((i : Nat) : Int) ≥ ((na : Nat) : Int) := toI_ge c_97 (nI_toInt (by omega)) (nI_toInt (by omega))
              refine lv_lconst (v := 0) hx hb dX12_add_118 (by decide) ?_
              have hl : lv_has _ _ ([(11, .int (nI i)), (0, .ref h0), (1, .int (nI sn)), (2, .int (nI an)), (3, .int (nI bn)), (5, .int (vF 0 (24 * an))), (6, .int ((vF 0 (24 * bn)) * hw)), (7, .int (nI na)), (8, .int (nI nb_)), (9, .int (nI wn)), (10, .int 0)]) := lv_sub hl [0, 1, 2, 3, 4, 5, 6, 7, 8, 9, 10] rfl
              exact join2 _ _ _ _ ⟨0, by unfold la28; rw [if_neg (by omega)]; decide, rfl, hP, hD, hS, hl⟩
            · have t_97 : ¬ ((i : Nat) : Int) ≥ ((na : Nat) : Int) := toI_nge c_97 (nI_toInt (by omega)) (nI_toInt (by omega))
              refine lv_aload_n hx hb dX12_add_100 rfl (lv_at hl 1 rfl) ?_
              refine va_get (D := (dC, dI)) (ci := 12) (v := .ref (a 0)) (C := RX12) (T := TX12) (N := 163) (fs := fM (vS a vi vj)) hx hb hts iwsRX12_add_in12 hown hK hP 0 rfl rfl 1 (by decide) (hts (.fieldLink RX12 7 "OptimaWorksModel" "big" "[I") (by decide +kernel)) (fun _ h9 => h9) rfl dX12_add_101 ?_
              refine lv_bipush (v := 24) hx hb dX12_add_104 (by decide) ?_
              refine lv_iload_n hx hb dX12_add_106 rfl (lv_at hl 3 rfl) ?_
              refine lv_imul hx hb dX12_add_107 ?_
              refine lv_topi (fun y9 hy9 => ?_)
              obtain rfl : (nI (24 * an)) = y9 := (hy9.trans (pk_mul 24 an)).symm
              refine lv_iconst (v := 2) hx hb dX12_add_108 (by decide) ?_
              refine lv_iadd hx hb dX12_add_109 ?_
              refine lv_topi (fun y10 hy10 => ?_)
              obtain rfl : (nI ((24 * an) + 2)) = y10 := (hy10.trans (nI_add (24 * an) 2)).symm
              refine lv_iload hx hb dX12_add_110 (lv_at hl 0 rfl) ?_
              refine lv_iadd hx hb dX12_add_112 ?_
              refine lv_topi (fun y11 hy11 => ?_)
              obtain rfl : (nI (((24 * an) + 2) + i)) = y11 := (hy11.trans (nI_add ((24 * an) + 2) i)).symm
              refine va_iald (cA := k 0) (n := 26400) (f := (vF 0)) hx hb hK hP 1 0 (WR_get 0 (by decide)) (TR_get 0 (by decide)) (vp_in_nI (show (((24 * an) + 2) + i) < 26400 by omega) (by omega)) dX12_add_113 ?_
              refine lv_topi (fun y12 hy12 => ?_)
              obtain rfl : ((vF 0) (((24 * an) + 2) + i)) = y12 := (hy12.trans (by rw [nI_clamp (by omega)])).symm
              refine lv_i2l hx hb dX12_add_114 rfl ?_
              refine lv_goto (tgt := 119) hx hb dX12_add_115 (by decide) ?_
              have hl : lv_has _ _ ([(11, .int (nI i)), (0, .ref h0), (1, .int (nI sn)), (2, .int (nI an)), (3, .int (nI bn)), (5, .int (vF 0 (24 * an))), (6, .int ((vF 0 (24 * bn)) * hw)), (7, .int (nI na)), (8, .int (nI nb_)), (9, .int (nI wn)), (10, .int 0)]) := lv_sub hl [0, 1, 2, 3, 4, 5, 6, 7, 8, 9, 10] rfl
              exact join2 _ _ _ _ ⟨(((vF 0) (((24 * an) + 2) + i))).toInt64, by unfold la28; rw [if_pos (by omega)]; exact i64T _, rfl, hP, hD, hS, hl⟩
          · rintro H locs ls stk ⟨uL, eU, rfl, hP, hD, hS, hl⟩
            refine lv_lstore hx hb dX12_add_119 hl (by decide) rfl (fun ls (hl : lv_has ls _ ([(12, .long uL), (11, .int (nI i)), (0, .ref h0), (1, .int (nI sn)), (2, .int (nI an)), (3, .int (nI bn)), (5, .int (vF 0 (24 * an))), (6, .int ((vF 0 (24 * bn)) * hw)), (7, .int (nI na)), (8, .int (nI nb_)), (9, .int (nI wn)), (10, .int 0)])) => ?_)
            refine lv_iload hx hb dX12_add_121 (lv_at hl 1 rfl) ?_
            refine lv_iload hx hb dX12_add_123 (lv_at hl 9 rfl) ?_
            refine W.cut (pc := 147) (fun H locs ls stk => ∃ (vL : Int64), ((vL).toInt = la28 (vF 0) (24 * bn + 2) nb_ i) ∧  stk = [.long vL] ∧ va_P (dC, dI) vwCl (WR a k h0 vi vj vF (fT vG 1 gs)) H ∧ va_D A (WR a k h0 vi vj vF (fT vG 1 gs)) ∧ va_S A s.heap H locs ∧ lv_has ls 16 [(12, .long uL), (11, .int (nI i)), (0, .ref h0), (1, .int (nI sn)), (2, .int (nI an)), (3, .int (nI bn)), (5, .int (vF 0 (24 * an))), (6, .int ((vF 0 (24 * bn)) * hw)), (7, .int (nI na)), (8, .int (nI nb_)), (9, .int (nI wn)), (10, .int 0)]) (fun join3 => ?_) ?_
            · refine lv_icmp_ge (tgt := 146) hx hb dX12_add_125 (by decide) (fun c_125 => ?_) (fun c_125 => ?_)
              · have t_125 : ((i : Nat) : Int) ≥ ((nb_ : Nat) : Int) := toI_ge c_125 (nI_toInt (by omega)) (nI_toInt (by omega))
                refine lv_lconst (v := 0) hx hb dX12_add_146 (by decide) ?_
                have hl : lv_has _ _ ([(12, .long uL), (11, .int (nI i)), (0, .ref h0), (1, .int (nI sn)), (2, .int (nI an)), (3, .int (nI bn)), (5, .int (vF 0 (24 * an))), (6, .int ((vF 0 (24 * bn)) * hw)), (7, .int (nI na)), (8, .int (nI nb_)), (9, .int (nI wn)), (10, .int 0)]) := lv_sub hl [0, 1, 2, 3, 4, 5, 6, 7, 8, 9, 10, 11] rfl
                exact join3 _ _ _ _ ⟨0, by unfold la28; rw [if_neg (by omega)]; decide, rfl, hP, hD, hS, hl⟩
              · have t_125 : ¬ ((i : Nat) : Int) ≥ ((nb_ : Nat) : Int) := toI_nge c_125 (nI_toInt (by omega)) (nI_toInt (by omega))
                refine lv_aload_n hx hb dX12_add_128 rfl (lv_at hl 2 rfl) ?_
                refine va_get (D := (dC, dI)) (ci := 12) (v := .ref (a 0)) (C := RX12) (T := TX12) (N := 163) (fs := fM (vS a vi vj)) hx hb hts iwsRX12_add_in12 hown hK hP 0 rfl rfl 1 (by decide) (hts (.fieldLink RX12 7 "OptimaWorksModel" "big" "[I") (by decide +kernel)) (fun _ h9 => h9) rfl dX12_add_129 ?_
                refine lv_bipush (v := 24) hx hb dX12_add_132 (by decide) ?_
                refine lv_iload_n hx hb dX12_add_134 rfl (lv_at hl 5 rfl) ?_
                refine lv_imul hx hb dX12_add_135 ?_
                refine lv_topi (fun y13 hy13 => ?_)
                obtain rfl : (nI (24 * bn)) = y13 := (hy13.trans (pk_mul 24 bn)).symm
                refine lv_iconst (v := 2) hx hb dX12_add_136 (by decide) ?_
                refine lv_iadd hx hb dX12_add_137 ?_
                refine lv_topi (fun y14 hy14 => ?_)
                obtain rfl : (nI ((24 * bn) + 2)) = y14 := (hy14.trans (nI_add (24 * bn) 2)).symm
                refine lv_iload hx hb dX12_add_138 (lv_at hl 1 rfl) ?_
                refine lv_iadd hx hb dX12_add_140 ?_
                refine lv_topi (fun y15 hy15 => ?_)
                obtain rfl : (nI (((24 * bn) + 2) + i)) = y15 := (hy15.trans (nI_add ((24 * bn) + 2) i)).symm
                refine va_iald (cA := k 0) (n := 26400) (f := (vF 0)) hx hb hK hP 1 0 (WR_get 0 (by decide)) (TR_get 0 (by decide)) (vp_in_nI (show (((24 * bn) + 2) + i) < 26400 by omega) (by omega)) dX12_add_141 ?_
                refine lv_topi (fun y16 hy16 => ?_)
                obtain rfl : ((vF 0) (((24 * bn) + 2) + i)) = y16 := (hy16.trans (by rw [nI_clamp (by omega)])).symm
                refine lv_i2l hx hb dX12_add_142 rfl ?_
                refine lv_goto (tgt := 147) hx hb dX12_add_143 (by decide) ?_
                have hl : lv_has _ _ ([(12, .long uL), (11, .int (nI i)), (0, .ref h0), (1, .int (nI sn)), (2, .int (nI an)), (3, .int (nI bn)), (5, .int (vF 0 (24 * an))), (6, .int ((vF 0 (24 * bn)) * hw)), (7, .int (nI na)), (8, .int (nI nb_)), (9, .int (nI wn)), (10, .int 0)]) := lv_sub hl [0, 1, 2, 3, 4, 5, 6, 7, 8, 9, 10, 11] rfl
                exact join3 _ _ _ _ ⟨(((vF 0) (((24 * bn) + 2) + i))).toInt64, by unfold la28; rw [if_pos (by omega)]; exact i64T _, rfl, hP, hD, hS, hl⟩
            · rintro H locs ls stk ⟨vL, eV, rfl, hP, hD, hS, hl⟩
              refine lv_lstore hx hb dX12_add_147 hl (by decide) rfl (fun ls (hl : lv_has ls _ ([(14, .long vL), (12, .long uL), (11, .int (nI i)), (0, .ref h0), (1, .int (nI sn)), (2, .int (nI an)), (3, .int (nI bn)), (5, .int (vF 0 (24 * an))), (6, .int ((vF 0 (24 * bn)) * hw)), (7, .int (nI na)), (8, .int (nI nb_)), (9, .int (nI wn)), (10, .int 0)])) => ?_)
              have bU := la_bd hna3 i
              have bV := la_bd hnb3 i
              refine lv_aload_n hx hb dX12_add_149 rfl (lv_at hl 3 rfl) ?_
              refine va_get (D := (dC, dI)) (ci := 12) (v := .ref (a 1)) (C := RX12) (T := TX12) (N := 163) (fs := fM (vS a vi vj)) hx hb hts iwsRX12_add_in12 hown hK hP 0 rfl rfl 2 (by decide) (hts (.fieldLink RX12 13 "OptimaWorksModel" "sum" "[J") (by decide +kernel)) (fun _ h9 => h9) rfl dX12_add_150 ?_
              refine lv_iload hx hb dX12_add_153 (lv_at hl 2 rfl) ?_
              refine lv_iload hx hb dX12_add_155 (lv_at hl 7 rfl) ?_
              refine lv_iload hx hb dX12_add_157 (lv_at hl 8 rfl) ?_
              refine lv_imul hx hb dX12_add_159 ?_
              refine lv_if_lt (tgt := 171) hx hb dX12_add_160 (by decide) (fun c9 => False.elim (by have t9 : (((vF 0 (24 * an)) * ((vF 0 (24 * bn)) * hw))).toInt < 0 := toI_lt c9 rfl (by decide); omega)) (fun c_160 => ?_)
              have t_160 : ¬ (((vF 0 (24 * an)) * ((vF 0 (24 * bn)) * hw))).toInt < 0 := toI_nlt c_160 rfl (by decide)
              refine lv_lload hx hb dX12_add_163 (lv_at hl 1 rfl) ?_
              refine lv_lload hx hb dX12_add_165 (lv_at hl 0 rfl) ?_
              refine lv_ladd hx hb dX12_add_167 ?_
              refine lv_goto (tgt := 189) hx hb dX12_add_168 (by decide) ?_
              have eS : ((uL + vL) : Int64).toInt = 1 * la28 (vF 0) (24 * an + 2) na i + 1 * la28 (vF 0) (24 * bn + 2) nb_ i := by rw [addJ (by omega) (by omega)]; omega
              refine va_last (cA := k 1) (n := 48) (f := gs) hx hb hK hP hD hS 2 1 (WR_get 1 (by decide)) (TR_get 1 (by decide)) (vp_in_nI (show i < 48 by omega) (by omega)) dX12_add_189 (fun H locs hP hD hS => ?_)
              have e9 : fT vG 1 (vp_updL gs ((nI i)).toNatClampNeg (uL + vL)) = fT (fT vG 1 gs) 1 (vp_updL gs ((nI i)).toNatClampNeg (uL + vL)) := (fT_sm _ _ _ _).symm
              have hP : va_P (dC, dI) vwCl (WR a k h0 vi vj vF (fT vG 1 (vp_updL gs ((nI i)).toNatClampNeg (uL + vL)))) H := by rw [e9, ← WR_G 1 (by decide) _ rfl]; exact hP
              have hD : va_D A (WR a k h0 vi vj vF (fT vG 1 (vp_updL gs ((nI i)).toNatClampNeg (uL + vL)))) := by rw [e9, ← WR_G 1 (by decide) _ rfl]; exact hD
              clear e9
              refine lv_iinc (v := (nI (i + 1))) hx hb dX12_add_190 hl (k := 2) rfl (nI_add i 1) (by decide) rfl (fun ls (hl : lv_has ls _ ([(11, .int (nI (i + 1))), (14, .long vL), (12, .long uL), (0, .ref h0), (1, .int (nI sn)), (2, .int (nI an)), (3, .int (nI bn)), (5, .int (vF 0 (24 * an))), (6, .int ((vF 0 (24 * bn)) * hw)), (7, .int (nI na)), (8, .int (nI nb_)), (9, .int (nI wn)), (10, .int 0)])) => ?_)
              refine lv_goto (tgt := 86) hx hb dX12_add_193 (by decide) ?_
              have hl : lv_has _ _ ([(11, .int (nI (i + 1))), (0, .ref h0), (1, .int (nI sn)), (2, .int (nI an)), (3, .int (nI bn)), (5, .int (vF 0 (24 * an))), (6, .int ((vF 0 (24 * bn)) * hw)), (7, .int (nI na)), (8, .int (nI nb_)), (9, .int (nI wn)), (10, .int 0)]) := lv_sub hl [0, 3, 4, 5, 6, 7, 8, 9, 10, 11, 12] rfl
              exact ih86 (i + 1) (vp_updL gs ((nI i)).toNatClampNeg (uL + vL)) _ _ _ (by omega) (fun q hq => by rw [updL_at (by omega)]; by_cases e9 : q = i; (rw [if_pos e9, e9]; exact eS); (rw [if_neg e9]; exact hE q (by omega))) (by omega) hP hD hS hl
    · have t_64 : ¬ (((vF 0 (24 * an)) * ((vF 0 (24 * bn)) * hw))).toInt ≥ 0 := toI_nge c_64 rfl (by decide)
      refine lv_aload_n hx hb dX12_add_67 rfl (lv_at hl 5 rfl) ?_
      refine lv_iload_n hx hb dX12_add_68 rfl (lv_at hl 7 rfl) ?_
      refine lv_iload_n hx hb dX12_add_69 rfl (lv_at hl 8 rfl) ?_
      have hFc := allFree hD hS hA
      refine va_calli (va_runV (As := [.int (nI an), .int (nI bn)]) (rest := []) ⟨hx, hb, hml, hown, hts⟩ (r_X12_bare l dC dI a k h0 vi vj vF vG an bn xa xb (by first | with_reducible assumption | decide | omega | rfl | assumption) (by first | with_reducible assumption | decide | omega | rfl | assumption) (hxa) (hxb) H.size) (cwV 2 hts gwsRX12_add_2 rfl rfl rfl hd_yX12_bare_RX12 (by decide +kernel)) (fz_pre (va_recv hK hP (ci := 12) (q0 := 0) rfl rfl) hP hK hD) rfl rfl hl.1 rfl (lv_room (Nat.le_of_ble_eq_true rfl)) dX12_add_70 (by decide +kernel)) hS (fun q _ h => hFc q h) hFc (fun r70 u t9_ H locs ht hvm hw9 hB9 hz1 hk1 hS => ?_)
      have hP : va_P (dC, dI) vwCl (WR a k h0 vi vj vF vG) H := fz_P ht hB9.1
      have hD : va_D A (WR a k h0 vi vj vF vG) := hB9.2.weaken (fun _ q _ h => hFc q.1 h)
      revert hw9
      refine fz_a2 ?_
      intro f70_0 f70_1
      refine lv_if_ge (tgt := 80) hx hb dX12_add_73 (by decide) (fun c_73 => ?_) (fun c_73 => ?_)
      · have t_73 : (r70).toInt ≥ 0 := toI_ge c_73 rfl (by decide)
        refine lv_iconst (v := 0) hx hb dX12_add_80 (by decide) ?_
        refine lv_istore hx hb dX12_add_81 hl (by decide) rfl (fun ls (hl : lv_has ls _ ([(10, .int 0), (9, .int (nI wn)), (8, .int (nI nb_)), (7, .int (nI na)), (6, .int ((vF 0 (24 * bn)) * hw)), (5, .int (vF 0 (24 * an))), (0, .ref h0), (1, .int (nI sn)), (2, .int (nI an)), (3, .int (nI bn)), (4, .int hw)])) => ?_)
        refine lv_iconst (v := 0) hx hb dX12_add_83 (by decide) ?_
        refine lv_istore hx hb dX12_add_84 hl (by decide) rfl (fun ls (hl : lv_has ls _ ([(11, .int 0), (10, .int 0), (9, .int (nI wn)), (8, .int (nI nb_)), (7, .int (nI na)), (6, .int ((vF 0 (24 * bn)) * hw)), (5, .int (vF 0 (24 * an))), (0, .ref h0), (1, .int (nI sn)), (2, .int (nI an)), (3, .int (nI bn)), (4, .int hw)])) => ?_)
        have e9 : fT vG 1 (vG 1) = vG := by funext q9; by_cases h9_1 : q9 = 1; (subst h9_1; exact (fT_eq _ _ _).trans (Eq.trans (by first | with_reducible rfl | with_reducible assumption | (symm; with_reducible assumption) | rfl | assumption | (symm; assumption) | (subst_vars; rfl)) (Eq.refl _).symm)); exact (fT_ne _ _ h9_1).trans (Eq.refl _).symm
        have hP : va_P (dC, dI) vwCl (WR a k h0 vi vj vF (fT vG 1 (vG 1))) H := by rw [e9]; exact hP
        have hD : va_D A (WR a k h0 vi vj vF (fT vG 1 (vG 1))) := by rw [e9]; exact hD
        clear e9
        have hl : lv_has _ _ ([(11, .int (nI 0)), (0, .ref h0), (1, .int (nI sn)), (2, .int (nI an)), (3, .int (nI bn)), (5, .int (vF 0 (24 * an))), (6, .int ((vF 0 (24 * bn)) * hw)), (7, .int (nI na)), (8, .int (nI nb_)), (9, .int (nI wn)), (10, .int 0)]) := lv_sub hl [0, 7, 8, 9, 10, 6, 5, 4, 3, 2, 1] rfl
        refine (fun (loop : ∀ (n9 : Nat) (i : Nat) (gs : Nat → Int64) (H : Heap) (locs : List Loc) (ls : Array Slot), (i ≤ wn) → (∀ q, q < i → (gs q).toInt = 1 * la28 (vF 0) (24 * an + 2) na q + (-1) * la28 (vF 0) (24 * bn + 2) nb_ q) →  (wn < i + n9) → va_P (dC, dI) vwCl (WR a k h0 vi vj vF (fT vG 1 gs)) H → va_D A (WR a k h0 vi vj vF (fT vG 1 gs)) → va_S A s.heap H locs → lv_has ls 16 [(11, .int (nI i)), (0, .ref h0), (1, .int (nI sn)), (2, .int (nI an)), (3, .int (nI bn)), (5, .int (vF 0 (24 * an))), (6, .int ((vF 0 (24 * bn)) * hw)), (7, .int (nI na)), (8, .int (nI nb_)), (9, .int (nI wn)), (10, .int 0)] → W p l e _ s m _ below meth c H locs 0 0 _ (F0 m 86 ls [])) => loop (wn + 1) 0 (vG 1) _ _ _ (by omega) (fun q h => absurd h (by omega)) (by omega) hP hD hS hl) ?_
        intro n9
        induction n9 with
        | zero => intro i gs H locs ls hi hE hf9; exact False.elim (by omega)
        | succ n9 ih86_1 =>
          intro i gs H locs ls hi hE hf86_1 hP hD hS hl
          refine lv_iload hx hb dX12_add_86 (lv_at hl 0 rfl) ?_
          refine lv_iload hx hb dX12_add_88 (lv_at hl 9 rfl) ?_
          refine lv_icmp_ge (tgt := 196) hx hb dX12_add_90 (by decide) (fun c_90 => ?_) (fun c_90 => ?_)
          · have t_90 : ((i : Nat) : Int) ≥ ((wn : Nat) : Int) := toI_ge c_90 (nI_toInt (by omega)) (nI_toInt (by omega))
            refine lv_aload_n hx hb dX12_add_196 rfl (lv_at hl 1 rfl) ?_
            refine lv_iload_n hx hb dX12_add_197 rfl (lv_at hl 2 rfl) ?_
            refine lv_iload hx hb dX12_add_198 (lv_at hl 9 rfl) ?_
            refine lv_iload hx hb dX12_add_200 (lv_at hl 5 rfl) ?_
            refine lv_iload hx hb dX12_add_202 (lv_at hl 6 rfl) ?_
            refine lv_imul hx hb dX12_add_204 ?_
            refine lv_if_lt (tgt := 223) hx hb dX12_add_205 (by decide) (fun c_205 => ?_) (fun c9 => False.elim (by have t9 : ¬ (((vF 0 (24 * an)) * ((vF 0 (24 * bn)) * hw))).toInt < 0 := toI_nlt c9 rfl (by decide); omega))
            have t_205 : (((vF 0 (24 * an)) * ((vF 0 (24 * bn)) * hw))).toInt < 0 := toI_lt c_205 rfl (by decide)
            refine lv_iload hx hb dX12_add_223 (lv_at hl 10 rfl) ?_
            refine lv_if_eq (tgt := 233) hx hb dX12_add_225 (by decide) (fun _ => ?_) (fun c9 => absurd (by decide) c9)
            refine lv_iload hx hb dX12_add_233 (lv_at hl 5 rfl) ?_
            have hsv := sum28 hna3 hnb3 hwn2 hwn3 (gs := gs) (ca := 1) (cb := (-1)) (fun q hq => hE q (by omega))
            rw [← hna5, ← hnb5] at hsv
            have hFc := allFree hD hS hA
            refine va_callv (va_runV (As := [.int (nI sn), .int (nI wn), .int (vF 0 (24 * an))]) (rest := []) ⟨hx, hb, hml, hown, hts⟩ (r_X12_carry l dC dI a k h0 vi vj vF (fT vG 1 gs) sn wn (vF 0 (24 * an)) ((xa + yb).natAbs) (if xa + yb < 0 then -1 else 1) (by first | with_reducible assumption | decide | omega | rfl | assumption) (by first | with_reducible assumption | decide | omega | rfl | assumption) (fun q hq => by show -1152921504606846976 ≤ (gs q).toInt ∧ (gs q).toInt ≤ 1152921504606846976; have := hE q (by omega); have := la_bd hna3 q; have := la_bd hnb3 q; omega) (by show sv28 gs wn = _; rw [hsv]; omega) (by first | with_reducible assumption | decide | omega | rfl | assumption) (fun h9 => by split <;> first | exact Or.inr ⟨rfl, ofm1 (by omega)⟩ | exact Or.inl ⟨rfl, of1 (by omega)⟩) H.size) (cwV 3 hts gwsRX12_add_1 rfl rfl rfl hd_yX12_carry_RX12 (by decide +kernel)) (fz_pre (va_recv hK hP (ci := 12) (q0 := 0) rfl rfl) hP hK hD) rfl rfl hl.1 rfl (lv_room (Nat.le_of_ble_eq_true rfl)) dX12_add_235 (by decide +kernel)) hS (fun q _ h => hFc q h) hFc (fun g235_2 t9_ H locs ht hvm hw9 hB9 hz1 hk1 hS => ?_)
            have hP : va_P (dC, dI) vwCl (WR a k h0 vi vj (fT vF 0 g235_2) (fT vG 1 gs)) H := fz_P ht hB9.1
            have hD : va_D A (WR a k h0 vi vj (fT vF 0 g235_2) (fT vG 1 gs)) := hB9.2.weaken (fun _ q _ h => hFc q.1 h)
            revert hw9
            refine fz_a2 ?_
            intro f235_2_0 f235_2_1
            refine W.widen (k := 0) (n := 0) (by decide +kernel) (by decide +kernel) ?_
            exact W.vret hx hb hr (fun t9_ ht hW => ⟨⟨(g235_2, gs), rfl, by (try dsimp only); (have e9 : (if xa + yb < 0 then -1 else 1) * (((xa + yb).natAbs : Nat) : Int) = xa + yb := by split <;> omega); rw [e9] at f235_2_0; exact ⟨f235_2_0, f235_2_1⟩, by rw [ht]; exact hP, hD⟩, hS.F ht⟩) hS.2.2 dX12_add_238
          · have t_90 : ¬ ((i : Nat) : Int) ≥ ((wn : Nat) : Int) := toI_nge c_90 (nI_toInt (by omega)) (nI_toInt (by omega))
            refine lv_iload hx hb dX12_add_93 (lv_at hl 0 rfl) ?_
            refine lv_iload hx hb dX12_add_95 (lv_at hl 7 rfl) ?_
            refine W.cut (pc := 119) (fun H locs ls stk => ∃ (uL : Int64), ((uL).toInt = la28 (vF 0) (24 * an + 2) na i) ∧  stk = [.long uL] ∧ va_P (dC, dI) vwCl (WR a k h0 vi vj vF (fT vG 1 gs)) H ∧ va_D A (WR a k h0 vi vj vF (fT vG 1 gs)) ∧ va_S A s.heap H locs ∧ lv_has ls 16 [(11, .int (nI i)), (0, .ref h0), (1, .int (nI sn)), (2, .int (nI an)), (3, .int (nI bn)), (5, .int (vF 0 (24 * an))), (6, .int ((vF 0 (24 * bn)) * hw)), (7, .int (nI na)), (8, .int (nI nb_)), (9, .int (nI wn)), (10, .int 0)]) (fun join4 => ?_) ?_
            · refine lv_icmp_ge (tgt := 118) hx hb dX12_add_97 (by decide) (fun c_97 => ?_) (fun c_97 => ?_)
              · have t_97 : ((i : Nat) : Int) ≥ ((na : Nat) : Int) := toI_ge c_97 (nI_toInt (by omega)) (nI_toInt (by omega))
                refine lv_lconst (v := 0) hx hb dX12_add_118 (by decide) ?_
                have hl : lv_has _ _ ([(11, .int (nI i)), (0, .ref h0), (1, .int (nI sn)), (2, .int (nI an)), (3, .int (nI bn)), (5, .int (vF 0 (24 * an))), (6, .int ((vF 0 (24 * bn)) * hw)), (7, .int (nI na)), (8, .int (nI nb_)), (9, .int (nI wn)), (10, .int 0)]) := lv_sub hl [0, 1, 2, 3, 4, 5, 6, 7, 8, 9, 10] rfl
                exact join4 _ _ _ _ ⟨0, by unfold la28; rw [if_neg (by omega)]; decide, rfl, hP, hD, hS, hl⟩
              · have t_97 : ¬ ((i : Nat) : Int) ≥ ((na : Nat) : Int) := toI_nge c_97 (nI_toInt (by omega)) (nI_toInt (by omega))
                refine lv_aload_n hx hb dX12_add_100 rfl (lv_at hl 1 rfl) ?_
                refine va_get (D := (dC, dI)) (ci := 12) (v := .ref (a 0)) (C := RX12) (T := TX12) (N := 163) (fs := fM (vS a vi vj)) hx hb hts iwsRX12_add_in12 hown hK hP 0 rfl rfl 1 (by decide) (hts (.fieldLink RX12 7 "OptimaWorksModel" "big" "[I") (by decide +kernel)) (fun _ h9 => h9) rfl dX12_add_101 ?_
                refine lv_bipush (v := 24) hx hb dX12_add_104 (by decide) ?_
                refine lv_iload_n hx hb dX12_add_106 rfl (lv_at hl 3 rfl) ?_
                refine lv_imul hx hb dX12_add_107 ?_
                refine lv_topi (fun y17 hy17 => ?_)
                obtain rfl : (nI (24 * an)) = y17 := (hy17.trans (pk_mul 24 an)).symm
                refine lv_iconst (v := 2) hx hb dX12_add_108 (by decide) ?_
                refine lv_iadd hx hb dX12_add_109 ?_
                refine lv_topi (fun y18 hy18 => ?_)
                obtain rfl : (nI ((24 * an) + 2)) = y18 := (hy18.trans (nI_add (24 * an) 2)).symm
                refine lv_iload hx hb dX12_add_110 (lv_at hl 0 rfl) ?_
                refine lv_iadd hx hb dX12_add_112 ?_
                refine lv_topi (fun y19 hy19 => ?_)
                obtain rfl : (nI (((24 * an) + 2) + i)) = y19 := (hy19.trans (nI_add ((24 * an) + 2) i)).symm
                refine va_iald (cA := k 0) (n := 26400) (f := (vF 0)) hx hb hK hP 1 0 (WR_get 0 (by decide)) (TR_get 0 (by decide)) (vp_in_nI (show (((24 * an) + 2) + i) < 26400 by omega) (by omega)) dX12_add_113 ?_
                refine lv_topi (fun y20 hy20 => ?_)
                obtain rfl : ((vF 0) (((24 * an) + 2) + i)) = y20 := (hy20.trans (by rw [nI_clamp (by omega)])).symm
                refine lv_i2l hx hb dX12_add_114 rfl ?_
                refine lv_goto (tgt := 119) hx hb dX12_add_115 (by decide) ?_
                have hl : lv_has _ _ ([(11, .int (nI i)), (0, .ref h0), (1, .int (nI sn)), (2, .int (nI an)), (3, .int (nI bn)), (5, .int (vF 0 (24 * an))), (6, .int ((vF 0 (24 * bn)) * hw)), (7, .int (nI na)), (8, .int (nI nb_)), (9, .int (nI wn)), (10, .int 0)]) := lv_sub hl [0, 1, 2, 3, 4, 5, 6, 7, 8, 9, 10] rfl
                exact join4 _ _ _ _ ⟨(((vF 0) (((24 * an) + 2) + i))).toInt64, by unfold la28; rw [if_pos (by omega)]; exact i64T _, rfl, hP, hD, hS, hl⟩
            · rintro H locs ls stk ⟨uL, eU, rfl, hP, hD, hS, hl⟩
              refine lv_lstore hx hb dX12_add_119 hl (by decide) rfl (fun ls (hl : lv_has ls _ ([(12, .long uL), (11, .int (nI i)), (0, .ref h0), (1, .int (nI sn)), (2, .int (nI an)), (3, .int (nI bn)), (5, .int (vF 0 (24 * an))), (6, .int ((vF 0 (24 * bn)) * hw)), (7, .int (nI na)), (8, .int (nI nb_)), (9, .int (nI wn)), (10, .int 0)])) => ?_)
              refine lv_iload hx hb dX12_add_121 (lv_at hl 1 rfl) ?_
              refine lv_iload hx hb dX12_add_123 (lv_at hl 9 rfl) ?_
              refine W.cut (pc := 147) (fun H locs ls stk => ∃ (vL : Int64), ((vL).toInt = la28 (vF 0) (24 * bn + 2) nb_ i) ∧  stk = [.long vL] ∧ va_P (dC, dI) vwCl (WR a k h0 vi vj vF (fT vG 1 gs)) H ∧ va_D A (WR a k h0 vi vj vF (fT vG 1 gs)) ∧ va_S A s.heap H locs ∧ lv_has ls 16 [(12, .long uL), (11, .int (nI i)), (0, .ref h0), (1, .int (nI sn)), (2, .int (nI an)), (3, .int (nI bn)), (5, .int (vF 0 (24 * an))), (6, .int ((vF 0 (24 * bn)) * hw)), (7, .int (nI na)), (8, .int (nI nb_)), (9, .int (nI wn)), (10, .int 0)]) (fun join5 => ?_) ?_
              · refine lv_icmp_ge (tgt := 146) hx hb dX12_add_125 (by decide) (fun c_125 => ?_) (fun c_125 => ?_)
                · have t_125 : ((i : Nat) : Int) ≥ ((nb_ : Nat) : Int) := toI_ge c_125 (nI_toInt (by omega)) (nI_toInt (by omega))
                  refine lv_lconst (v := 0) hx hb dX12_add_146 (by decide) ?_
                  have hl : lv_has _ _ ([(12, .long uL), (11, .int (nI i)), (0, .ref h0), (1, .int (nI sn)), (2, .int (nI an)), (3, .int (nI bn)), (5, .int (vF 0 (24 * an))), (6, .int ((vF 0 (24 * bn)) * hw)), (7, .int (nI na)), (8, .int (nI nb_)), (9, .int (nI wn)), (10, .int 0)]) := lv_sub hl [0, 1, 2, 3, 4, 5, 6, 7, 8, 9, 10, 11] rfl
                  exact join5 _ _ _ _ ⟨0, by unfold la28; rw [if_neg (by omega)]; decide, rfl, hP, hD, hS, hl⟩
                · have t_125 : ¬ ((i : Nat) : Int) ≥ ((nb_ : Nat) : Int) := toI_nge c_125 (nI_toInt (by omega)) (nI_toInt (by omega))
                  refine lv_aload_n hx hb dX12_add_128 rfl (lv_at hl 2 rfl) ?_
                  refine va_get (D := (dC, dI)) (ci := 12) (v := .ref (a 0)) (C := RX12) (T := TX12) (N := 163) (fs := fM (vS a vi vj)) hx hb hts iwsRX12_add_in12 hown hK hP 0 rfl rfl 1 (by decide) (hts (.fieldLink RX12 7 "OptimaWorksModel" "big" "[I") (by decide +kernel)) (fun _ h9 => h9) rfl dX12_add_129 ?_
                  refine lv_bipush (v := 24) hx hb dX12_add_132 (by decide) ?_
                  refine lv_iload_n hx hb dX12_add_134 rfl (lv_at hl 5 rfl) ?_
                  refine lv_imul hx hb dX12_add_135 ?_
                  refine lv_topi (fun y21 hy21 => ?_)
                  obtain rfl : (nI (24 * bn)) = y21 := (hy21.trans (pk_mul 24 bn)).symm
                  refine lv_iconst (v := 2) hx hb dX12_add_136 (by decide) ?_
                  refine lv_iadd hx hb dX12_add_137 ?_
                  refine lv_topi (fun y22 hy22 => ?_)
                  obtain rfl : (nI ((24 * bn) + 2)) = y22 := (hy22.trans (nI_add (24 * bn) 2)).symm
                  refine lv_iload hx hb dX12_add_138 (lv_at hl 1 rfl) ?_
                  refine lv_iadd hx hb dX12_add_140 ?_
                  refine lv_topi (fun y23 hy23 => ?_)
                  obtain rfl : (nI (((24 * bn) + 2) + i)) = y23 := (hy23.trans (nI_add ((24 * bn) + 2) i)).symm
                  refine va_iald (cA := k 0) (n := 26400) (f := (vF 0)) hx hb hK hP 1 0 (WR_get 0 (by decide)) (TR_get 0 (by decide)) (vp_in_nI (show (((24 * bn) + 2) + i) < 26400 by omega) (by omega)) dX12_add_141 ?_
                  refine lv_topi (fun y24 hy24 => ?_)
                  obtain rfl : ((vF 0) (((24 * bn) + 2) + i)) = y24 := (hy24.trans (by rw [nI_clamp (by omega)])).symm
                  refine lv_i2l hx hb dX12_add_142 rfl ?_
                  refine lv_goto (tgt := 147) hx hb dX12_add_143 (by decide) ?_
                  have hl : lv_has _ _ ([(12, .long uL), (11, .int (nI i)), (0, .ref h0), (1, .int (nI sn)), (2, .int (nI an)), (3, .int (nI bn)), (5, .int (vF 0 (24 * an))), (6, .int ((vF 0 (24 * bn)) * hw)), (7, .int (nI na)), (8, .int (nI nb_)), (9, .int (nI wn)), (10, .int 0)]) := lv_sub hl [0, 1, 2, 3, 4, 5, 6, 7, 8, 9, 10, 11] rfl
                  exact join5 _ _ _ _ ⟨(((vF 0) (((24 * bn) + 2) + i))).toInt64, by unfold la28; rw [if_pos (by omega)]; exact i64T _, rfl, hP, hD, hS, hl⟩
              · rintro H locs ls stk ⟨vL, eV, rfl, hP, hD, hS, hl⟩
                refine lv_lstore hx hb dX12_add_147 hl (by decide) rfl (fun ls (hl : lv_has ls _ ([(14, .long vL), (12, .long uL), (11, .int (nI i)), (0, .ref h0), (1, .int (nI sn)), (2, .int (nI an)), (3, .int (nI bn)), (5, .int (vF 0 (24 * an))), (6, .int ((vF 0 (24 * bn)) * hw)), (7, .int (nI na)), (8, .int (nI nb_)), (9, .int (nI wn)), (10, .int 0)])) => ?_)
                have bU := la_bd hna3 i
                have bV := la_bd hnb3 i
                refine lv_aload_n hx hb dX12_add_149 rfl (lv_at hl 3 rfl) ?_
                refine va_get (D := (dC, dI)) (ci := 12) (v := .ref (a 1)) (C := RX12) (T := TX12) (N := 163) (fs := fM (vS a vi vj)) hx hb hts iwsRX12_add_in12 hown hK hP 0 rfl rfl 2 (by decide) (hts (.fieldLink RX12 13 "OptimaWorksModel" "sum" "[J") (by decide +kernel)) (fun _ h9 => h9) rfl dX12_add_150 ?_
                refine lv_iload hx hb dX12_add_153 (lv_at hl 2 rfl) ?_
                refine lv_iload hx hb dX12_add_155 (lv_at hl 7 rfl) ?_
                refine lv_iload hx hb dX12_add_157 (lv_at hl 8 rfl) ?_
                refine lv_imul hx hb dX12_add_159 ?_
                refine lv_if_lt (tgt := 171) hx hb dX12_add_160 (by decide) (fun c_160 => ?_) (fun c9 => False.elim (by have t9 : ¬ (((vF 0 (24 * an)) * ((vF 0 (24 * bn)) * hw))).toInt < 0 := toI_nlt c9 rfl (by decide); omega))
                have t_160 : (((vF 0 (24 * an)) * ((vF 0 (24 * bn)) * hw))).toInt < 0 := toI_lt c_160 rfl (by decide)
                refine lv_iload hx hb dX12_add_171 (lv_at hl 12 rfl) ?_
                refine lv_if_eq (tgt := 184) hx hb dX12_add_173 (by decide) (fun _ => ?_) (fun c9 => absurd (by decide) c9)
                refine lv_lload hx hb dX12_add_184 (lv_at hl 1 rfl) ?_
                refine lv_lload hx hb dX12_add_186 (lv_at hl 0 rfl) ?_
                refine lv_lsub hx hb dX12_add_188 ?_
                have eS : ((uL - vL) : Int64).toInt = 1 * la28 (vF 0) (24 * an + 2) na i + (-1) * la28 (vF 0) (24 * bn + 2) nb_ i := by rw [subJ (by omega) (by omega)]; omega
                refine va_last (cA := k 1) (n := 48) (f := gs) hx hb hK hP hD hS 2 1 (WR_get 1 (by decide)) (TR_get 1 (by decide)) (vp_in_nI (show i < 48 by omega) (by omega)) dX12_add_189 (fun H locs hP hD hS => ?_)
                have e9 : fT vG 1 (vp_updL gs ((nI i)).toNatClampNeg (uL - vL)) = fT (fT vG 1 gs) 1 (vp_updL gs ((nI i)).toNatClampNeg (uL - vL)) := (fT_sm _ _ _ _).symm
                have hP : va_P (dC, dI) vwCl (WR a k h0 vi vj vF (fT vG 1 (vp_updL gs ((nI i)).toNatClampNeg (uL - vL)))) H := by rw [e9, ← WR_G 1 (by decide) _ rfl]; exact hP
                have hD : va_D A (WR a k h0 vi vj vF (fT vG 1 (vp_updL gs ((nI i)).toNatClampNeg (uL - vL)))) := by rw [e9, ← WR_G 1 (by decide) _ rfl]; exact hD
                clear e9
                refine lv_iinc (v := (nI (i + 1))) hx hb dX12_add_190 hl (k := 2) rfl (nI_add i 1) (by decide) rfl (fun ls (hl : lv_has ls _ ([(11, .int (nI (i + 1))), (14, .long vL), (12, .long uL), (0, .ref h0), (1, .int (nI sn)), (2, .int (nI an)), (3, .int (nI bn)), (5, .int (vF 0 (24 * an))), (6, .int ((vF 0 (24 * bn)) * hw)), (7, .int (nI na)), (8, .int (nI nb_)), (9, .int (nI wn)), (10, .int 0)])) => ?_)
                refine lv_goto (tgt := 86) hx hb dX12_add_193 (by decide) ?_
                have hl : lv_has _ _ ([(11, .int (nI (i + 1))), (0, .ref h0), (1, .int (nI sn)), (2, .int (nI an)), (3, .int (nI bn)), (5, .int (vF 0 (24 * an))), (6, .int ((vF 0 (24 * bn)) * hw)), (7, .int (nI na)), (8, .int (nI nb_)), (9, .int (nI wn)), (10, .int 0)]) := lv_sub hl [0, 3, 4, 5, 6, 7, 8, 9, 10, 11, 12] rfl
                exact ih86_1 (i + 1) (vp_updL gs ((nI i)).toNatClampNeg (uL - vL)) _ _ _ (by omega) (fun q hq => by rw [updL_at (by omega)]; by_cases e9 : q = i; (rw [if_pos e9, e9]; exact eS); (rw [if_neg e9]; exact hE q (by omega))) (by omega) hP hD hS hl
      · have t_73 : ¬ (r70).toInt ≥ 0 := toI_nge c_73 rfl (by decide)
        refine lv_iconst (v := 1) hx hb dX12_add_76 (by decide) ?_
        refine lv_goto (tgt := 81) hx hb dX12_add_77 (by decide) ?_
        refine lv_istore hx hb dX12_add_81 hl (by decide) rfl (fun ls (hl : lv_has ls _ ([(10, .int 1), (9, .int (nI wn)), (8, .int (nI nb_)), (7, .int (nI na)), (6, .int ((vF 0 (24 * bn)) * hw)), (5, .int (vF 0 (24 * an))), (0, .ref h0), (1, .int (nI sn)), (2, .int (nI an)), (3, .int (nI bn)), (4, .int hw)])) => ?_)
        refine lv_iconst (v := 0) hx hb dX12_add_83 (by decide) ?_
        refine lv_istore hx hb dX12_add_84 hl (by decide) rfl (fun ls (hl : lv_has ls _ ([(11, .int 0), (10, .int 1), (9, .int (nI wn)), (8, .int (nI nb_)), (7, .int (nI na)), (6, .int ((vF 0 (24 * bn)) * hw)), (5, .int (vF 0 (24 * an))), (0, .ref h0), (1, .int (nI sn)), (2, .int (nI an)), (3, .int (nI bn)), (4, .int hw)])) => ?_)
        have e9 : fT vG 1 (vG 1) = vG := by funext q9; by_cases h9_1 : q9 = 1; (subst h9_1; exact (fT_eq _ _ _).trans (Eq.trans (by first | with_reducible rfl | with_reducible assumption | (symm; with_reducible assumption) | rfl | assumption | (symm; assumption) | (subst_vars; rfl)) (Eq.refl _).symm)); exact (fT_ne _ _ h9_1).trans (Eq.refl _).symm
        have hP : va_P (dC, dI) vwCl (WR a k h0 vi vj vF (fT vG 1 (vG 1))) H := by rw [e9]; exact hP
        have hD : va_D A (WR a k h0 vi vj vF (fT vG 1 (vG 1))) := by rw [e9]; exact hD
        clear e9
        have hl : lv_has _ _ ([(11, .int (nI 0)), (0, .ref h0), (1, .int (nI sn)), (2, .int (nI an)), (3, .int (nI bn)), (5, .int (vF 0 (24 * an))), (6, .int ((vF 0 (24 * bn)) * hw)), (7, .int (nI na)), (8, .int (nI nb_)), (9, .int (nI wn)), (10, .int 1)]) := lv_sub hl [0, 7, 8, 9, 10, 6, 5, 4, 3, 2, 1] rfl
        refine (fun (loop : ∀ (n9 : Nat) (i : Nat) (gs : Nat → Int64) (H : Heap) (locs : List Loc) (ls : Array Slot), (i ≤ wn) → (∀ q, q < i → (gs q).toInt = (-1) * la28 (vF 0) (24 * an + 2) na q + 1 * la28 (vF 0) (24 * bn + 2) nb_ q) →  (wn < i + n9) → va_P (dC, dI) vwCl (WR a k h0 vi vj vF (fT vG 1 gs)) H → va_D A (WR a k h0 vi vj vF (fT vG 1 gs)) → va_S A s.heap H locs → lv_has ls 16 [(11, .int (nI i)), (0, .ref h0), (1, .int (nI sn)), (2, .int (nI an)), (3, .int (nI bn)), (5, .int (vF 0 (24 * an))), (6, .int ((vF 0 (24 * bn)) * hw)), (7, .int (nI na)), (8, .int (nI nb_)), (9, .int (nI wn)), (10, .int 1)] → W p l e _ s m _ below meth c H locs 0 0 _ (F0 m 86 ls [])) => loop (wn + 1) 0 (vG 1) _ _ _ (by omega) (fun q h => absurd h (by omega)) (by omega) hP hD hS hl) ?_
        intro n9
        induction n9 with
        | zero => intro i gs H locs ls hi hE hf9; exact False.elim (by omega)
        | succ n9 ih86_2 =>
          intro i gs H locs ls hi hE hf86_2 hP hD hS hl
          refine lv_iload hx hb dX12_add_86 (lv_at hl 0 rfl) ?_
          refine lv_iload hx hb dX12_add_88 (lv_at hl 9 rfl) ?_
          refine lv_icmp_ge (tgt := 196) hx hb dX12_add_90 (by decide) (fun c_90 => ?_) (fun c_90 => ?_)
          · have t_90 : ((i : Nat) : Int) ≥ ((wn : Nat) : Int) := toI_ge c_90 (nI_toInt (by omega)) (nI_toInt (by omega))
            refine lv_aload_n hx hb dX12_add_196 rfl (lv_at hl 1 rfl) ?_
            refine lv_iload_n hx hb dX12_add_197 rfl (lv_at hl 2 rfl) ?_
            refine lv_iload hx hb dX12_add_198 (lv_at hl 9 rfl) ?_
            refine lv_iload hx hb dX12_add_200 (lv_at hl 5 rfl) ?_
            refine lv_iload hx hb dX12_add_202 (lv_at hl 6 rfl) ?_
            refine lv_imul hx hb dX12_add_204 ?_
            refine lv_if_lt (tgt := 223) hx hb dX12_add_205 (by decide) (fun c_205 => ?_) (fun c9 => False.elim (by have t9 : ¬ (((vF 0 (24 * an)) * ((vF 0 (24 * bn)) * hw))).toInt < 0 := toI_nlt c9 rfl (by decide); omega))
            have t_205 : (((vF 0 (24 * an)) * ((vF 0 (24 * bn)) * hw))).toInt < 0 := toI_lt c_205 rfl (by decide)
            refine lv_iload hx hb dX12_add_223 (lv_at hl 10 rfl) ?_
            refine lv_if_eq (tgt := 233) hx hb dX12_add_225 (by decide) (fun c9 => absurd c9 (by decide)) (fun _ => ?_)
            refine lv_iload hx hb dX12_add_228 (lv_at hl 6 rfl) ?_
            refine lv_goto (tgt := 235) hx hb dX12_add_230 (by decide) ?_
            have hsv := sum28 hna3 hnb3 hwn2 hwn3 (gs := gs) (ca := (-1)) (cb := 1) (fun q hq => hE q (by omega))
            rw [← hna5, ← hnb5] at hsv
            have hFc := allFree hD hS hA
            refine va_callv (va_runV (As := [.int (nI sn), .int (nI wn), .int ((vF 0 (24 * bn)) * hw)]) (rest := []) ⟨hx, hb, hml, hown, hts⟩ (r_X12_carry l dC dI a k h0 vi vj vF (fT vG 1 gs) sn wn ((vF 0 (24 * bn)) * hw) ((xa + yb).natAbs) (if xa + yb < 0 then -1 else 1) (by first | with_reducible assumption | decide | omega | rfl | assumption) (by first | with_reducible assumption | decide | omega | rfl | assumption) (fun q hq => by show -1152921504606846976 ≤ (gs q).toInt ∧ (gs q).toInt ≤ 1152921504606846976; have := hE q (by omega); have := la_bd hna3 q; have := la_bd hnb3 q; omega) (by show sv28 gs wn = _; rw [hsv]; omega) (by first | with_reducible assumption | decide | omega | rfl | assumption) (fun h9 => by split <;> first | exact Or.inr ⟨rfl, ofm1 (by omega)⟩ | exact Or.inl ⟨rfl, of1 (by omega)⟩) H.size) (cwV 3 hts gwsRX12_add_1 rfl rfl rfl hd_yX12_carry_RX12 (by decide +kernel)) (fz_pre (va_recv hK hP (ci := 12) (q0 := 0) rfl rfl) hP hK hD) rfl rfl hl.1 rfl (lv_room (Nat.le_of_ble_eq_true rfl)) dX12_add_235 (by decide +kernel)) hS (fun q _ h => hFc q h) hFc (fun g235_3 t9_ H locs ht hvm hw9 hB9 hz1 hk1 hS => ?_)
            have hP : va_P (dC, dI) vwCl (WR a k h0 vi vj (fT vF 0 g235_3) (fT vG 1 gs)) H := fz_P ht hB9.1
            have hD : va_D A (WR a k h0 vi vj (fT vF 0 g235_3) (fT vG 1 gs)) := hB9.2.weaken (fun _ q _ h => hFc q.1 h)
            revert hw9
            refine fz_a2 ?_
            intro f235_3_0 f235_3_1
            refine W.widen (k := 0) (n := 0) (by decide +kernel) (by decide +kernel) ?_
            exact W.vret hx hb hr (fun t9_ ht hW => ⟨⟨(g235_3, gs), rfl, by (try dsimp only); (have e9 : (if xa + yb < 0 then -1 else 1) * (((xa + yb).natAbs : Nat) : Int) = xa + yb := by split <;> omega); rw [e9] at f235_3_0; exact ⟨f235_3_0, f235_3_1⟩, by rw [ht]; exact hP, hD⟩, hS.F ht⟩) hS.2.2 dX12_add_238
          · have t_90 : ¬ ((i : Nat) : Int) ≥ ((wn : Nat) : Int) := toI_nge c_90 (nI_toInt (by omega)) (nI_toInt (by omega))
            refine lv_iload hx hb dX12_add_93 (lv_at hl 0 rfl) ?_
            refine lv_iload hx hb dX12_add_95 (lv_at hl 7 rfl) ?_
            refine W.cut (pc := 119) (fun H locs ls stk => ∃ (uL : Int64), ((uL).toInt = la28 (vF 0) (24 * an + 2) na i) ∧  stk = [.long uL] ∧ va_P (dC, dI) vwCl (WR a k h0 vi vj vF (fT vG 1 gs)) H ∧ va_D A (WR a k h0 vi vj vF (fT vG 1 gs)) ∧ va_S A s.heap H locs ∧ lv_has ls 16 [(11, .int (nI i)), (0, .ref h0), (1, .int (nI sn)), (2, .int (nI an)), (3, .int (nI bn)), (5, .int (vF 0 (24 * an))), (6, .int ((vF 0 (24 * bn)) * hw)), (7, .int (nI na)), (8, .int (nI nb_)), (9, .int (nI wn)), (10, .int 1)]) (fun join6 => ?_) ?_
            · refine lv_icmp_ge (tgt := 118) hx hb dX12_add_97 (by decide) (fun c_97 => ?_) (fun c_97 => ?_)
              · have t_97 : ((i : Nat) : Int) ≥ ((na : Nat) : Int) := toI_ge c_97 (nI_toInt (by omega)) (nI_toInt (by omega))
                refine lv_lconst (v := 0) hx hb dX12_add_118 (by decide) ?_
                have hl : lv_has _ _ ([(11, .int (nI i)), (0, .ref h0), (1, .int (nI sn)), (2, .int (nI an)), (3, .int (nI bn)), (5, .int (vF 0 (24 * an))), (6, .int ((vF 0 (24 * bn)) * hw)), (7, .int (nI na)), (8, .int (nI nb_)), (9, .int (nI wn)), (10, .int 1)]) := lv_sub hl [0, 1, 2, 3, 4, 5, 6, 7, 8, 9, 10] rfl
                exact join6 _ _ _ _ ⟨0, by unfold la28; rw [if_neg (by omega)]; decide, rfl, hP, hD, hS, hl⟩
              · have t_97 : ¬ ((i : Nat) : Int) ≥ ((na : Nat) : Int) := toI_nge c_97 (nI_toInt (by omega)) (nI_toInt (by omega))
                refine lv_aload_n hx hb dX12_add_100 rfl (lv_at hl 1 rfl) ?_
                refine va_get (D := (dC, dI)) (ci := 12) (v := .ref (a 0)) (C := RX12) (T := TX12) (N := 163) (fs := fM (vS a vi vj)) hx hb hts iwsRX12_add_in12 hown hK hP 0 rfl rfl 1 (by decide) (hts (.fieldLink RX12 7 "OptimaWorksModel" "big" "[I") (by decide +kernel)) (fun _ h9 => h9) rfl dX12_add_101 ?_
                refine lv_bipush (v := 24) hx hb dX12_add_104 (by decide) ?_
                refine lv_iload_n hx hb dX12_add_106 rfl (lv_at hl 3 rfl) ?_
                refine lv_imul hx hb dX12_add_107 ?_
                refine lv_topi (fun y25 hy25 => ?_)
                obtain rfl : (nI (24 * an)) = y25 := (hy25.trans (pk_mul 24 an)).symm
                refine lv_iconst (v := 2) hx hb dX12_add_108 (by decide) ?_
                refine lv_iadd hx hb dX12_add_109 ?_
                refine lv_topi (fun y26 hy26 => ?_)
                obtain rfl : (nI ((24 * an) + 2)) = y26 := (hy26.trans (nI_add (24 * an) 2)).symm
                refine lv_iload hx hb dX12_add_110 (lv_at hl 0 rfl) ?_
                refine lv_iadd hx hb dX12_add_112 ?_
                refine lv_topi (fun y27 hy27 => ?_)
                obtain rfl : (nI (((24 * an) + 2) + i)) = y27 := (hy27.trans (nI_add ((24 * an) + 2) i)).symm
                refine va_iald (cA := k 0) (n := 26400) (f := (vF 0)) hx hb hK hP 1 0 (WR_get 0 (by decide)) (TR_get 0 (by decide)) (vp_in_nI (show (((24 * an) + 2) + i) < 26400 by omega) (by omega)) dX12_add_113 ?_
                refine lv_topi (fun y28 hy28 => ?_)
                obtain rfl : ((vF 0) (((24 * an) + 2) + i)) = y28 := (hy28.trans (by rw [nI_clamp (by omega)])).symm
                refine lv_i2l hx hb dX12_add_114 rfl ?_
                refine lv_goto (tgt := 119) hx hb dX12_add_115 (by decide) ?_
                have hl : lv_has _ _ ([(11, .int (nI i)), (0, .ref h0), (1, .int (nI sn)), (2, .int (nI an)), (3, .int (nI bn)), (5, .int (vF 0 (24 * an))), (6, .int ((vF 0 (24 * bn)) * hw)), (7, .int (nI na)), (8, .int (nI nb_)), (9, .int (nI wn)), (10, .int 1)]) := lv_sub hl [0, 1, 2, 3, 4, 5, 6, 7, 8, 9, 10] rfl
                exact join6 _ _ _ _ ⟨(((vF 0) (((24 * an) + 2) + i))).toInt64, by unfold la28; rw [if_pos (by omega)]; exact i64T _, rfl, hP, hD, hS, hl⟩
            · rintro H locs ls stk ⟨uL, eU, rfl, hP, hD, hS, hl⟩
              refine lv_lstore hx hb dX12_add_119 hl (by decide) rfl (fun ls (hl : lv_has ls _ ([(12, .long uL), (11, .int (nI i)), (0, .ref h0), (1, .int (nI sn)), (2, .int (nI an)), (3, .int (nI bn)), (5, .int (vF 0 (24 * an))), (6, .int ((vF 0 (24 * bn)) * hw)), (7, .int (nI na)), (8, .int (nI nb_)), (9, .int (nI wn)), (10, .int 1)])) => ?_)
              refine lv_iload hx hb dX12_add_121 (lv_at hl 1 rfl) ?_
              refine lv_iload hx hb dX12_add_123 (lv_at hl 9 rfl) ?_
              refine W.cut (pc := 147) (fun H locs ls stk => ∃ (vL : Int64), ((vL).toInt = la28 (vF 0) (24 * bn + 2) nb_ i) ∧  stk = [.long vL] ∧ va_P (dC, dI) vwCl (WR a k h0 vi vj vF (fT vG 1 gs)) H ∧ va_D A (WR a k h0 vi vj vF (fT vG 1 gs)) ∧ va_S A s.heap H locs ∧ lv_has ls 16 [(12, .long uL), (11, .int (nI i)), (0, .ref h0), (1, .int (nI sn)), (2, .int (nI an)), (3, .int (nI bn)), (5, .int (vF 0 (24 * an))), (6, .int ((vF 0 (24 * bn)) * hw)), (7, .int (nI na)), (8, .int (nI nb_)), (9, .int (nI wn)), (10, .int 1)]) (fun join7 => ?_) ?_
              · refine lv_icmp_ge (tgt := 146) hx hb dX12_add_125 (by decide) (fun c_125 => ?_) (fun c_125 => ?_)
                · have t_125 : ((i : Nat) : Int) ≥ ((nb_ : Nat) : Int) := toI_ge c_125 (nI_toInt (by omega)) (nI_toInt (by omega))
                  refine lv_lconst (v := 0) hx hb dX12_add_146 (by decide) ?_
                  have hl : lv_has _ _ ([(12, .long uL), (11, .int (nI i)), (0, .ref h0), (1, .int (nI sn)), (2, .int (nI an)), (3, .int (nI bn)), (5, .int (vF 0 (24 * an))), (6, .int ((vF 0 (24 * bn)) * hw)), (7, .int (nI na)), (8, .int (nI nb_)), (9, .int (nI wn)), (10, .int 1)]) := lv_sub hl [0, 1, 2, 3, 4, 5, 6, 7, 8, 9, 10, 11] rfl
                  exact join7 _ _ _ _ ⟨0, by unfold la28; rw [if_neg (by omega)]; decide, rfl, hP, hD, hS, hl⟩
                · have t_125 : ¬ ((i : Nat) : Int) ≥ ((nb_ : Nat) : Int) := toI_nge c_125 (nI_toInt (by omega)) (nI_toInt (by omega))
                  refine lv_aload_n hx hb dX12_add_128 rfl (lv_at hl 2 rfl) ?_
                  refine va_get (D := (dC, dI)) (ci := 12) (v := .ref (a 0)) (C := RX12) (T := TX12) (N := 163) (fs := fM (vS a vi vj)) hx hb hts iwsRX12_add_in12 hown hK hP 0 rfl rfl 1 (by decide) (hts (.fieldLink RX12 7 "OptimaWorksModel" "big" "[I") (by decide +kernel)) (fun _ h9 => h9) rfl dX12_add_129 ?_
                  refine lv_bipush (v := 24) hx hb dX12_add_132 (by decide) ?_
                  refine lv_iload_n hx hb dX12_add_134 rfl (lv_at hl 5 rfl) ?_
                  refine lv_imul hx hb dX12_add_135 ?_
                  refine lv_topi (fun y29 hy29 => ?_)
                  obtain rfl : (nI (24 * bn)) = y29 := (hy29.trans (pk_mul 24 bn)).symm
                  refine lv_iconst (v := 2) hx hb dX12_add_136 (by decide) ?_
                  refine lv_iadd hx hb dX12_add_137 ?_
                  refine lv_topi (fun y30 hy30 => ?_)
                  obtain rfl : (nI ((24 * bn) + 2)) = y30 := (hy30.trans (nI_add (24 * bn) 2)).symm
                  refine lv_iload hx hb dX12_add_138 (lv_at hl 1 rfl) ?_
                  refine lv_iadd hx hb dX12_add_140 ?_
                  refine lv_topi (fun y31 hy31 => ?_)
                  obtain rfl : (nI (((24 * bn) + 2) + i)) = y31 := (hy31.trans (nI_add ((24 * bn) + 2) i)).symm
                  refine va_iald (cA := k 0) (n := 26400) (f := (vF 0)) hx hb hK hP 1 0 (WR_get 0 (by decide)) (TR_get 0 (by decide)) (vp_in_nI (show (((24 * bn) + 2) + i) < 26400 by omega) (by omega)) dX12_add_141 ?_
                  refine lv_topi (fun y32 hy32 => ?_)
                  obtain rfl : ((vF 0) (((24 * bn) + 2) + i)) = y32 := (hy32.trans (by rw [nI_clamp (by omega)])).symm
                  refine lv_i2l hx hb dX12_add_142 rfl ?_
                  refine lv_goto (tgt := 147) hx hb dX12_add_143 (by decide) ?_
                  have hl : lv_has _ _ ([(12, .long uL), (11, .int (nI i)), (0, .ref h0), (1, .int (nI sn)), (2, .int (nI an)), (3, .int (nI bn)), (5, .int (vF 0 (24 * an))), (6, .int ((vF 0 (24 * bn)) * hw)), (7, .int (nI na)), (8, .int (nI nb_)), (9, .int (nI wn)), (10, .int 1)]) := lv_sub hl [0, 1, 2, 3, 4, 5, 6, 7, 8, 9, 10, 11] rfl
                  exact join7 _ _ _ _ ⟨(((vF 0) (((24 * bn) + 2) + i))).toInt64, by unfold la28; rw [if_pos (by omega)]; exact i64T _, rfl, hP, hD, hS, hl⟩
              · rintro H locs ls stk ⟨vL, eV, rfl, hP, hD, hS, hl⟩
                refine lv_lstore hx hb dX12_add_147 hl (by decide) rfl (fun ls (hl : lv_has ls _ ([(14, .long vL), (12, .long uL), (11, .int (nI i)), (0, .ref h0), (1, .int (nI sn)), (2, .int (nI an)), (3, .int (nI bn)), (5, .int (vF 0 (24 * an))), (6, .int ((vF 0 (24 * bn)) * hw)), (7, .int (nI na)), (8, .int (nI nb_)), (9, .int (nI wn)), (10, .int 1)])) => ?_)
                have bU := la_bd hna3 i
                have bV := la_bd hnb3 i
                refine lv_aload_n hx hb dX12_add_149 rfl (lv_at hl 3 rfl) ?_
                refine va_get (D := (dC, dI)) (ci := 12) (v := .ref (a 1)) (C := RX12) (T := TX12) (N := 163) (fs := fM (vS a vi vj)) hx hb hts iwsRX12_add_in12 hown hK hP 0 rfl rfl 2 (by decide) (hts (.fieldLink RX12 13 "OptimaWorksModel" "sum" "[J") (by decide +kernel)) (fun _ h9 => h9) rfl dX12_add_150 ?_
                refine lv_iload hx hb dX12_add_153 (lv_at hl 2 rfl) ?_
                refine lv_iload hx hb dX12_add_155 (lv_at hl 7 rfl) ?_
                refine lv_iload hx hb dX12_add_157 (lv_at hl 8 rfl) ?_
                refine lv_imul hx hb dX12_add_159 ?_
                refine lv_if_lt (tgt := 171) hx hb dX12_add_160 (by decide) (fun c_160 => ?_) (fun c9 => False.elim (by have t9 : ¬ (((vF 0 (24 * an)) * ((vF 0 (24 * bn)) * hw))).toInt < 0 := toI_nlt c9 rfl (by decide); omega))
                have t_160 : (((vF 0 (24 * an)) * ((vF 0 (24 * bn)) * hw))).toInt < 0 := toI_lt c_160 rfl (by decide)
                refine lv_iload hx hb dX12_add_171 (lv_at hl 12 rfl) ?_
                refine lv_if_eq (tgt := 184) hx hb dX12_add_173 (by decide) (fun c9 => absurd c9 (by decide)) (fun _ => ?_)
                refine lv_lload hx hb dX12_add_176 (lv_at hl 0 rfl) ?_
                refine lv_lload hx hb dX12_add_178 (lv_at hl 1 rfl) ?_
                refine lv_lsub hx hb dX12_add_180 ?_
                refine lv_goto (tgt := 189) hx hb dX12_add_181 (by decide) ?_
                have eS : ((vL - uL) : Int64).toInt = (-1) * la28 (vF 0) (24 * an + 2) na i + 1 * la28 (vF 0) (24 * bn + 2) nb_ i := by rw [subJ (by omega) (by omega)]; omega
                refine va_last (cA := k 1) (n := 48) (f := gs) hx hb hK hP hD hS 2 1 (WR_get 1 (by decide)) (TR_get 1 (by decide)) (vp_in_nI (show i < 48 by omega) (by omega)) dX12_add_189 (fun H locs hP hD hS => ?_)
                have e9 : fT vG 1 (vp_updL gs ((nI i)).toNatClampNeg (vL - uL)) = fT (fT vG 1 gs) 1 (vp_updL gs ((nI i)).toNatClampNeg (vL - uL)) := (fT_sm _ _ _ _).symm
                have hP : va_P (dC, dI) vwCl (WR a k h0 vi vj vF (fT vG 1 (vp_updL gs ((nI i)).toNatClampNeg (vL - uL)))) H := by rw [e9, ← WR_G 1 (by decide) _ rfl]; exact hP
                have hD : va_D A (WR a k h0 vi vj vF (fT vG 1 (vp_updL gs ((nI i)).toNatClampNeg (vL - uL)))) := by rw [e9, ← WR_G 1 (by decide) _ rfl]; exact hD
                clear e9
                refine lv_iinc (v := (nI (i + 1))) hx hb dX12_add_190 hl (k := 2) rfl (nI_add i 1) (by decide) rfl (fun ls (hl : lv_has ls _ ([(11, .int (nI (i + 1))), (14, .long vL), (12, .long uL), (0, .ref h0), (1, .int (nI sn)), (2, .int (nI an)), (3, .int (nI bn)), (5, .int (vF 0 (24 * an))), (6, .int ((vF 0 (24 * bn)) * hw)), (7, .int (nI na)), (8, .int (nI nb_)), (9, .int (nI wn)), (10, .int 1)])) => ?_)
                refine lv_goto (tgt := 86) hx hb dX12_add_193 (by decide) ?_
                have hl : lv_has _ _ ([(11, .int (nI (i + 1))), (0, .ref h0), (1, .int (nI sn)), (2, .int (nI an)), (3, .int (nI bn)), (5, .int (vF 0 (24 * an))), (6, .int ((vF 0 (24 * bn)) * hw)), (7, .int (nI na)), (8, .int (nI nb_)), (9, .int (nI wn)), (10, .int 1)]) := lv_sub hl [0, 3, 4, 5, 6, 7, 8, 9, 10, 11, 12] rfl
                exact ih86_2 (i + 1) (vp_updL gs ((nI i)).toNatClampNeg (vL - uL)) _ _ _ (by omega) (fun q hq => by rw [updL_at (by omega)]; by_cases e9 : q = i; (rw [if_pos e9, e9]; exact eS); (rw [if_neg e9]; exact hE q (by omega))) (by omega) hP hD hS hl
end
section
theorem sv28_congr {f g : Nat → Int64} {w : Nat} (h : ∀ q, q < w → (f q).toInt = (g q).toInt) : sv28 f w = sv28 g w := by
  induction w with
  | zero => rfl
  | succ w ih => simp only [sv28]; rw [ih (fun q hq => h q (by omega)), h w (by omega)]
theorem sv28_upd {gs : Nat → Int64} {p w : Nat} {x : Int64} (hp : p < w) (hp2 : p < 2 ^ 31) : sv28 (vp_updL gs (nI p).toNatClampNeg x) w = sv28 gs w + (x.toInt - (gs p).toInt) * ((2 ^ (28 * p) : Nat) : Int) := by
  induction w with
  | zero => omega
  | succ w ih =>
    simp only [sv28]
    by_cases e : p = w
    · subst e
      rw [sv28_congr (g := gs) (fun q hq => by rw [updL_at hp2, if_neg (by omega)]), updL_at hp2, if_pos rfl, Int.sub_mul]
      omega
    · rw [ih (by omega), updL_at hp2, if_neg (by omega)]
      omega
theorem mulJ {x y : Int32} (hx : 0 ≤ x.toInt ∧ x.toInt < 268435456) (hy : 0 ≤ y.toInt ∧ y.toInt < 268435456) : (x.toInt64 * y.toInt64).toInt = x.toInt * y.toInt ∧ 0 ≤ x.toInt * y.toInt ∧ x.toInt * y.toInt ≤ 268435455 * 268435455 := by
  have h1 : 0 ≤ x.toInt * y.toInt := Int.mul_nonneg hx.1 hy.1
  have h2 : x.toInt * y.toInt ≤ 268435455 * 268435455 := Int.mul_le_mul (by omega) (by omega) hy.1 (by omega)
  refine ⟨?_, h1, h2⟩
  rw [Int64.toInt_mul, i64T, i64T]
  exact Int.bmod_eq_of_le (by omega) (by omega)
theorem sv28_zero {gs : Nat → Int64} {w : Nat} (h : ∀ q, q < w → gs q = 0) : sv28 gs w = 0 := by
  induction w with
  | zero => rfl
  | succ w ih =>
    simp only [sv28]
    rw [ih (fun q hq => h q (by omega)), h w (by omega)]
    have e : (0 : Int64).toInt = 0 := by decide
    rw [e]; simp
/-- a limb more of the product's row -/
theorem tm_step {S S0 v x ab ov A B1 b : Int} {P i j : Nat} (hv : v = x + ab + ov) (hab : ab = A * b)
    (h : S + ov * ((2 ^ (28 * (i + j)) : Nat) : Int) = S0 + A * B1 * ((2 ^ (28 * i) : Nat) : Int)) :
    S + (v % 268435456 - x) * ((2 ^ (28 * (i + j)) : Nat) : Int) + v / 268435456 * ((2 ^ (28 * (i + (j + 1))) : Nat) : Int) = S0 + A * (B1 + b * ((2 ^ (28 * j) : Nat) : Int)) * ((2 ^ (28 * i) : Nat) : Int) := by
  have e1 : ((2 ^ (28 * (i + (j + 1))) : Nat) : Int) = 268435456 * ((2 ^ (28 * (i + j)) : Nat) : Int) := by
    rw [show 28 * (i + (j + 1)) = 28 + 28 * (i + j) by omega, Nat.pow_add, Int.natCast_mul]; rfl
  have e2 : ((2 ^ (28 * (i + j)) : Nat) : Int) = ((2 ^ (28 * i) : Nat) : Int) * ((2 ^ (28 * j) : Nat) : Int) := by
    rw [show 28 * (i + j) = 28 * i + 28 * j by omega, Nat.pow_add, Int.natCast_mul]
  rw [e1]
  have e3 : v = v % 268435456 + 268435456 * (v / 268435456) := by omega
  generalize hX : ((2 ^ (28 * (i + j)) : Nat) : Int) = X at *
  have e4 : (v % 268435456 - x) * X + v / 268435456 * (268435456 * X) = (v - x) * X := by
    have : v / 268435456 * (268435456 * X) = (268435456 * (v / 268435456)) * X := by rw [← Int.mul_assoc, Int.mul_comm (v / 268435456)]
    rw [this, ← Int.add_mul]; congr 1; omega
  rw [Int.add_assoc, e4, hv, show x + ab + ov - x = ab + ov by omega, Int.add_mul, Int.mul_add, Int.add_mul, ← Int.add_assoc, Int.add_right_comm, h, Int.add_assoc]
  congr 1
  congr 1
  rw [hab, e2, Int.mul_assoc, Int.mul_assoc, Int.mul_assoc, Int.mul_comm ((2 ^ (28 * i) : Nat) : Int)]
theorem lv28_int {f : Nat → Int32} {o n : Nat} (h : Lm f o (n + 1)) : ((lv28 f o (n + 1) : Nat) : Int) = ((lv28 f o n : Nat) : Int) + (f (o + n)).toInt * ((2 ^ (28 * n) : Nat) : Int) := by
  have := limb_lt h (q := n) (by omega)
  simp only [lv28]
  rw [Int.natCast_add, Int.natCast_mul, this.2.2]
  congr 2
  omega
theorem Lm.mono {f : Nat → Int32} {o n m : Nat} (h : Lm f o n) (hm : m ≤ n) : Lm f o m := fun q hq => h q (by omega)
theorem few22 {f g : Nat → Int32} {o p n m : Nat} (hf : Lm f o n) (hg : Lm g p m) (tf : 0 < n → f (o + (n - 1)) ≠ 0) (tg : 0 < m → g (p + (m - 1)) ≠ 0) (hn : n ≤ 22) (hm : m ≤ 22) (h : lv28 f o n * lv28 g p m < 2 ^ 588) (h0 : 0 < n) (h1 : 0 < m) : n + m ≤ 22 := by
  obtain ⟨a, rfl⟩ : ∃ a, n = a + 1 := ⟨n - 1, by omega⟩
  obtain ⟨b, rfl⟩ : ∃ b, m = b + 1 := ⟨m - 1, by omega⟩
  have e1 := lv28_ge hf (by simpa using tf)
  have e2 := lv28_ge hg (by simpa using tg)
  have e3 := Nat.mul_le_mul e1 e2
  rw [← Nat.pow_add] at e3
  have e4 : 2 ^ (28 * a + 28 * b) < 2 ^ 588 := Nat.lt_of_le_of_lt e3 h
  have e5 := (Nat.pow_lt_pow_iff_right (a := 2) (by omega)).mp e4
  omega
theorem sgProd {x y : Int32} {X Y : Int} (hx : (X = 0 ∧ x.toInt = 0) ∨ (0 < X ∧ x.toInt = 1) ∨ (X < 0 ∧ x.toInt = -1)) (hy : (Y = 0 ∧ y.toInt = 0) ∨ (0 < Y ∧ y.toInt = 1) ∨ (Y < 0 ∧ y.toInt = -1)) (h : 0 < X.natAbs * Y.natAbs) :
    ((if X * Y < 0 then (-1 : Int) else 1) = 1 ∧ x * y = 1) ∨ ((if X * Y < 0 then (-1 : Int) else 1) = -1 ∧ x * y = -1) := by
  have e : (x * y).toInt = x.toInt * y.toInt := by
    rw [Int32.toInt_mul]
    rcases hx with ⟨_, h⟩ | ⟨_, h⟩ | ⟨_, h⟩ <;> rcases hy with ⟨_, h'⟩ | ⟨_, h'⟩ | ⟨_, h'⟩ <;> rw [h, h'] <;> rfl
  rcases hx with ⟨a, b⟩ | ⟨a, b⟩ | ⟨a, b⟩
  · subst a; simp at h
  · rcases hy with ⟨c, d⟩ | ⟨c, d⟩ | ⟨c, d⟩
    · subst c; simp at h
    · exact Or.inl ⟨if_neg (by have := Int.mul_pos a c; omega), of1 (by rw [e, b, d]; rfl)⟩
    · exact Or.inr ⟨if_pos (Int.mul_neg_of_pos_of_neg a c), ofm1 (by rw [e, b, d]; rfl)⟩
  · rcases hy with ⟨c, d⟩ | ⟨c, d⟩ | ⟨c, d⟩
    · subst c; simp at h
    · exact Or.inr ⟨if_pos (Int.mul_neg_of_neg_of_pos a c), ofm1 (by rw [e, b, d]; rfl)⟩
    · exact Or.inl ⟨if_neg (by have := Int.mul_pos_of_neg_of_neg a c; omega), of1 (by rw [e, b, d]; rfl)⟩
theorem sgn_abs (X Y : Int) : (if X * Y < 0 then (-1 : Int) else 1) * (((X.natAbs * Y.natAbs : Nat)) : Int) = X * Y := by
  rw [← Int.natAbs_mul]
  split <;> omega
end
section
theorem dX12_times_0 : decode cX12_times 0 = .ok (.aload_n 0, 1) := dk_42 (by decide +kernel)
theorem dX12_times_1 : decode cX12_times 1 = .ok (.getfield 7, 3) := dk_180 (by decide +kernel)
theorem dX12_times_4 : decode cX12_times 4 = .ok (.bipush 24, 2) := dk_16 (by decide +kernel)
theorem dX12_times_6 : decode cX12_times 6 = .ok (.iload_n 2, 1) := dk_28 (by decide +kernel)
theorem dX12_times_7 : decode cX12_times 7 = .ok (.imul, 1) := dk_104 (by decide +kernel)
theorem dX12_times_8 : decode cX12_times 8 = .ok (.iconst 1, 1) := dk_4 (by decide +kernel)
theorem dX12_times_9 : decode cX12_times 9 = .ok (.iadd, 1) := dk_96 (by decide +kernel)
theorem dX12_times_10 : decode cX12_times 10 = .ok (.iaload, 1) := dk_46 (by decide +kernel)
theorem dX12_times_11 : decode cX12_times 11 = .ok (.istore 4, 2) := dk_54 (by decide +kernel)
theorem dX12_times_13 : decode cX12_times 13 = .ok (.aload_n 0, 1) := dk_42 (by decide +kernel)
theorem dX12_times_14 : decode cX12_times 14 = .ok (.getfield 7, 3) := dk_180 (by decide +kernel)
theorem dX12_times_17 : decode cX12_times 17 = .ok (.bipush 24, 2) := dk_16 (by decide +kernel)
theorem dX12_times_19 : decode cX12_times 19 = .ok (.iload_n 3, 1) := dk_29 (by decide +kernel)
theorem dX12_times_20 : decode cX12_times 20 = .ok (.imul, 1) := dk_104 (by decide +kernel)
theorem dX12_times_21 : decode cX12_times 21 = .ok (.iconst 1, 1) := dk_4 (by decide +kernel)
theorem dX12_times_22 : decode cX12_times 22 = .ok (.iadd, 1) := dk_96 (by decide +kernel)
theorem dX12_times_23 : decode cX12_times 23 = .ok (.iaload, 1) := dk_46 (by decide +kernel)
theorem dX12_times_24 : decode cX12_times 24 = .ok (.istore 5, 2) := dk_54 (by decide +kernel)
theorem dX12_times_26 : decode cX12_times 26 = .ok (.iconst 0, 1) := dk_3 (by decide +kernel)
theorem dX12_times_27 : decode cX12_times 27 = .ok (.istore 6, 2) := dk_54 (by decide +kernel)
theorem dX12_times_29 : decode cX12_times 29 = .ok (.iload 6, 2) := dk_21 (by decide +kernel)
theorem dX12_times_31 : decode cX12_times 31 = .ok (.iload 4, 2) := dk_21 (by decide +kernel)
theorem dX12_times_33 : decode cX12_times 33 = .ok (.iload 5, 2) := dk_21 (by decide +kernel)
theorem dX12_times_35 : decode cX12_times 35 = .ok (.iadd, 1) := dk_96 (by decide +kernel)
theorem dX12_times_36 : decode cX12_times 36 = .ok (.if_icmp .ge 17, 3) := dk_162 (by decide +kernel)
theorem dX12_times_39 : decode cX12_times 39 = .ok (.aload_n 0, 1) := dk_42 (by decide +kernel)
theorem dX12_times_40 : decode cX12_times 40 = .ok (.getfield 13, 3) := dk_180 (by decide +kernel)
theorem dX12_times_43 : decode cX12_times 43 = .ok (.iload 6, 2) := dk_21 (by decide +kernel)
theorem dX12_times_45 : decode cX12_times 45 = .ok (.lconst 0, 1) := dk_9 (by decide +kernel)
theorem dX12_times_46 : decode cX12_times 46 = .ok (.lastore, 1) := dk_80 (by decide +kernel)
theorem dX12_times_47 : decode cX12_times 47 = .ok (.iinc 6 1, 3) := dk_132 (by decide +kernel)
theorem dX12_times_50 : decode cX12_times 50 = .ok (.goto (-21), 3) := dk_167 (by decide +kernel)
theorem dX12_times_53 : decode cX12_times 53 = .ok (.iconst 0, 1) := dk_3 (by decide +kernel)
theorem dX12_times_54 : decode cX12_times 54 = .ok (.istore 6, 2) := dk_54 (by decide +kernel)
theorem dX12_times_56 : decode cX12_times 56 = .ok (.iload 6, 2) := dk_21 (by decide +kernel)
theorem dX12_times_58 : decode cX12_times 58 = .ok (.iload 4, 2) := dk_21 (by decide +kernel)
theorem dX12_times_60 : decode cX12_times 60 = .ok (.if_icmp .ge 113, 3) := dk_162 (by decide +kernel)
theorem dX12_times_63 : decode cX12_times 63 = .ok (.lconst 0, 1) := dk_9 (by decide +kernel)
theorem dX12_times_64 : decode cX12_times 64 = .ok (.lstore 7, 2) := dk_55 (by decide +kernel)
theorem dX12_times_66 : decode cX12_times 66 = .ok (.iconst 0, 1) := dk_3 (by decide +kernel)
theorem dX12_times_67 : decode cX12_times 67 = .ok (.istore 9, 2) := dk_54 (by decide +kernel)
theorem dX12_times_69 : decode cX12_times 69 = .ok (.iload 9, 2) := dk_21 (by decide +kernel)
theorem dX12_times_71 : decode cX12_times 71 = .ok (.iload 5, 2) := dk_21 (by decide +kernel)
theorem dX12_times_73 : decode cX12_times 73 = .ok (.if_icmp .ge 79, 3) := dk_162 (by decide +kernel)
theorem dX12_times_76 : decode cX12_times 76 = .ok (.aload_n 0, 1) := dk_42 (by decide +kernel)
theorem dX12_times_77 : decode cX12_times 77 = .ok (.getfield 13, 3) := dk_180 (by decide +kernel)
theorem dX12_times_80 : decode cX12_times 80 = .ok (.iload 6, 2) := dk_21 (by decide +kernel)
theorem dX12_times_82 : decode cX12_times 82 = .ok (.iload 9, 2) := dk_21 (by decide +kernel)
theorem dX12_times_84 : decode cX12_times 84 = .ok (.iadd, 1) := dk_96 (by decide +kernel)
theorem dX12_times_85 : decode cX12_times 85 = .ok (.laload, 1) := dk_47 (by decide +kernel)
theorem dX12_times_86 : decode cX12_times 86 = .ok (.aload_n 0, 1) := dk_42 (by decide +kernel)
theorem dX12_times_87 : decode cX12_times 87 = .ok (.getfield 7, 3) := dk_180 (by decide +kernel)
theorem dX12_times_90 : decode cX12_times 90 = .ok (.bipush 24, 2) := dk_16 (by decide +kernel)
theorem dX12_times_92 : decode cX12_times 92 = .ok (.iload_n 2, 1) := dk_28 (by decide +kernel)
theorem dX12_times_93 : decode cX12_times 93 = .ok (.imul, 1) := dk_104 (by decide +kernel)
theorem dX12_times_94 : decode cX12_times 94 = .ok (.iconst 2, 1) := dk_5 (by decide +kernel)
theorem dX12_times_95 : decode cX12_times 95 = .ok (.iadd, 1) := dk_96 (by decide +kernel)
theorem dX12_times_96 : decode cX12_times 96 = .ok (.iload 6, 2) := dk_21 (by decide +kernel)
theorem dX12_times_98 : decode cX12_times 98 = .ok (.iadd, 1) := dk_96 (by decide +kernel)
theorem dX12_times_99 : decode cX12_times 99 = .ok (.iaload, 1) := dk_46 (by decide +kernel)
theorem dX12_times_100 : decode cX12_times 100 = .ok (.i2l, 1) := dk_133 (by decide +kernel)
theorem dX12_times_101 : decode cX12_times 101 = .ok (.aload_n 0, 1) := dk_42 (by decide +kernel)
theorem dX12_times_102 : decode cX12_times 102 = .ok (.getfield 7, 3) := dk_180 (by decide +kernel)
theorem dX12_times_105 : decode cX12_times 105 = .ok (.bipush 24, 2) := dk_16 (by decide +kernel)
theorem dX12_times_107 : decode cX12_times 107 = .ok (.iload_n 3, 1) := dk_29 (by decide +kernel)
theorem dX12_times_108 : decode cX12_times 108 = .ok (.imul, 1) := dk_104 (by decide +kernel)
theorem dX12_times_109 : decode cX12_times 109 = .ok (.iconst 2, 1) := dk_5 (by decide +kernel)
theorem dX12_times_110 : decode cX12_times 110 = .ok (.iadd, 1) := dk_96 (by decide +kernel)
theorem dX12_times_111 : decode cX12_times 111 = .ok (.iload 9, 2) := dk_21 (by decide +kernel)
theorem dX12_times_113 : decode cX12_times 113 = .ok (.iadd, 1) := dk_96 (by decide +kernel)
theorem dX12_times_114 : decode cX12_times 114 = .ok (.iaload, 1) := dk_46 (by decide +kernel)
theorem dX12_times_115 : decode cX12_times 115 = .ok (.i2l, 1) := dk_133 (by decide +kernel)
theorem dX12_times_116 : decode cX12_times 116 = .ok (.lmul, 1) := dk_105 (by decide +kernel)
theorem dX12_times_117 : decode cX12_times 117 = .ok (.ladd, 1) := dk_97 (by decide +kernel)
theorem dX12_times_118 : decode cX12_times 118 = .ok (.lload 7, 2) := dk_22 (by decide +kernel)
theorem dX12_times_120 : decode cX12_times 120 = .ok (.ladd, 1) := dk_97 (by decide +kernel)
theorem dX12_times_121 : decode cX12_times 121 = .ok (.lstore 10, 2) := dk_55 (by decide +kernel)
theorem dX12_times_123 : decode cX12_times 123 = .ok (.aload_n 0, 1) := dk_42 (by decide +kernel)
theorem dX12_times_124 : decode cX12_times 124 = .ok (.getfield 13, 3) := dk_180 (by decide +kernel)
theorem dX12_times_127 : decode cX12_times 127 = .ok (.iload 6, 2) := dk_21 (by decide +kernel)
theorem dX12_times_129 : decode cX12_times 129 = .ok (.iload 9, 2) := dk_21 (by decide +kernel)
theorem dX12_times_131 : decode cX12_times 131 = .ok (.iadd, 1) := dk_96 (by decide +kernel)
theorem dX12_times_132 : decode cX12_times 132 = .ok (.lload 10, 2) := dk_22 (by decide +kernel)
theorem dX12_times_134 : decode cX12_times 134 = .ok (.ldc2_w 351, 3) := dk_20 (by decide +kernel)
theorem dX12_times_137 : decode cX12_times 137 = .ok (.land, 1) := dk_127 (by decide +kernel)
theorem dX12_times_138 : decode cX12_times 138 = .ok (.lastore, 1) := dk_80 (by decide +kernel)
theorem dX12_times_139 : decode cX12_times 139 = .ok (.lload 10, 2) := dk_22 (by decide +kernel)
theorem dX12_times_141 : decode cX12_times 141 = .ok (.bipush 28, 2) := dk_16 (by decide +kernel)
theorem dX12_times_143 : decode cX12_times 143 = .ok (.lshr, 1) := dk_123 (by decide +kernel)
theorem dX12_times_144 : decode cX12_times 144 = .ok (.lstore 7, 2) := dk_55 (by decide +kernel)
theorem dX12_times_146 : decode cX12_times 146 = .ok (.iinc 9 1, 3) := dk_132 (by decide +kernel)
theorem dX12_times_149 : decode cX12_times 149 = .ok (.goto (-80), 3) := dk_167 (by decide +kernel)
theorem dX12_times_152 : decode cX12_times 152 = .ok (.aload_n 0, 1) := dk_42 (by decide +kernel)
theorem dX12_times_153 : decode cX12_times 153 = .ok (.getfield 13, 3) := dk_180 (by decide +kernel)
theorem dX12_times_156 : decode cX12_times 156 = .ok (.iload 6, 2) := dk_21 (by decide +kernel)
theorem dX12_times_158 : decode cX12_times 158 = .ok (.iload 5, 2) := dk_21 (by decide +kernel)
theorem dX12_times_160 : decode cX12_times 160 = .ok (.iadd, 1) := dk_96 (by decide +kernel)
theorem dX12_times_161 : decode cX12_times 161 = .ok (.dup2, 1) := dk_92 (by decide +kernel)
theorem dX12_times_162 : decode cX12_times 162 = .ok (.laload, 1) := dk_47 (by decide +kernel)
theorem dX12_times_163 : decode cX12_times 163 = .ok (.lload 7, 2) := dk_22 (by decide +kernel)
theorem dX12_times_165 : decode cX12_times 165 = .ok (.ladd, 1) := dk_97 (by decide +kernel)
theorem dX12_times_166 : decode cX12_times 166 = .ok (.lastore, 1) := dk_80 (by decide +kernel)
theorem dX12_times_167 : decode cX12_times 167 = .ok (.iinc 6 1, 3) := dk_132 (by decide +kernel)
theorem dX12_times_170 : decode cX12_times 170 = .ok (.goto (-114), 3) := dk_167 (by decide +kernel)
theorem dX12_times_173 : decode cX12_times 173 = .ok (.aload_n 0, 1) := dk_42 (by decide +kernel)
theorem dX12_times_174 : decode cX12_times 174 = .ok (.iload_n 1, 1) := dk_27 (by decide +kernel)
theorem dX12_times_175 : decode cX12_times 175 = .ok (.iload 4, 2) := dk_21 (by decide +kernel)
theorem dX12_times_177 : decode cX12_times 177 = .ok (.iload 5, 2) := dk_21 (by decide +kernel)
theorem dX12_times_179 : decode cX12_times 179 = .ok (.iadd, 1) := dk_96 (by decide +kernel)
theorem dX12_times_180 : decode cX12_times 180 = .ok (.aload_n 0, 1) := dk_42 (by decide +kernel)
theorem dX12_times_181 : decode cX12_times 181 = .ok (.iload_n 2, 1) := dk_28 (by decide +kernel)
theorem dX12_times_182 : decode cX12_times 182 = .ok (.invokevirtual 353, 3) := dk_182 (by decide +kernel)
theorem dX12_times_185 : decode cX12_times 185 = .ok (.aload_n 0, 1) := dk_42 (by decide +kernel)
theorem dX12_times_186 : decode cX12_times 186 = .ok (.iload_n 3, 1) := dk_29 (by decide +kernel)
theorem dX12_times_187 : decode cX12_times 187 = .ok (.invokevirtual 353, 3) := dk_182 (by decide +kernel)
theorem dX12_times_190 : decode cX12_times 190 = .ok (.imul, 1) := dk_104 (by decide +kernel)
theorem dX12_times_191 : decode cX12_times 191 = .ok (.invokevirtual 361, 3) := dk_182 (by decide +kernel)
theorem dX12_times_194 : decode cX12_times 194 = .ok (.return_, 1) := dk_177 (by decide +kernel)
def wsRX12_times : List Cond := .code yX12_times cX12_times 12 none :: ([.fieldLink RX12 7 "OptimaWorksModel" "big" "[I", .fieldLink RX12 13 "OptimaWorksModel" "sum" "[J", .constantLong RX12 351 268435455] ++ wsX120 ++ (wsV RX12 353 RX12 yX12_sign wsRX12_sign) ++ (wsV RX12 361 RX12 yX12_carry wsRX12_carry))
theorem iwsRX12_times_in12 : ∀ w ∈ wsX120, w ∈ wsRX12_times := fun _ h => List.mem_cons_of_mem _ (List.mem_append_left _ (List.mem_append_left _ (List.mem_append_right _ h)))
theorem gwsRX12_times_0 : GoodIn wsRX12_times (wsV RX12 353 RX12 yX12_sign wsRX12_sign) := goodIn_sub (fun _ h => List.mem_cons_of_mem _ (List.mem_append_left _ (List.mem_append_right _ h))) (by decide +kernel)
theorem gwsRX12_times_1 : GoodIn wsRX12_times (wsV RX12 361 RX12 yX12_carry wsRX12_carry) := goodIn_sub (fun _ h => List.mem_cons_of_mem _ (List.mem_append_right _ h)) (by decide +kernel)
set_option maxHeartbeats 4000000 in
set_option maxRecDepth 100000 in
/-- times(s, a, b) -/
theorem r_X12_times (l : Launch) (dC : Nat → ClassId) (dI : Nat → Nat → Nat) (a : Nat → Nat) (k : Nat → ClassId) (h0 : Nat) (vi : Nat → Int32) (vj : Nat → Int64) (vF : Nat → Nat → Int32) (vG : Nat → Nat → Int64) (sn : Nat) (hs : sn < 1100) (an : Nat) (bn : Nat) (xa : Int) (xb : Int) (hna : an < 1100) (hnb : bn < 1100) (hxa : Nu (vF 0) an xa) (hxb : Nu (vF 0) bn xb) (hbig : xa.natAbs * xb.natAbs < 2 ^ 588) (sz : Nat) : Met l yX12_times wsRX12_times ({ frames := 1, cells := 0, slots := 0, locals := 28 }) (va_Pc [.ref h0, .int (nI sn), .int (nI an), .int (nI bn)] (fun U => U.heap.size = sz ∧ va_P (dC, dI) vwCl (WR a k h0 vi vj vF vG) U.heap ∧ va_K (dC, dI) vwCl (tX12 k) U ∧ va_D (fun _ => True) (WR a k h0 vi vj vF vG))) (va_Qv (fun (u : (Nat → Int32) × (Nat → Int64)) => (Nu (u.1) sn (xa * xb)) ∧ (∀ q, (q < 24 * sn ∨ 24 * sn + 24 ≤ q) → (u.1) q = vF 0 q)) (fun (u : (Nat → Int32) × (Nat → Int64)) t => va_P (dC, dI) vwCl (WR a k h0 vi vj (fT vF 0 (u.1)) (fT vG 1 (u.2))) t.heap ∧ va_D (va_A (WR a k h0 vi vj vF vG) sz) (WR a k h0 vi vj (fT vF 0 (u.1)) (fT vG 1 (u.2)))) (va_A (WR a k h0 vi vj vF vG) sz)) 0 0 (va_A (WR a k h0 vi vj vF vG) sz) := by
  refine Met.ofW (cc := cX12_times) (maxL := 12) (ret := none) (by decide) rfl ?_
  intro p e s m args below meth c s₁ B hml hv
  obtain ⟨rfl, hsz, hP, hK, hD0⟩ := hv
  have hx := B.exec
  have hb := B.bytes
  have hr := B.returns
  have hts := atoms_spec (ws := wsRX12_times) B.pre
  have hown : s.vm.findClass RX12 = some m.cls := findClass_of_methodNamed B.named
  have hlocks := B.notSynchronized
  subst hsz
  have hD := hD0.self (sz := s.heap.size)
  generalize hAe : va_A (WR a k h0 vi vj vF vG) s.heap.size = A at hD ⊢
  have hA : ∀ q : Nat, s.heap.size ≤ q → A q := fun q h => by rw [← hAe]; exact Or.inr h
  have hS : va_S A s.heap s.heap [] := va_S.rf
  have hl := lv_entry ([.ref h0, .int (nI sn), .int (nI an), .int (nI bn)]) (n := 12) (Nat.le_of_ble_eq_true rfl)
  rw [lg_entry_eq]
  generalize (lg_sl ([.ref h0, .int (nI sn), .int (nI an), .int (nI bn)]) ++ List.replicate (12 - (lg_sl ([.ref h0, .int (nI sn), .int (nI an), .int (nI bn)])).length) Slot.unset).toArray = ls at hl ⊢
  have hl : lv_has ls 12 [(0, .ref h0), (1, .int (nI sn)), (2, .int (nI an)), (3, .int (nI bn))] := hl
  obtain ⟨na, hna1, hna2, hna3, hna4, hna5, hna6⟩ := id hxa
  obtain ⟨nb_, hnb1, hnb2, hnb3, hnb4, hnb5, hnb6⟩ := id hxb
  have sa := sgT hna6
  have sb := sgT hnb6
  have hnm : na + nb_ ≤ 22 := by rcases Nat.eq_zero_or_pos na with h9 | h9; (omega); rcases Nat.eq_zero_or_pos nb_ with h8 | h8; (omega); exact few22 hna3 hnb3 (fun h => by rw [show 24 * an + 2 + (na - 1) = 24 * an + 1 + na by omega]; exact hna4 h) (fun h => by rw [show 24 * bn + 2 + (nb_ - 1) = 24 * bn + 1 + nb_ by omega]; exact hnb4 h) hna1 hnb1 (by rw [← hna5, ← hnb5]; exact hbig) h9 h8
  refine lv_aload_n hx hb dX12_times_0 rfl (lv_at hl 0 rfl) ?_
  refine va_get (D := (dC, dI)) (ci := 12) (v := .ref (a 0)) (C := RX12) (T := TX12) (N := 163) (fs := fM (vS a vi vj)) hx hb hts iwsRX12_times_in12 hown hK hP 0 rfl rfl 1 (by decide) (hts (.fieldLink RX12 7 "OptimaWorksModel" "big" "[I") (by decide +kernel)) (fun _ h9 => h9) rfl dX12_times_1 ?_
  refine lv_bipush (v := 24) hx hb dX12_times_4 (by decide) ?_
  refine lv_iload_n hx hb dX12_times_6 rfl (lv_at hl 2 rfl) ?_
  refine lv_imul hx hb dX12_times_7 ?_
  refine lv_topi (fun y1 hy1 => ?_)
  obtain rfl : (nI (24 * an)) = y1 := (hy1.trans (pk_mul 24 an)).symm
  refine lv_iconst (v := 1) hx hb dX12_times_8 (by decide) ?_
  refine lv_iadd hx hb dX12_times_9 ?_
  refine lv_topi (fun y2 hy2 => ?_)
  obtain rfl : (nI ((24 * an) + 1)) = y2 := (hy2.trans (nI_add (24 * an) 1)).symm
  refine va_iald (cA := k 0) (n := 26400) (f := (vF 0)) hx hb hK hP 1 0 (WR_get 0 (by decide)) (TR_get 0 (by decide)) (vp_in_nI (show ((24 * an) + 1) < 26400 by omega) (by omega)) dX12_times_10 ?_
  refine lv_topi (fun y3 hy3 => ?_)
  obtain rfl : ((vF 0) ((24 * an) + 1)) = y3 := (hy3.trans (by rw [nI_clamp (by omega)])).symm
  refine lv_topi (fun y4 hy4 => ?_)
  obtain rfl : (nI na) = y4 := (hy4.trans (hna2)).symm
  refine lv_istore hx hb dX12_times_11 hl (by decide) rfl (fun ls (hl : lv_has ls _ ([(4, .int (nI na)), (0, .ref h0), (1, .int (nI sn)), (2, .int (nI an)), (3, .int (nI bn))])) => ?_)
  refine lv_aload_n hx hb dX12_times_13 rfl (lv_at hl 1 rfl) ?_
  refine va_get (D := (dC, dI)) (ci := 12) (v := .ref (a 0)) (C := RX12) (T := TX12) (N := 163) (fs := fM (vS a vi vj)) hx hb hts iwsRX12_times_in12 hown hK hP 0 rfl rfl 1 (by decide) (hts (.fieldLink RX12 7 "OptimaWorksModel" "big" "[I") (by decide +kernel)) (fun _ h9 => h9) rfl dX12_times_14 ?_
  refine lv_bipush (v := 24) hx hb dX12_times_17 (by decide) ?_
  refine lv_iload_n hx hb dX12_times_19 rfl (lv_at hl 4 rfl) ?_
  refine lv_imul hx hb dX12_times_20 ?_
  refine lv_topi (fun y5 hy5 => ?_)
  obtain rfl : (nI (24 * bn)) = y5 := (hy5.trans (pk_mul 24 bn)).symm
  refine lv_iconst (v := 1) hx hb dX12_times_21 (by decide) ?_
  refine lv_iadd hx hb dX12_times_22 ?_
  refine lv_topi (fun y6 hy6 => ?_)
  obtain rfl : (nI ((24 * bn) + 1)) = y6 := (hy6.trans (nI_add (24 * bn) 1)).symm
  refine va_iald (cA := k 0) (n := 26400) (f := (vF 0)) hx hb hK hP 1 0 (WR_get 0 (by decide)) (TR_get 0 (by decide)) (vp_in_nI (show ((24 * bn) + 1) < 26400 by omega) (by omega)) dX12_times_23 ?_
  refine lv_topi (fun y7 hy7 => ?_)
  obtain rfl : ((vF 0) ((24 * bn) + 1)) = y7 := (hy7.trans (by rw [nI_clamp (by omega)])).symm
  refine lv_topi (fun y8 hy8 => ?_)
  obtain rfl : (nI nb_) = y8 := (hy8.trans (hnb2)).symm
  refine lv_istore hx hb dX12_times_24 hl (by decide) rfl (fun ls (hl : lv_has ls _ ([(5, .int (nI nb_)), (4, .int (nI na)), (0, .ref h0), (1, .int (nI sn)), (2, .int (nI an)), (3, .int (nI bn))])) => ?_)
  refine lv_iconst (v := 0) hx hb dX12_times_26 (by decide) ?_
  refine lv_istore hx hb dX12_times_27 hl (by decide) rfl (fun ls (hl : lv_has ls _ ([(6, .int 0), (5, .int (nI nb_)), (4, .int (nI na)), (0, .ref h0), (1, .int (nI sn)), (2, .int (nI an)), (3, .int (nI bn))])) => ?_)
  have e9 : fT vG 1 (vG 1) = vG := by funext q9; by_cases h9_1 : q9 = 1; (subst h9_1; exact (fT_eq _ _ _).trans (Eq.trans (by first | with_reducible rfl | with_reducible assumption | (symm; with_reducible assumption) | rfl | assumption | (symm; assumption) | (subst_vars; rfl)) (Eq.refl _).symm)); exact (fT_ne _ _ h9_1).trans (Eq.refl _).symm
  have hP : va_P (dC, dI) vwCl (WR a k h0 vi vj vF (fT vG 1 (vG 1))) s.heap := by rw [e9]; exact hP
  have hD : va_D A (WR a k h0 vi vj vF (fT vG 1 (vG 1))) := by rw [e9]; exact hD
  clear e9
  have hl : lv_has _ _ ([(6, .int (nI 0)), (0, .ref h0), (1, .int (nI sn)), (2, .int (nI an)), (3, .int (nI bn)), (4, .int (nI na)), (5, .int (nI nb_))]) := lv_sub hl [0, 3, 4, 5, 6, 2, 1] rfl
  refine (fun (loop : ∀ (n9 : Nat) (i : Nat) (gs : Nat → Int64) (H : Heap) (locs : List Loc) (ls : Array Slot), (i ≤ na + nb_) → (∀ q, q < i → gs q = 0) →  (na + nb_ < i + n9) → va_P (dC, dI) vwCl (WR a k h0 vi vj vF (fT vG 1 gs)) H → va_D A (WR a k h0 vi vj vF (fT vG 1 gs)) → va_S A s.heap H locs → lv_has ls 12 [(6, .int (nI i)), (0, .ref h0), (1, .int (nI sn)), (2, .int (nI an)), (3, .int (nI bn)), (4, .int (nI na)), (5, .int (nI nb_))] → W p l e _ s m _ below meth c H locs 0 0 _ (F0 m 29 ls [])) => loop (na + nb_ + 1) 0 (vG 1) _ _ _ (by omega) (fun q h => absurd h (by omega)) (by omega) hP hD hS hl) ?_
  intro n9
  induction n9 with
  | zero => intro i gs H locs ls hi hz hf9; exact False.elim (by omega)
  | succ n9 ih29 =>
    intro i gs H locs ls hi hz hf29 hP hD hS hl
    refine lv_iload hx hb dX12_times_29 (lv_at hl 0 rfl) ?_
    refine lv_iload hx hb dX12_times_31 (lv_at hl 5 rfl) ?_
    refine lv_iload hx hb dX12_times_33 (lv_at hl 6 rfl) ?_
    refine lv_iadd hx hb dX12_times_35 ?_
    refine lv_topi (fun y9 hy9 => ?_)
    obtain rfl : (nI (na + nb_)) = y9 := (hy9.trans (nI_add na nb_)).symm
    refine lv_icmp_ge (tgt := 53) hx hb dX12_times_36 (by decide) (fun c_36 => ?_) (fun c_36 => ?_)
    · have t_36 : ((i : Nat) : Int) ≥ (((na + nb_) : Nat) : Int) := toI_ge c_36 (nI_toInt (by omega)) (nI_toInt (by omega))
      refine lv_iconst (v := 0) hx hb dX12_times_53 (by decide) ?_
      refine lv_istore hx hb dX12_times_54 hl (by decide) rfl (fun ls (hl : lv_has ls _ ([(6, .int 0), (0, .ref h0), (1, .int (nI sn)), (2, .int (nI an)), (3, .int (nI bn)), (4, .int (nI na)), (5, .int (nI nb_))])) => ?_)
      have hl : lv_has _ _ ([(6, .int (nI 0)), (0, .ref h0), (1, .int (nI sn)), (2, .int (nI an)), (3, .int (nI bn)), (4, .int (nI na)), (5, .int (nI nb_))]) := lv_sub hl [0, 1, 2, 3, 4, 5, 6] rfl
      refine (fun (loop : ∀ (n9 : Nat) (i : Nat) (gs1 : Nat → Int64) (H : Heap) (locs : List Loc) (ls : Array Slot), (i ≤ na) → (∀ q, q < na + nb_ → 0 ≤ (gs1 q).toInt ∧ (gs1 q).toInt < 268435456) → (∀ q, i + nb_ ≤ q → q < na + nb_ → gs1 q = 0) → (sv28 gs1 (na + nb_) = ((lv28 (vF 0) (24 * an + 2) i : Nat) : Int) * ((lv28 (vF 0) (24 * bn + 2) nb_ : Nat) : Int)) →  (na < i + n9) → va_P (dC, dI) vwCl (WR a k h0 vi vj vF (fT vG 1 gs1)) H → va_D A (WR a k h0 vi vj vF (fT vG 1 gs1)) → va_S A s.heap H locs → lv_has ls 12 [(6, .int (nI i)), (0, .ref h0), (1, .int (nI sn)), (2, .int (nI an)), (3, .int (nI bn)), (4, .int (nI na)), (5, .int (nI nb_))] → W p l e _ s m _ below meth c H locs 0 0 _ (F0 m 56 ls [])) => loop (na + 1) 0 gs _ _ _ (by omega) (fun q hq => by rw [hz q (by omega)]; decide) (fun q _ hq => hz q (by omega)) (by rw [sv28_zero (fun q hq => hz q (by omega))]; simp [lv28]) (by omega) hP hD hS hl) ?_
      intro n9
      induction n9 with
      | zero => intro i gs1 H locs ls hi1 hent hzz hsv hf9; exact False.elim (by omega)
      | succ n9 ih56_1 =>
        intro i gs1 H locs ls hi1 hent hzz hsv hf56_1 hP hD hS hl
        refine lv_iload hx hb dX12_times_56 (lv_at hl 0 rfl) ?_
        refine lv_iload hx hb dX12_times_58 (lv_at hl 5 rfl) ?_
        refine lv_icmp_ge (tgt := 173) hx hb dX12_times_60 (by decide) (fun c_60 => ?_) (fun c_60 => ?_)
        · have t_60 : ((i : Nat) : Int) ≥ ((na : Nat) : Int) := toI_ge c_60 (nI_toInt (by omega)) (nI_toInt (by omega))
          refine lv_aload_n hx hb dX12_times_173 rfl (lv_at hl 1 rfl) ?_
          refine lv_iload_n hx hb dX12_times_174 rfl (lv_at hl 2 rfl) ?_
          refine lv_iload hx hb dX12_times_175 (lv_at hl 5 rfl) ?_
          refine lv_iload hx hb dX12_times_177 (lv_at hl 6 rfl) ?_
          refine lv_iadd hx hb dX12_times_179 ?_
          refine lv_topi (fun y10 hy10 => ?_)
          obtain rfl : (nI (na + nb_)) = y10 := (hy10.trans (nI_add na nb_)).symm
          refine lv_aload_n hx hb dX12_times_180 rfl (lv_at hl 1 rfl) ?_
          refine lv_iload_n hx hb dX12_times_181 rfl (lv_at hl 3 rfl) ?_
          have hFc := allFree hD hS hA
          refine va_calli (va_runV (As := [.int (nI an)]) (rest := [.int (nI (na + nb_)), .int (nI sn), .ref h0]) ⟨hx, hb, hml, hown, hts⟩ (r_X12_sign l dC dI a k h0 vi vj vF (fT vG 1 gs1) an (by first | with_reducible assumption | decide | omega | rfl | assumption) H.size) (cwV 1 hts gwsRX12_times_0 rfl rfl rfl hd_yX12_sign_RX12 (by decide +kernel)) (fz_pre (va_recv hK hP (ci := 12) (q0 := 0) rfl rfl) hP hK hD) rfl rfl hl.1 rfl (lv_room (Nat.le_of_ble_eq_true rfl)) dX12_times_182 (by decide +kernel)) hS (fun q _ h => hFc q h) hFc (fun r182 u t9_ H locs ht hvm hw9 hB9 hz1 hk1 hS => ?_)
          have hP : va_P (dC, dI) vwCl (WR a k h0 vi vj vF (fT vG 1 gs1)) H := fz_P ht hB9.1
          have hD : va_D A (WR a k h0 vi vj vF (fT vG 1 gs1)) := hB9.2.weaken (fun _ q _ h => hFc q.1 h)
          obtain rfl := hw9
          refine lv_aload_n hx hb dX12_times_185 rfl (lv_at hl 1 rfl) ?_
          refine lv_iload_n hx hb dX12_times_186 rfl (lv_at hl 4 rfl) ?_
          have hFc := allFree hD hS hA
          refine va_calli (va_runV (As := [.int (nI bn)]) (rest := [.int (vF 0 (24 * an)), .int (nI (na + nb_)), .int (nI sn), .ref h0]) ⟨hx, hb, hml, hown, hts⟩ (r_X12_sign l dC dI a k h0 vi vj vF (fT vG 1 gs1) bn (by first | with_reducible assumption | decide | omega | rfl | assumption) H.size) (cwV 1 hts gwsRX12_times_0 rfl rfl rfl hd_yX12_sign_RX12 (by decide +kernel)) (fz_pre (va_recv hK hP (ci := 12) (q0 := 0) rfl rfl) hP hK hD) rfl rfl hl.1 rfl (lv_room (Nat.le_of_ble_eq_true rfl)) dX12_times_187 (by decide +kernel)) hS (fun q _ h => hFc q h) hFc (fun r187 u t9_ H locs ht hvm hw9 hB9 hz1 hk1 hS => ?_)
          have hP : va_P (dC, dI) vwCl (WR a k h0 vi vj vF (fT vG 1 gs1)) H := fz_P ht hB9.1
          have hD : va_D A (WR a k h0 vi vj vF (fT vG 1 gs1)) := hB9.2.weaken (fun _ q _ h => hFc q.1 h)
          obtain rfl := hw9
          refine lv_imul hx hb dX12_times_190 ?_
          have hFc := allFree hD hS hA
          refine va_callv (va_runV (As := [.int (nI sn), .int (nI (na + nb_)), .int ((vF 0 (24 * an)) * (vF 0 (24 * bn)))]) (rest := []) ⟨hx, hb, hml, hown, hts⟩ (r_X12_carry l dC dI a k h0 vi vj vF (fT vG 1 gs1) sn (na + nb_) ((vF 0 (24 * an)) * (vF 0 (24 * bn))) (xa.natAbs * xb.natAbs) (if xa * xb < 0 then -1 else 1) (by first | with_reducible assumption | decide | omega | rfl | assumption) (by omega) (fun q hq => by have := hent q hq; show -1152921504606846976 ≤ (gs1 q).toInt ∧ (gs1 q).toInt ≤ 1152921504606846976; omega) (by show sv28 gs1 (na + nb_) = _; rw [hsv, hna5, hnb5]; (have ei : i = na := by omega); rw [ei, Int.natCast_mul]) (Nat.lt_trans hbig (by decide)) (fun h9 => sgProd sa sb h9) H.size) (cwV 3 hts gwsRX12_times_1 rfl rfl rfl hd_yX12_carry_RX12 (by decide +kernel)) (fz_pre (va_recv hK hP (ci := 12) (q0 := 0) rfl rfl) hP hK hD) rfl rfl hl.1 rfl (lv_room (Nat.le_of_ble_eq_true rfl)) dX12_times_191 (by decide +kernel)) hS (fun q _ h => hFc q h) hFc (fun g191 t9_ H locs ht hvm hw9 hB9 hz1 hk1 hS => ?_)
          have hP : va_P (dC, dI) vwCl (WR a k h0 vi vj (fT vF 0 g191) (fT vG 1 gs1)) H := fz_P ht hB9.1
          have hD : va_D A (WR a k h0 vi vj (fT vF 0 g191) (fT vG 1 gs1)) := hB9.2.weaken (fun _ q _ h => hFc q.1 h)
          revert hw9
          refine fz_a2 ?_
          intro f191_0 f191_1
          refine W.widen (k := 0) (n := 0) (by decide +kernel) (by decide +kernel) ?_
          exact W.vret hx hb hr (fun t9_ ht hW => ⟨⟨(g191, gs1), rfl, by (try dsimp only); (have e9 := sgn_abs xa xb); rw [e9] at f191_0; exact ⟨f191_0, f191_1⟩, by rw [ht]; exact hP, hD⟩, hS.F ht⟩) hS.2.2 dX12_times_194
        · have t_60 : ¬ ((i : Nat) : Int) ≥ ((na : Nat) : Int) := toI_nge c_60 (nI_toInt (by omega)) (nI_toInt (by omega))
          refine lv_lconst (v := 0) hx hb dX12_times_63 (by decide) ?_
          refine lv_lstore hx hb dX12_times_64 hl (by decide) rfl (fun ls (hl : lv_has ls _ ([(7, .long 0), (6, .int (nI i)), (0, .ref h0), (1, .int (nI sn)), (2, .int (nI an)), (3, .int (nI bn)), (4, .int (nI na)), (5, .int (nI nb_))])) => ?_)
          refine lv_iconst (v := 0) hx hb dX12_times_66 (by decide) ?_
          refine lv_istore hx hb dX12_times_67 hl (by decide) rfl (fun ls (hl : lv_has ls _ ([(9, .int 0), (7, .long 0), (6, .int (nI i)), (0, .ref h0), (1, .int (nI sn)), (2, .int (nI an)), (3, .int (nI bn)), (4, .int (nI na)), (5, .int (nI nb_))])) => ?_)
          have hl : lv_has _ _ ([(6, .int (nI i)), (0, .ref h0), (1, .int (nI sn)), (2, .int (nI an)), (3, .int (nI bn)), (4, .int (nI na)), (5, .int (nI nb_)), (9, .int (nI 0)), (7, .long 0)]) := lv_sub hl [2, 3, 4, 5, 6, 7, 8, 0, 1] rfl
          refine (fun (loop : ∀ (n9 : Nat) (j : Nat) (ov : Int64) (gs2 : Nat → Int64) (H : Heap) (locs : List Loc) (ls : Array Slot), (j ≤ nb_) → (0 ≤ ov.toInt ∧ ov.toInt < 268435456) → (∀ q, q < na + nb_ → 0 ≤ (gs2 q).toInt ∧ (gs2 q).toInt < 268435456) → (∀ q, i + nb_ ≤ q → q < na + nb_ → gs2 q = 0) → (sv28 gs2 (na + nb_) + ov.toInt * ((2 ^ (28 * (i + j)) : Nat) : Int) = sv28 gs1 (na + nb_) + (vF 0 (24 * an + 2 + i)).toInt * ((lv28 (vF 0) (24 * bn + 2) j : Nat) : Int) * ((2 ^ (28 * i) : Nat) : Int)) →  (nb_ < j + n9) → va_P (dC, dI) vwCl (WR a k h0 vi vj vF (fT vG 1 gs2)) H → va_D A (WR a k h0 vi vj vF (fT vG 1 gs2)) → va_S A s.heap H locs → lv_has ls 12 [(6, .int (nI i)), (0, .ref h0), (1, .int (nI sn)), (2, .int (nI an)), (3, .int (nI bn)), (4, .int (nI na)), (5, .int (nI nb_)), (9, .int (nI j)), (7, .long ov)] → W p l e _ s m _ below meth c H locs 0 0 _ (F0 m 69 ls [])) => loop (nb_ + 1) 0 0 gs1 _ _ _ (by omega) (by decide) (hent) (fun q h1 hq => hzz q (by omega) hq) (by (have e0 : (0 : Int64).toInt = 0 := by decide); rw [e0]; simp [lv28]) (by omega) hP hD hS hl) ?_
          intro n9
          induction n9 with
          | zero => intro j ov gs2 H locs ls hj hov hent2 hzz2 hsv2 hf9; exact False.elim (by omega)
          | succ n9 ih69_2 =>
            intro j ov gs2 H locs ls hj hov hent2 hzz2 hsv2 hf69_2 hP hD hS hl
            refine lv_iload hx hb dX12_times_69 (lv_at hl 7 rfl) ?_
            refine lv_iload hx hb dX12_times_71 (lv_at hl 6 rfl) ?_
            refine lv_icmp_ge (tgt := 152) hx hb dX12_times_73 (by decide) (fun c_73 => ?_) (fun c_73 => ?_)
            · have t_73 : ((j : Nat) : Int) ≥ ((nb_ : Nat) : Int) := toI_ge c_73 (nI_toInt (by omega)) (nI_toInt (by omega))
              refine lv_aload_n hx hb dX12_times_152 rfl (lv_at hl 1 rfl) ?_
              refine va_get (D := (dC, dI)) (ci := 12) (v := .ref (a 1)) (C := RX12) (T := TX12) (N := 163) (fs := fM (vS a vi vj)) hx hb hts iwsRX12_times_in12 hown hK hP 0 rfl rfl 2 (by decide) (hts (.fieldLink RX12 13 "OptimaWorksModel" "sum" "[J") (by decide +kernel)) (fun _ h9 => h9) rfl dX12_times_153 ?_
              refine lv_iload hx hb dX12_times_156 (lv_at hl 0 rfl) ?_
              refine lv_iload hx hb dX12_times_158 (lv_at hl 6 rfl) ?_
              refine lv_iadd hx hb dX12_times_160 ?_
              refine lv_topi (fun y11 hy11 => ?_)
              obtain rfl : (nI (i + nb_)) = y11 := (hy11.trans (nI_add i nb_)).symm
              refine lv_dup2_11 hx hb dX12_times_161 rfl rfl ?_
              refine va_lald (cA := k 1) (n := 48) (f := gs2) hx hb hK hP 2 1 (WR_get 1 (by decide)) (TR_get 1 (by decide)) (vp_in_nI (show (i + nb_) < 48 by omega) (by omega)) dX12_times_162 ?_
              refine lv_topl (fun y12 hy12 => ?_)
              obtain rfl : (gs2 (i + nb_)) = y12 := (hy12.trans (by rw [nI_clamp (by omega)])).symm
              refine lv_lload hx hb dX12_times_163 (lv_at hl 8 rfl) ?_
              have ez : (gs2 (i + nb_)).toInt = 0 := by rw [hzz2 (i + nb_) (by omega) (by omega)]; decide
              have el : (gs2 (i + nb_) + ov).toInt = ov.toInt := by rw [addJ (by omega) (by omega), ez]; omega
              refine lv_ladd hx hb dX12_times_165 ?_
              refine va_last (cA := k 1) (n := 48) (f := gs2) hx hb hK hP hD hS 2 1 (WR_get 1 (by decide)) (TR_get 1 (by decide)) (vp_in_nI (show (i + nb_) < 48 by omega) (by omega)) dX12_times_166 (fun H locs hP hD hS => ?_)
              have e9 : fT vG 1 (vp_updL gs2 ((nI (i + nb_))).toNatClampNeg ((gs2 (i + nb_)) + ov)) = fT (fT vG 1 gs2) 1 (vp_updL gs2 ((nI (i + nb_))).toNatClampNeg ((gs2 (i + nb_)) + ov)) := (fT_sm _ _ _ _).symm
              have hP : va_P (dC, dI) vwCl (WR a k h0 vi vj vF (fT vG 1 (vp_updL gs2 ((nI (i + nb_))).toNatClampNeg ((gs2 (i + nb_)) + ov)))) H := by rw [e9, ← WR_G 1 (by decide) _ rfl]; exact hP
              have hD : va_D A (WR a k h0 vi vj vF (fT vG 1 (vp_updL gs2 ((nI (i + nb_))).toNatClampNeg ((gs2 (i + nb_)) + ov)))) := by rw [e9, ← WR_G 1 (by decide) _ rfl]; exact hD
              clear e9
              refine lv_iinc (v := (nI (i + 1))) hx hb dX12_times_167 hl (k := 0) rfl (nI_add i 1) (by decide) rfl (fun ls (hl : lv_has ls _ ([(6, .int (nI (i + 1))), (0, .ref h0), (1, .int (nI sn)), (2, .int (nI an)), (3, .int (nI bn)), (4, .int (nI na)), (5, .int (nI nb_)), (9, .int (nI j)), (7, .long ov)])) => ?_)
              refine lv_goto (tgt := 56) hx hb dX12_times_170 (by decide) ?_
              have hl : lv_has _ _ ([(6, .int (nI (i + 1))), (0, .ref h0), (1, .int (nI sn)), (2, .int (nI an)), (3, .int (nI bn)), (4, .int (nI na)), (5, .int (nI nb_))]) := lv_sub hl [0, 1, 2, 3, 4, 5, 6] rfl
              exact ih56_1 (i + 1) (vp_updL gs2 ((nI (i + nb_))).toNatClampNeg ((gs2 (i + nb_)) + ov)) _ _ _ (by omega) (fun q hq => by rw [updL_at (by omega)]; by_cases e9 : q = i + nb_; (rw [if_pos e9, el]; omega); (rw [if_neg e9]; exact hent2 q hq)) (fun q h1 hq => by rw [updL_at (by omega), if_neg (by omega)]; exact hzz2 q (by omega) hq) (by rw [sv28_upd (by omega) (by omega), el, ez, Int.sub_zero, lv28_int (hna3.mono (by omega)), Int.add_mul, ← hsv, Int.mul_right_comm]; (have ej : j = nb_ := by omega); subst ej; rw [← hsv2]) (by omega) hP hD hS hl
            · have t_73 : ¬ ((j : Nat) : Int) ≥ ((nb_ : Nat) : Int) := toI_nge c_73 (nI_toInt (by omega)) (nI_toInt (by omega))
              refine lv_aload_n hx hb dX12_times_76 rfl (lv_at hl 1 rfl) ?_
              refine va_get (D := (dC, dI)) (ci := 12) (v := .ref (a 1)) (C := RX12) (T := TX12) (N := 163) (fs := fM (vS a vi vj)) hx hb hts iwsRX12_times_in12 hown hK hP 0 rfl rfl 2 (by decide) (hts (.fieldLink RX12 13 "OptimaWorksModel" "sum" "[J") (by decide +kernel)) (fun _ h9 => h9) rfl dX12_times_77 ?_
              refine lv_iload hx hb dX12_times_80 (lv_at hl 0 rfl) ?_
              refine lv_iload hx hb dX12_times_82 (lv_at hl 7 rfl) ?_
              refine lv_iadd hx hb dX12_times_84 ?_
              refine lv_topi (fun y13 hy13 => ?_)
              obtain rfl : (nI (i + j)) = y13 := (hy13.trans (nI_add i j)).symm
              refine va_lald (cA := k 1) (n := 48) (f := gs2) hx hb hK hP 2 1 (WR_get 1 (by decide)) (TR_get 1 (by decide)) (vp_in_nI (show (i + j) < 48 by omega) (by omega)) dX12_times_85 ?_
              refine lv_topl (fun y14 hy14 => ?_)
              obtain rfl : (gs2 (i + j)) = y14 := (hy14.trans (by rw [nI_clamp (by omega)])).symm
              refine lv_aload_n hx hb dX12_times_86 rfl (lv_at hl 1 rfl) ?_
              refine va_get (D := (dC, dI)) (ci := 12) (v := .ref (a 0)) (C := RX12) (T := TX12) (N := 163) (fs := fM (vS a vi vj)) hx hb hts iwsRX12_times_in12 hown hK hP 0 rfl rfl 1 (by decide) (hts (.fieldLink RX12 7 "OptimaWorksModel" "big" "[I") (by decide +kernel)) (fun _ h9 => h9) rfl dX12_times_87 ?_
              refine lv_bipush (v := 24) hx hb dX12_times_90 (by decide) ?_
              refine lv_iload_n hx hb dX12_times_92 rfl (lv_at hl 3 rfl) ?_
              refine lv_imul hx hb dX12_times_93 ?_
              refine lv_topi (fun y15 hy15 => ?_)
              obtain rfl : (nI (24 * an)) = y15 := (hy15.trans (pk_mul 24 an)).symm
              refine lv_iconst (v := 2) hx hb dX12_times_94 (by decide) ?_
              refine lv_iadd hx hb dX12_times_95 ?_
              refine lv_topi (fun y16 hy16 => ?_)
              obtain rfl : (nI ((24 * an) + 2)) = y16 := (hy16.trans (nI_add (24 * an) 2)).symm
              refine lv_iload hx hb dX12_times_96 (lv_at hl 0 rfl) ?_
              refine lv_iadd hx hb dX12_times_98 ?_
              refine lv_topi (fun y17 hy17 => ?_)
              obtain rfl : (nI (((24 * an) + 2) + i)) = y17 := (hy17.trans (nI_add ((24 * an) + 2) i)).symm
              refine va_iald (cA := k 0) (n := 26400) (f := (vF 0)) hx hb hK hP 1 0 (WR_get 0 (by decide)) (TR_get 0 (by decide)) (vp_in_nI (show (((24 * an) + 2) + i) < 26400 by omega) (by omega)) dX12_times_99 ?_
              refine lv_topi (fun y18 hy18 => ?_)
              obtain rfl : ((vF 0) (((24 * an) + 2) + i)) = y18 := (hy18.trans (by rw [nI_clamp (by omega)])).symm
              refine lv_i2l hx hb dX12_times_100 rfl ?_
              refine lv_aload_n hx hb dX12_times_101 rfl (lv_at hl 1 rfl) ?_
              refine va_get (D := (dC, dI)) (ci := 12) (v := .ref (a 0)) (C := RX12) (T := TX12) (N := 163) (fs := fM (vS a vi vj)) hx hb hts iwsRX12_times_in12 hown hK hP 0 rfl rfl 1 (by decide) (hts (.fieldLink RX12 7 "OptimaWorksModel" "big" "[I") (by decide +kernel)) (fun _ h9 => h9) rfl dX12_times_102 ?_
              refine lv_bipush (v := 24) hx hb dX12_times_105 (by decide) ?_
              refine lv_iload_n hx hb dX12_times_107 rfl (lv_at hl 4 rfl) ?_
              refine lv_imul hx hb dX12_times_108 ?_
              refine lv_topi (fun y19 hy19 => ?_)
              obtain rfl : (nI (24 * bn)) = y19 := (hy19.trans (pk_mul 24 bn)).symm
              refine lv_iconst (v := 2) hx hb dX12_times_109 (by decide) ?_
              refine lv_iadd hx hb dX12_times_110 ?_
              refine lv_topi (fun y20 hy20 => ?_)
              obtain rfl : (nI ((24 * bn) + 2)) = y20 := (hy20.trans (nI_add (24 * bn) 2)).symm
              refine lv_iload hx hb dX12_times_111 (lv_at hl 7 rfl) ?_
              refine lv_iadd hx hb dX12_times_113 ?_
              refine lv_topi (fun y21 hy21 => ?_)
              obtain rfl : (nI (((24 * bn) + 2) + j)) = y21 := (hy21.trans (nI_add ((24 * bn) + 2) j)).symm
              refine va_iald (cA := k 0) (n := 26400) (f := (vF 0)) hx hb hK hP 1 0 (WR_get 0 (by decide)) (TR_get 0 (by decide)) (vp_in_nI (show (((24 * bn) + 2) + j) < 26400 by omega) (by omega)) dX12_times_114 ?_
              refine lv_topi (fun y22 hy22 => ?_)
              obtain rfl : ((vF 0) (((24 * bn) + 2) + j)) = y22 := (hy22.trans (by rw [nI_clamp (by omega)])).symm
              refine lv_i2l hx hb dX12_times_115 rfl ?_
              refine lv_lmul hx hb dX12_times_116 ?_
              refine lv_ladd hx hb dX12_times_117 ?_
              refine lv_lload hx hb dX12_times_118 (lv_at hl 8 rfl) ?_
              refine lv_ladd hx hb dX12_times_120 ?_
              have la := limb_lt hna3 (q := i) (by omega)
              have lb := limb_lt hnb3 (q := j) (by omega)
              obtain ⟨em, em1, em2⟩ := mulJ (x := (vF 0 (24 * an + 2 + i))) (y := (vF 0 (24 * bn + 2 + j))) ⟨by omega, by omega⟩ ⟨by omega, by omega⟩
              have hx9 := hent2 (i + j) (by omega)
              obtain ⟨vv, hvv⟩ : ∃ vv, vv = (((gs2 (i + j)) + ((((vF 0) (((24 * an) + 2) + i))).toInt64 * (((vF 0) (((24 * bn) + 2) + j))).toInt64)) + ov) := ⟨_, rfl⟩
              have evv : vv.toInt = (gs2 (i + j)).toInt + (vF 0 (24 * an + 2 + i)).toInt * (vF 0 (24 * bn + 2 + j)).toInt + ov.toInt := by rw [hvv, addJ (by rw [addJ (by omega) (by omega)]; omega) (by omega), addJ (by omega) (by omega), em]
              obtain ⟨md, hmd1, hmd2, hmd3⟩ := maskS vv
              have esh := shrS vv
              have emd : (lN md).toInt = (md : Int) := pk_lT (by omega)
              refine lv_topl (fun y23 hy23 => ?_)
              obtain rfl : vv = y23 := (hy23.trans (hvv.symm)).symm
              refine lv_lstore hx hb dX12_times_121 hl (by decide) rfl (fun ls (hl : lv_has ls _ ([(10, .long vv), (6, .int (nI i)), (0, .ref h0), (1, .int (nI sn)), (2, .int (nI an)), (3, .int (nI bn)), (4, .int (nI na)), (5, .int (nI nb_)), (9, .int (nI j)), (7, .long ov)])) => ?_)
              refine lv_aload_n hx hb dX12_times_123 rfl (lv_at hl 2 rfl) ?_
              refine va_get (D := (dC, dI)) (ci := 12) (v := .ref (a 1)) (C := RX12) (T := TX12) (N := 163) (fs := fM (vS a vi vj)) hx hb hts iwsRX12_times_in12 hown hK hP 0 rfl rfl 2 (by decide) (hts (.fieldLink RX12 13 "OptimaWorksModel" "sum" "[J") (by decide +kernel)) (fun _ h9 => h9) rfl dX12_times_124 ?_
              refine lv_iload hx hb dX12_times_127 (lv_at hl 1 rfl) ?_
              refine lv_iload hx hb dX12_times_129 (lv_at hl 8 rfl) ?_
              refine lv_iadd hx hb dX12_times_131 ?_
              refine lv_topi (fun y24 hy24 => ?_)
              obtain rfl : (nI (i + j)) = y24 := (hy24.trans (nI_add i j)).symm
              refine lv_lload hx hb dX12_times_132 (lv_at hl 0 rfl) ?_
              refine lv_ldc2 (v := 268435455) hx hb hown (hts (.constantLong RX12 351 268435455) (by decide +kernel)) dX12_times_134 ?_
              refine lv_land hx hb dX12_times_137 ?_
              refine lv_topl (fun y25 hy25 => ?_)
              obtain rfl : (lN md) = y25 := (hy25.trans (hmd3)).symm
              refine va_last (cA := k 1) (n := 48) (f := gs2) hx hb hK hP hD hS 2 1 (WR_get 1 (by decide)) (TR_get 1 (by decide)) (vp_in_nI (show (i + j) < 48 by omega) (by omega)) dX12_times_138 (fun H locs hP hD hS => ?_)
              have e9 : fT vG 1 (vp_updL gs2 ((nI (i + j))).toNatClampNeg (lN md)) = fT (fT vG 1 gs2) 1 (vp_updL gs2 ((nI (i + j))).toNatClampNeg (lN md)) := (fT_sm _ _ _ _).symm
              have hP : va_P (dC, dI) vwCl (WR a k h0 vi vj vF (fT vG 1 (vp_updL gs2 ((nI (i + j))).toNatClampNeg (lN md)))) H := by rw [e9, ← WR_G 1 (by decide) _ rfl]; exact hP
              have hD : va_D A (WR a k h0 vi vj vF (fT vG 1 (vp_updL gs2 ((nI (i + j))).toNatClampNeg (lN md)))) := by rw [e9, ← WR_G 1 (by decide) _ rfl]; exact hD
              clear e9
              refine lv_lload hx hb dX12_times_139 (lv_at hl 0 rfl) ?_
              refine lv_bipush (v := 28) hx hb dX12_times_141 (by decide) ?_
              refine lv_lshr hx hb dX12_times_143 rfl ?_
              refine lv_lstore hx hb dX12_times_144 hl (by decide) rfl (fun ls (hl : lv_has ls _ ([(7, .long (vv >>> ((28 : Int32).toInt64 &&& 63))), (10, .long vv), (6, .int (nI i)), (0, .ref h0), (1, .int (nI sn)), (2, .int (nI an)), (3, .int (nI bn)), (4, .int (nI na)), (5, .int (nI nb_)), (9, .int (nI j))])) => ?_)
              refine lv_iinc (v := (nI (j + 1))) hx hb dX12_times_146 hl (k := 9) rfl (nI_add j 1) (by decide) rfl (fun ls (hl : lv_has ls _ ([(9, .int (nI (j + 1))), (7, .long (vv >>> ((28 : Int32).toInt64 &&& 63))), (10, .long vv), (6, .int (nI i)), (0, .ref h0), (1, .int (nI sn)), (2, .int (nI an)), (3, .int (nI bn)), (4, .int (nI na)), (5, .int (nI nb_))])) => ?_)
              refine lv_goto (tgt := 69) hx hb dX12_times_149 (by decide) ?_
              have hl : lv_has _ _ ([(6, .int (nI i)), (0, .ref h0), (1, .int (nI sn)), (2, .int (nI an)), (3, .int (nI bn)), (4, .int (nI na)), (5, .int (nI nb_)), (9, .int (nI (j + 1))), (7, .long (vv >>> ((28 : Int32).toInt64 &&& 63)))]) := lv_sub hl [3, 4, 5, 6, 7, 8, 9, 0, 1] rfl
              exact ih69_2 (j + 1) (vv >>> ((28 : Int32).toInt64 &&& 63)) (vp_updL gs2 ((nI (i + j))).toNatClampNeg (lN md)) _ _ _ (by omega) (by rw [esh, evv]; omega) (fun q hq => by rw [updL_at (by omega)]; by_cases e9 : q = i + j; (rw [if_pos e9, emd]; omega); (rw [if_neg e9]; exact hent2 q hq)) (fun q h1 hq => by rw [updL_at (by omega), if_neg (by omega)]; exact hzz2 q (by omega) hq) (by rw [sv28_upd (by omega) (by omega), esh, lv28_int (hnb3.mono (by omega)), emd, hmd2]; exact tm_step (P := 0) evv rfl hsv2) (by omega) hP hD hS hl
    · have t_36 : ¬ ((i : Nat) : Int) ≥ (((na + nb_) : Nat) : Int) := toI_nge c_36 (nI_toInt (by omega)) (nI_toInt (by omega))
      refine lv_aload_n hx hb dX12_times_39 rfl (lv_at hl 1 rfl) ?_
      refine va_get (D := (dC, dI)) (ci := 12) (v := .ref (a 1)) (C := RX12) (T := TX12) (N := 163) (fs := fM (vS a vi vj)) hx hb hts iwsRX12_times_in12 hown hK hP 0 rfl rfl 2 (by decide) (hts (.fieldLink RX12 13 "OptimaWorksModel" "sum" "[J") (by decide +kernel)) (fun _ h9 => h9) rfl dX12_times_40 ?_
      refine lv_iload hx hb dX12_times_43 (lv_at hl 0 rfl) ?_
      refine lv_lconst (v := 0) hx hb dX12_times_45 (by decide) ?_
      refine va_last (cA := k 1) (n := 48) (f := gs) hx hb hK hP hD hS 2 1 (WR_get 1 (by decide)) (TR_get 1 (by decide)) (vp_in_nI (show i < 48 by omega) (by omega)) dX12_times_46 (fun H locs hP hD hS => ?_)
      have e9 : fT vG 1 (vp_updL gs ((nI i)).toNatClampNeg 0) = fT (fT vG 1 gs) 1 (vp_updL gs ((nI i)).toNatClampNeg 0) := (fT_sm _ _ _ _).symm
      have hP : va_P (dC, dI) vwCl (WR a k h0 vi vj vF (fT vG 1 (vp_updL gs ((nI i)).toNatClampNeg 0))) H := by rw [e9, ← WR_G 1 (by decide) _ rfl]; exact hP
      have hD : va_D A (WR a k h0 vi vj vF (fT vG 1 (vp_updL gs ((nI i)).toNatClampNeg 0))) := by rw [e9, ← WR_G 1 (by decide) _ rfl]; exact hD
      clear e9
      refine lv_iinc (v := (nI (i + 1))) hx hb dX12_times_47 hl (k := 0) rfl (nI_add i 1) (by decide) rfl (fun ls (hl : lv_has ls _ ([(6, .int (nI (i + 1))), (0, .ref h0), (1, .int (nI sn)), (2, .int (nI an)), (3, .int (nI bn)), (4, .int (nI na)), (5, .int (nI nb_))])) => ?_)
      refine lv_goto (tgt := 29) hx hb dX12_times_50 (by decide) ?_
      have hl : lv_has _ _ ([(6, .int (nI (i + 1))), (0, .ref h0), (1, .int (nI sn)), (2, .int (nI an)), (3, .int (nI bn)), (4, .int (nI na)), (5, .int (nI nb_))]) := lv_sub hl [0, 1, 2, 3, 4, 5, 6] rfl
      exact ih29 (i + 1) (vp_updL gs ((nI i)).toNatClampNeg 0) _ _ _ (by omega) (fun q hq => by rw [updL_at (by omega)]; by_cases e9 : q = i; (rw [if_pos e9]); (rw [if_neg e9]; exact hz q (by omega))) (by omega) hP hD hS hl
end
section
theorem limb0 {f : Nat → Int32} {n : Nat} (h : Lm f 0 n) {q : Nat} (hq : q < n) : 0 ≤ (f q).toInt ∧ (f q).toInt < 268435456 ∧ (f q).toNatClampNeg = (f q).toInt.toNat := by
  have := limb_lt h hq
  rwa [Nat.zero_add] at this
theorem limb0N {f : Nat → Int32} {n : Nat} (h : Lm f 0 n) {q : Nat} (hq : q < n) : ∃ d, d < 268435456 ∧ f q = nI d := by
  have := h q hq
  rwa [Nat.zero_add] at this
theorem orL {a b k : Nat} (hb : b < 2 ^ k) (h : a * 2 ^ k + b < 2 ^ 63) : lN (a * 2 ^ k) ||| lN b = lN (a * 2 ^ k + b) := by
  apply Int64.toBitVec_inj.mp
  apply BitVec.eq_of_toNat_eq
  have h1 : (lN (a * 2 ^ k)).toBitVec.toNat = a * 2 ^ k := Nat.mod_eq_of_lt (by omega)
  have h2 : (lN b).toBitVec.toNat = b := Nat.mod_eq_of_lt (by omega)
  have h3 : (lN (a * 2 ^ k + b)).toBitVec.toNat = a * 2 ^ k + b := Nat.mod_eq_of_lt (by omega)
  rw [Int64.toBitVec_or, BitVec.toNat_or, h1, h2, h3, ← Nat.shiftLeft_eq, Nat.shiftLeft_add_eq_or_of_lt hb]
theorem sm64 : ∀ k, k < 64 → ((nI k).toInt64 &&& 63).toBitVec.smod 64 = BitVec.ofNat 64 k := by decide
theorem shlL (n : Nat) {k : Nat} (hk : k < 64) : lN n <<< ((nI k).toInt64 &&& 63) = lN (n * 2 ^ k) := by
  apply Int64.toBitVec_inj.mp
  have e : (lN n <<< ((nI k).toInt64 &&& 63)).toBitVec = (lN n).toBitVec <<< (((nI k).toInt64 &&& 63).toBitVec.smod 64) := rfl
  rw [e, sm64 k hk]
  apply BitVec.eq_of_toNat_eq
  have h1 : (lN n).toBitVec.toNat = n % 2 ^ 64 := rfl
  have h2 : (lN (n * 2 ^ k)).toBitVec.toNat = n * 2 ^ k % 2 ^ 64 := rfl
  have h3 : (BitVec.ofNat 64 k).toNat = k := Nat.mod_eq_of_lt (by omega)
  rw [BitVec.shiftLeft_eq', BitVec.toNat_shiftLeft, h1, h2, h3, Nat.shiftLeft_eq, Nat.mod_mul_mod]
theorem lor28 {a d : Nat} (hd : d < 268435456) (ha : a < 268435456) : (lN a <<< ((28 : Int32).toInt64 &&& 63)) ||| lN d = lN (a * 268435456 + d) := by
  have e : lN a <<< ((28 : Int32).toInt64 &&& 63) = lN (a * 2 ^ 28) := shlL a (k := 28) (by decide)
  rw [e]
  exact orL (k := 28) (by omega) (by omega)
theorem lN_div {a b : Nat} (ha : a < 2 ^ 62) (hb : b < 2 ^ 62) (h0 : 0 < b) : lN a / lN b = lN (a / b) := by
  have hd : a / b ≤ a := Nat.div_le_self _ _
  apply Int64.toInt_inj.mp
  rw [Int64.toInt_div, pk_lT (by omega), pk_lT (by omega), pk_lT (by omega)]
  have e : (a : Int).tdiv (b : Int) = ((a / b : Nat) : Int) := rfl
  rw [e]
  generalize a / b = c at *
  exact Int.bmod_eq_of_le (by omega) (by omega)
theorem lN_rem {a b : Nat} (ha : a < 2 ^ 62) (hb : b < 2 ^ 62) (h0 : 0 < b) : lN a - lN a / lN b * lN b = lN (a % b) := by
  rw [lN_div ha hb h0, lN_mul]
  have e := Nat.div_add_mod a b
  have e2 : a / b * b = b * (a / b) := Nat.mul_comm _ _
  have e3 : lN a = lN (a % b) + lN (a / b * b) := by rw [lN_add]; congr 1; omega
  rw [e3, Int64.add_sub_cancel]
theorem orI {a b k : Nat} (hb : b < 2 ^ k) (h : a * 2 ^ k + b < 2 ^ 31) : nI (a * 2 ^ k) ||| nI b = nI (a * 2 ^ k + b) := by
  apply Int32.toBitVec_inj.mp
  apply BitVec.eq_of_toNat_eq
  have h1 : (nI (a * 2 ^ k)).toBitVec.toNat = a * 2 ^ k := Nat.mod_eq_of_lt (by omega)
  have h2 : (nI b).toBitVec.toNat = b := Nat.mod_eq_of_lt (by omega)
  have h3 : (nI (a * 2 ^ k + b)).toBitVec.toNat = a * 2 ^ k + b := Nat.mod_eq_of_lt (by omega)
  rw [Int32.toBitVec_or, BitVec.toNat_or, h1, h2, h3, ← Nat.shiftLeft_eq, Nat.shiftLeft_add_eq_or_of_lt hb]
theorem shl1 {d b : Nat} (hd : d < 268435456) (hb : b ≤ 1) : (nI d <<< ((1 : Int32) &&& 31)) ||| nI b = nI (2 * d + b) := by
  rw [pk_shlN (n := d) ((1 : Int32) &&& 31) 1 (by decide) (by omega), orI (k := 1) (by omega) (by omega), Nat.mul_comm]
theorem mask32 {n : Nat} (h : n < 2 ^ 31) : nI n &&& 268435455 = nI (n % 268435456) := pk_andN (n := n) (by omega) 28 (by decide)
theorem shr32 {n : Nat} (h : n < 2 ^ 31) : nI n >>> ((28 : Int32) &&& 31) = nI (n / 268435456) := pk_shrN h ((28 : Int32) &&& 31) 28 (by decide)
theorem sm28 : ∀ b, b < 28 → ((nI b &&& 31).toBitVec.smod 32).toNat = b := by decide
theorem bit32 {d b : Nat} (hd : d < 268435456) (hb : b < 28) : nI d >>> (nI b &&& 31) &&& 1 = nI (d / 2 ^ b % 2) := by
  have h : d / 2 ^ b ≤ d := Nat.div_le_self _ _
  rw [pk_shrN (n := d) (by omega) (nI b &&& 31) b (sm28 b hb), pk_andN (by omega) 1 (by decide)]
theorem orBit {t b : Nat} (hb : b < 28) (ht : t * 2 ^ (b + 1) < 2 ^ 28) : lN (t * 2 ^ (b + 1)) ||| ((1 : Int64) <<< ((nI b).toInt64 &&& 63)) = lN ((2 * t + 1) * 2 ^ b) := by
  have e : (1 : Int64) <<< ((nI b).toInt64 &&& 63) = lN (1 * 2 ^ b) := shlL 1 (k := b) (by omega)
  have h1 : 2 ^ b < 2 ^ (b + 1) := Nat.pow_lt_pow_right (by omega) (by omega)
  have h2 : 2 ^ (b + 1) ≤ 2 ^ 28 := Nat.pow_le_pow_right (by omega) (by omega)
  rw [e, Nat.one_mul, orL (k := b + 1) h1 (by omega)]
  congr 1
  rw [Nat.add_mul, Nat.pow_succ, Nat.one_mul, ← Nat.mul_assoc, Nat.mul_right_comm, Nat.mul_comm t 2]
theorem lv28_split {f : Nat → Int32} {o k n : Nat} (hk : k < n) : ∃ H, lv28 f o n = lv28 f o k + (f (o + k)).toNatClampNeg * 2 ^ (28 * k) + H * 2 ^ (28 * (k + 1)) := by
  induction n with
  | zero => omega
  | succ n ih =>
    by_cases e : k = n
    · subst e; exact ⟨0, by simp [lv28]⟩
    · obtain ⟨H, h⟩ := ih (by omega)
      refine ⟨H + (f (o + n)).toNatClampNeg * 2 ^ (28 * (n - (k + 1))), ?_⟩
      simp only [lv28]
      rw [h, Nat.add_mul, Nat.mul_assoc _ _ (2 ^ (28 * (k + 1))), ← Nat.pow_add, show 28 * (n - (k + 1)) + 28 * (k + 1) = 28 * n by omega]
      omega
theorem lv28_divs {f : Nat → Int32} {o k n d : Nat} (hL : Lm f o n) (hk : k < n) (hd : d < 268435456) (e : f (o + k) = nI d) : lv28 f o n / 2 ^ (28 * k) = d + 268435456 * (lv28 f o n / 2 ^ (28 * (k + 1))) := by
  obtain ⟨H, h⟩ := lv28_split (f := f) (o := o) hk
  rw [e, nI_clamp (by omega)] at h
  have h1 : lv28 f o k < 2 ^ (28 * k) := lv28_lt (hL.mono (by omega))
  have e1 : 2 ^ (28 * (k + 1)) = 2 ^ (28 * k) * 268435456 := by rw [show 28 * (k + 1) = 28 * k + 28 by omega, Nat.pow_add]
  have e2 : lv28 f o n = lv28 f o k + 2 ^ (28 * k) * (d + H * 268435456) := by
    rw [h, e1, Nat.mul_add, Nat.mul_comm d, ← Nat.mul_assoc, ← Nat.mul_assoc, Nat.mul_comm H]
    omega
  have e3 : lv28 f o n / 2 ^ (28 * k) = d + H * 268435456 := by
    rw [e2, Nat.add_mul_div_left _ _ (Nat.two_pow_pos _), Nat.div_eq_of_lt h1, Nat.zero_add]
  rw [e1, ← Nat.div_div_eq_div_mul, e3]
  omega
theorem lv28_bit {f : Nat → Int32} {o k n d b : Nat} (hL : Lm f o n) (hk : k < n) (hd : d < 268435456) (e : f (o + k) = nI d) (hb : b < 28) : lv28 f o n / 2 ^ (28 * k + b) = 2 * (lv28 f o n / 2 ^ (28 * k + (b + 1))) + d / 2 ^ b % 2 := by
  have h := lv28_divs hL hk hd e
  have e1 : lv28 f o n / 2 ^ (28 * k + b) = lv28 f o n / 2 ^ (28 * k) / 2 ^ b := by rw [Nat.pow_add, Nat.div_div_eq_div_mul]
  have e2 : lv28 f o n / 2 ^ (28 * k + (b + 1)) = lv28 f o n / 2 ^ (28 * k + b) / 2 := by rw [← Nat.add_assoc, Nat.pow_succ, Nat.div_div_eq_div_mul]
  rw [e2, e1, h]
  obtain ⟨c, hc⟩ : ∃ c, 28 = b + (c + 1) := ⟨27 - b, by omega⟩
  have e3 : 268435456 = 2 ^ b * (2 * 2 ^ c) := by
    have : 268435456 = 2 ^ 28 := by decide
    rw [this, hc, Nat.pow_add, Nat.pow_succ, Nat.mul_comm (2 ^ c)]
  generalize lv28 f o n / 2 ^ (28 * (k + 1)) = T
  rw [e3, Nat.mul_assoc, Nat.add_mul_div_left _ _ (Nat.two_pow_pos b), Nat.mul_assoc]
  omega
end
section
theorem lv28_few0 {f g : Nat → Int32} {m : Nat} (hf : Lm f 0 m) {d : Nat} (hd : 0 < d) : lv28 f 0 m < lv28 g 0 m + d * 2 ^ (28 * m) := by
  have h := lv28_lt hf
  have h2 := Nat.le_mul_of_pos_left (2 ^ (28 * m)) hd
  omega
theorem lN_ne0 {n : Nat} (h : 0 < n) (h2 : n < 2 ^ 62) : ¬ lN n = 0 := fun e => by
  have : (lN n).toInt = (0 : Int64).toInt := by rw [e]
  rw [pk_lT (by omega)] at this
  have e0 : (0 : Int64).toInt = 0 := by decide
  omega
theorem lv28_put0 {g : Nat → Int32} {i : Nat} {x : Int32} (hi : i < 2 ^ 31) : lv28 (upd g (nI i).toNatClampNeg x) 0 (i + 1) = lv28 g 0 i + x.toNatClampNeg * 2 ^ (28 * i) := by
  simp only [lv28]
  rw [lv28_congr (g := g) (p := 0) (fun q hq => by rw [upd_at hi, if_neg (by omega)]), Nat.zero_add, upd_at hi, if_pos rfl]
theorem lv28_one0 {f : Nat → Int32} {i d : Nat} (h : f i = nI d) (hd : d < 2 ^ 31) : lv28 f 0 (i + 1) = lv28 f 0 i + d * 2 ^ (28 * i) := by
  simp only [lv28]; rw [Nat.zero_add, h, nI_clamp hd]
theorem sh_step {f4 f2 : Nat → Int32} {i d b in0 : Nat} (hi : i < 2 ^ 31) (hd : d < 268435456) (hb : b ≤ 1) (e : f2 i = nI d) (h : lv28 f4 0 i + b * 2 ^ (28 * i) = 2 * lv28 f2 0 i + in0) :
    lv28 (upd f4 (nI i).toNatClampNeg (nI ((2 * d + b) % 268435456))) 0 (i + 1) + (2 * d + b) / 268435456 * 2 ^ (28 * (i + 1)) = 2 * lv28 f2 0 (i + 1) + in0 := by
  rw [lv28_put0 hi, nI_clamp (by omega), lv28_one0 e (by omega), show 28 * (i + 1) = 28 * i + 28 by omega, Nat.pow_add]
  have e3 : (2 * d + b) % 268435456 + 268435456 * ((2 * d + b) / 268435456) = 2 * d + b := Nat.mod_add_div _ _
  have e4 : (2 * d + b) % 268435456 * 2 ^ (28 * i) + (2 * d + b) / 268435456 * (2 ^ (28 * i) * 2 ^ 28) = (2 * d + b) * 2 ^ (28 * i) := by
    have : (2 * d + b) / 268435456 * (2 ^ (28 * i) * 2 ^ 28) = 268435456 * ((2 * d + b) / 268435456) * 2 ^ (28 * i) := by
      rw [Nat.mul_comm (2 ^ (28 * i)), ← Nat.mul_assoc, Nat.mul_comm ((2 * d + b) / 268435456)]
    rw [this, ← Nat.add_mul, e3]
  rw [Nat.add_mul, Nat.mul_assoc 2 d] at e4
  omega
theorem bw_step {g f4 f3 : Nat → Int32} {i : Nat} {x : Int32} {d4 d3 b b' L : Nat} (hi : i < 2 ^ 31) (h4 : f4 i = nI d4) (hd4 : d4 < 268435456) (hx : x.toInt = (d4 : Int) - d3 - b + 268435456 * b') (h0 : 0 ≤ x.toInt)
    (h : lv28 g 0 i + L = lv28 f4 0 i + b * 2 ^ (28 * i)) : lv28 (upd g (nI i).toNatClampNeg x) 0 (i + 1) + (L + d3 * 2 ^ (28 * i)) = lv28 f4 0 (i + 1) + b' * 2 ^ (28 * (i + 1)) := by
  obtain ⟨n, hn, rfl⟩ := of_toInt (x := x) (k := 2 ^ 31) h0 (by have := Int32.toInt_lt x; omega)
  rw [nI_toInt hn] at hx
  rw [lv28_put0 hi, nI_clamp hn, lv28_one0 h4 (by omega), show 28 * (i + 1) = 28 * i + 28 by omega, Nat.pow_add]
  have e : n + d3 + b = d4 + 268435456 * b' := by omega
  have e2 : (n + d3 + b) * 2 ^ (28 * i) = (d4 + 268435456 * b') * 2 ^ (28 * i) := by rw [e]
  rw [Nat.add_mul, Nat.add_mul, Nat.add_mul] at e2
  have e3 : b' * (2 ^ (28 * i) * 2 ^ 28) = 268435456 * b' * 2 ^ (28 * i) := by rw [Nat.mul_comm (2 ^ (28 * i)), ← Nat.mul_assoc, Nat.mul_comm b']
  omega
theorem lv28_top0 {f : Nat → Int32} {n : Nat} (h : lv28 f 0 (n + 1) < 2 ^ (28 * n)) (hL : Lm f 0 (n + 1)) : f n = 0 := by
  obtain ⟨d, hd, e⟩ := limb0N hL (q := n) (by omega)
  rw [lv28_one0 e (by omega)] at h
  rcases Nat.eq_zero_or_pos d with h0 | h0
  · rw [e, h0]; exact nI_0
  · have := Nat.le_mul_of_pos_left (2 ^ (28 * n)) h0
    omega
theorem lv28_skip0 {f : Nat → Int32} {n : Nat} (h : f n = 0) : lv28 f 0 (n + 1) = lv28 f 0 n := by
  simp only [lv28]; rw [Nat.zero_add, h]; simp
theorem divQ {A B Q R : Nat} (h : A = Q * B + R) (hR : R < B) : A / B = Q ∧ A % B = R := by
  subst h
  have h0 : 0 < B := by omega
  constructor
  · rw [Nat.mul_comm, Nat.mul_add_div h0, Nat.div_eq_of_lt hR, Nat.add_zero]
  · rw [Nat.mul_comm, Nat.mul_add_mod, Nat.mod_eq_of_lt hR]
theorem bitQ {P Q B R T i2 : Nat} (h : P = Q * B + R) (hT : T = 2 * P + i2) : T = 2 * Q * B + (2 * R + i2) := by
  subst h; rw [hT, Nat.mul_add, Nat.mul_assoc]; omega
theorem ttZ {t b : Nat} : t * 2 ^ (b + 1) = 2 * t * 2 ^ b := by
  rw [Nat.pow_succ, ← Nat.mul_assoc, Nat.mul_right_comm, Nat.mul_comm t 2]
theorem svQ {S : Int} {Q e t t' b kk : Nat} (h : S = ((Q * 2 ^ (28 * kk + (b + 1)) : Nat) : Int)) (he : e = 2 * Q + 1) (ht : t' = 2 * t + 1) :
    S + (((t' * 2 ^ b : Nat) : Int) - ((t * 2 ^ (b + 1) : Nat) : Int)) * ((2 ^ (28 * kk) : Nat) : Int) = ((e * 2 ^ (28 * kk + b) : Nat) : Int) := by
  subst he; subst ht
  have e1 : (2 * t + 1) * 2 ^ b = t * 2 ^ (b + 1) + 2 ^ b := by rw [Nat.add_mul, Nat.one_mul, ttZ]
  have e2 : (2 * Q + 1) * 2 ^ (28 * kk + b) = Q * 2 ^ (28 * kk + (b + 1)) + 2 ^ b * 2 ^ (28 * kk) := by
    rw [Nat.add_mul, Nat.one_mul, ← Nat.add_assoc, Nat.pow_succ, ← Nat.pow_add, Nat.add_comm b, ← Nat.mul_assoc, Nat.mul_right_comm Q, Nat.mul_comm Q 2]
  rw [e1, e2, Int.natCast_add (Q * _), ← h, Int.natCast_add, Int.natCast_mul (2 ^ b)]
  congr 2
  omega
theorem svZ {Q b kk : Nat} : Q * 2 ^ (28 * kk + (b + 1)) = 2 * Q * 2 ^ (28 * kk + b) := by
  rw [← Nat.add_assoc, Nat.pow_succ, ← Nat.mul_assoc, Nat.mul_right_comm, Nat.mul_comm Q 2]
theorem tt_lt {t b : Nat} (hb : b < 28) (h : t < 2 ^ (28 - (b + 1))) : 2 * t + 1 < 2 ^ (28 - b) := by
  rw [show 28 - b = 28 - (b + 1) + 1 by omega, Nat.pow_succ]; omega
theorem tt_all {t b : Nat} (hb : b ≤ 28) (h : t < 2 ^ (28 - b)) : t * 2 ^ b < 268435456 := by
  have h1 : t * 2 ^ b < 2 ^ (28 - b) * 2 ^ b := Nat.mul_lt_mul_of_pos_right h (Nat.two_pow_pos _)
  rw [← Nat.pow_add, show 28 - b + b = 28 by omega] at h1
  exact h1
theorem nu_of {G : Nat → Int32} {sn kk SS : Nat} {sg : Int} (hk : kk ≤ 22) (h1 : G (24 * sn + 1) = nI kk) (hL : Lm G (24 * sn + 2) kk) (ht : 0 < kk → G (24 * sn + 1 + kk) ≠ 0) (hv : lv28 G (24 * sn + 2) kk = SS) {qs : Int32} (hq : (kk = 0 ∧ G (24 * sn) = 0) ∨ (0 < kk ∧ G (24 * sn) = qs)) (hsg : (sg = 1 ∧ qs = 1) ∨ (sg = -1 ∧ qs = -1)) : Nu G sn (sg * (SS : Int)) := nu_fin hk h1 hL ht hv hq (fun _ => hsg)
theorem tdivE {x y : Int} (hy : y ≠ 0) : (if x * y < 0 then (-1 : Int) else 1) * ((x.natAbs / y.natAbs : Nat) : Int) = x.tdiv y := by
  rcases Int.lt_trichotomy x 0 with hx | hx | hx
  · obtain ⟨a, rfl⟩ : ∃ a : Nat, x = -(a : Int) := ⟨x.natAbs, by omega⟩
    rcases Int.lt_or_gt_of_ne hy with hy | hy
    · obtain ⟨b, rfl⟩ : ∃ b : Nat, y = -(b : Int) := ⟨y.natAbs, by omega⟩
      rw [if_neg (by have := Int.mul_pos_of_neg_of_neg hx hy; omega), Int.neg_tdiv_neg, Int.natAbs_neg, Int.natAbs_neg, Int.natAbs_natCast, Int.natAbs_natCast, Int.one_mul]; rfl
    · obtain ⟨b, rfl⟩ : ∃ b : Nat, y = (b : Int) := ⟨y.natAbs, by omega⟩
      rw [if_pos (Int.mul_neg_of_neg_of_pos hx hy), Int.neg_tdiv, Int.natAbs_neg, Int.natAbs_natCast, Int.natAbs_natCast]
      have : (a : Int).tdiv (b : Int) = ((a / b : Nat) : Int) := rfl
      rw [this]; omega
  · subst hx; simp
  · obtain ⟨a, rfl⟩ : ∃ a : Nat, x = (a : Int) := ⟨x.natAbs, by omega⟩
    rcases Int.lt_or_gt_of_ne hy with hy | hy
    · obtain ⟨b, rfl⟩ : ∃ b : Nat, y = -(b : Int) := ⟨y.natAbs, by omega⟩
      rw [if_pos (Int.mul_neg_of_pos_of_neg hx hy), Int.tdiv_neg, Int.natAbs_neg, Int.natAbs_natCast, Int.natAbs_natCast]
      have : (a : Int).tdiv (b : Int) = ((a / b : Nat) : Int) := rfl
      rw [this]; omega
    · obtain ⟨b, rfl⟩ : ∃ b : Nat, y = (b : Int) := ⟨y.natAbs, by omega⟩
      rw [if_neg (by have := Int.mul_pos hx hy; omega), Int.natAbs_natCast, Int.natAbs_natCast, Int.one_mul]; rfl
theorem tmodE {x y : Int} : (if x < 0 then (-1 : Int) else 1) * ((x.natAbs % y.natAbs : Nat) : Int) = x.tmod y := by
  have h : ((x.natAbs % y.natAbs : Nat) : Int) = (x.tmod y).natAbs := by rw [Int.natAbs_tmod]
  by_cases hx : x < 0
  · rw [if_pos hx, h]
    have : x.tmod y ≤ 0 := by
      obtain ⟨a, rfl⟩ : ∃ a : Nat, x = -(a : Int) := ⟨x.natAbs, by omega⟩
      rw [Int.neg_tmod]; have := Int.tmod_nonneg (a := (a : Int)) y (by omega); omega
    omega
  · rw [if_neg hx, h]
    have := Int.tmod_nonneg (a := x) y (by omega)
    omega
theorem lv28_zero {f : Nat → Int32} {o n : Nat} (h : ∀ q, q < n → f (o + q) = 0) : lv28 f o n = 0 := by
  induction n with
  | zero => rfl
  | succ n ih => simp only [lv28]; rw [ih (fun q hq => h q (by omega)), h n (by omega)]; simp
theorem limbQ {P Q d r k : Nat} (h : P = Q * d + r) : k + 268435456 * P = (Q * 268435456 + (r * 268435456 + k) / d) * d + (r * 268435456 + k) % d := by
  have e := Nat.div_add_mod (r * 268435456 + k) d
  rw [Nat.add_mul, Nat.mul_comm ((r * 268435456 + k) / d) d, Nat.add_assoc, e, h, Nat.mul_add, Nat.mul_right_comm Q, Nat.mul_comm (Q * d)]
  omega
theorem svL {S : Int} {Q x kk : Nat} (h : S = ((Q * 2 ^ (28 * (kk + 1)) : Nat) : Int)) : S + ((x : Int) - 0) * ((2 ^ (28 * kk) : Nat) : Int) = (((Q * 268435456 + x) * 2 ^ (28 * kk) : Nat) : Int) := by
  have e : Q * 2 ^ (28 * (kk + 1)) = Q * 268435456 * 2 ^ (28 * kk) := by
    rw [show 28 * (kk + 1) = 28 + 28 * kk by omega, Nat.pow_add, ← Nat.mul_assoc]
  rw [h, e, Int.sub_zero, ← Int.natCast_mul, ← Int.natCast_add, ← Nat.add_mul]
theorem vdiv_lt {r d k : Nat} (h : r < d) (hk : k < 268435456) : (r * 268435456 + k) / d < 268435456 := by
  rw [Nat.div_lt_iff_lt_mul (by omega)]
  have : (r + 1) * 268435456 ≤ d * 268435456 := Nat.mul_le_mul_right _ h
  rw [Nat.add_mul] at this
  rw [Nat.mul_comm]; omega
theorem noCarry {f : Nat → Int32} {n b R B i0 : Nat} (h : lv28 f 0 (n + 1) + b * 2 ^ (28 * (n + 1)) = 2 * R + i0) (hR : R < B) (hB : B < 2 ^ (28 * n)) (hi : i0 ≤ 1) : b = 0 := by
  rcases Nat.eq_zero_or_pos b with e | e
  · exact e
  · exfalso
    have h1 := Nat.le_mul_of_pos_left (2 ^ (28 * (n + 1))) e
    have h2 : 2 ^ (28 * (n + 1)) = 2 ^ (28 * n) * 268435456 := by rw [show 28 * (n + 1) = 28 * n + 28 by omega, Nat.pow_add]
    omega
theorem noBorrow {f : Nat → Int32} {n b R B : Nat} (hL : Lm f 0 (n + 1)) (h : lv28 f 0 (n + 1) + B = R + b * 2 ^ (28 * (n + 1))) (hR : B ≤ R) : b = 0 := by
  rcases Nat.eq_zero_or_pos b with e | e
  · exact e
  · exfalso
    have h1 := Nat.le_mul_of_pos_left (2 ^ (28 * (n + 1))) e
    have h2 := lv28_lt hL
    omega
theorem Nu.keep {f g : Nat → Int32} {t : Nat} {x : Int} (h : Nu f t x) (e : ∀ q, 24 * t ≤ q → q < 24 * t + 24 → g q = f q) : Nu g t x := by
  obtain ⟨n, h1, h2, h3⟩ := id h
  exact Nu.congr (n := n) h h2 h1 (fun q hq => e _ (by omega) (by omega))
theorem tdiv_small {x y : Int} (h : x.natAbs < y.natAbs) : x.tdiv y = 0 := by
  rw [← tdivE (by omega), Nat.div_eq_of_lt h]; simp
theorem tmod_small {x y : Int} (h : x.natAbs < y.natAbs) : x.tmod y = x := by
  rw [← tmodE, Nat.mod_eq_of_lt h]; split <;> omega
theorem abs616 {f : Nat → Int32} {o n : Nat} (h : Lm f o n) (hn : n ≤ 22) : lv28 f o n < 2 ^ 616 :=
  Nat.lt_of_lt_of_le (lv28_lt h) (Nat.pow_le_pow_right (by omega) (by omega))
theorem addB {x y : Int32} (hx : -1073741824 ≤ x.toInt ∧ x.toInt ≤ 1073741823) (hy : -1073741824 ≤ y.toInt ∧ y.toInt ≤ 1073741823) : (x + y).toInt = x.toInt + y.toInt := by
  rw [Int32.toInt_add]
  exact Int.bmod_eq_of_le (by omega) (by omega)
end
section
theorem dX12_isMore_0 : decode cX12_isMore 0 = .ok (.aload_n 0, 1) := dk_42 (by decide +kernel)
theorem dX12_isMore_1 : decode cX12_isMore 1 = .ok (.getfield 17, 3) := dk_180 (by decide +kernel)
theorem dX12_isMore_4 : decode cX12_isMore 4 = .ok (.iload_n 1, 1) := dk_27 (by decide +kernel)
theorem dX12_isMore_5 : decode cX12_isMore 5 = .ok (.iaload, 1) := dk_46 (by decide +kernel)
theorem dX12_isMore_6 : decode cX12_isMore 6 = .ok (.ifCond .le 5, 3) := dk_158 (by decide +kernel)
theorem dX12_isMore_9 : decode cX12_isMore 9 = .ok (.iconst 1, 1) := dk_4 (by decide +kernel)
theorem dX12_isMore_10 : decode cX12_isMore 10 = .ok (.ireturn, 1) := dk_172 (by decide +kernel)
theorem dX12_isMore_11 : decode cX12_isMore 11 = .ok (.iload_n 1, 1) := dk_27 (by decide +kernel)
theorem dX12_isMore_12 : decode cX12_isMore 12 = .ok (.iconst 1, 1) := dk_4 (by decide +kernel)
theorem dX12_isMore_13 : decode cX12_isMore 13 = .ok (.isub, 1) := dk_100 (by decide +kernel)
theorem dX12_isMore_14 : decode cX12_isMore 14 = .ok (.istore_n 2, 1) := dk_61 (by decide +kernel)
theorem dX12_isMore_15 : decode cX12_isMore 15 = .ok (.iload_n 2, 1) := dk_28 (by decide +kernel)
theorem dX12_isMore_16 : decode cX12_isMore 16 = .ok (.ifCond .lt 45, 3) := dk_155 (by decide +kernel)
theorem dX12_isMore_19 : decode cX12_isMore 19 = .ok (.aload_n 0, 1) := dk_42 (by decide +kernel)
theorem dX12_isMore_20 : decode cX12_isMore 20 = .ok (.getfield 17, 3) := dk_180 (by decide +kernel)
theorem dX12_isMore_23 : decode cX12_isMore 23 = .ok (.iload_n 2, 1) := dk_28 (by decide +kernel)
theorem dX12_isMore_24 : decode cX12_isMore 24 = .ok (.iaload, 1) := dk_46 (by decide +kernel)
theorem dX12_isMore_25 : decode cX12_isMore 25 = .ok (.aload_n 0, 1) := dk_42 (by decide +kernel)
theorem dX12_isMore_26 : decode cX12_isMore 26 = .ok (.getfield 20, 3) := dk_180 (by decide +kernel)
theorem dX12_isMore_29 : decode cX12_isMore 29 = .ok (.iload_n 2, 1) := dk_28 (by decide +kernel)
theorem dX12_isMore_30 : decode cX12_isMore 30 = .ok (.iaload, 1) := dk_46 (by decide +kernel)
theorem dX12_isMore_31 : decode cX12_isMore 31 = .ok (.if_icmp .eq 24, 3) := dk_159 (by decide +kernel)
theorem dX12_isMore_34 : decode cX12_isMore 34 = .ok (.aload_n 0, 1) := dk_42 (by decide +kernel)
theorem dX12_isMore_35 : decode cX12_isMore 35 = .ok (.getfield 17, 3) := dk_180 (by decide +kernel)
theorem dX12_isMore_38 : decode cX12_isMore 38 = .ok (.iload_n 2, 1) := dk_28 (by decide +kernel)
theorem dX12_isMore_39 : decode cX12_isMore 39 = .ok (.iaload, 1) := dk_46 (by decide +kernel)
theorem dX12_isMore_40 : decode cX12_isMore 40 = .ok (.aload_n 0, 1) := dk_42 (by decide +kernel)
theorem dX12_isMore_41 : decode cX12_isMore 41 = .ok (.getfield 20, 3) := dk_180 (by decide +kernel)
theorem dX12_isMore_44 : decode cX12_isMore 44 = .ok (.iload_n 2, 1) := dk_28 (by decide +kernel)
theorem dX12_isMore_45 : decode cX12_isMore 45 = .ok (.iaload, 1) := dk_46 (by decide +kernel)
theorem dX12_isMore_46 : decode cX12_isMore 46 = .ok (.if_icmp .le 7, 3) := dk_164 (by decide +kernel)
theorem dX12_isMore_49 : decode cX12_isMore 49 = .ok (.iconst 1, 1) := dk_4 (by decide +kernel)
theorem dX12_isMore_50 : decode cX12_isMore 50 = .ok (.goto 4, 3) := dk_167 (by decide +kernel)
theorem dX12_isMore_53 : decode cX12_isMore 53 = .ok (.iconst 0, 1) := dk_3 (by decide +kernel)
theorem dX12_isMore_54 : decode cX12_isMore 54 = .ok (.ireturn, 1) := dk_172 (by decide +kernel)
theorem dX12_isMore_55 : decode cX12_isMore 55 = .ok (.iinc 2 (-1), 3) := dk_132 (by decide +kernel)
theorem dX12_isMore_58 : decode cX12_isMore 58 = .ok (.goto (-43), 3) := dk_167 (by decide +kernel)
theorem dX12_isMore_61 : decode cX12_isMore 61 = .ok (.iconst 1, 1) := dk_4 (by decide +kernel)
theorem dX12_isMore_62 : decode cX12_isMore 62 = .ok (.ireturn, 1) := dk_172 (by decide +kernel)
def wsRX12_isMore : List Cond := .code yX12_isMore cX12_isMore 3 (some .boolean) :: ([.fieldLink RX12 17 "OptimaWorksModel" "rest" "[I", .fieldLink RX12 20 "OptimaWorksModel" "less" "[I"] ++ wsX120)
theorem iwsRX12_isMore_in12 : ∀ w ∈ wsX120, w ∈ wsRX12_isMore := fun _ h => List.mem_cons_of_mem _ (List.mem_append_right _ h)
set_option maxHeartbeats 4000000 in
set_option maxRecDepth 100000 in
/-- isMore(m) -/
theorem r_X12_isMore (l : Launch) (dC : Nat → ClassId) (dI : Nat → Nat → Nat) (a : Nat → Nat) (k : Nat → ClassId) (h0 : Nat) (vi : Nat → Int32) (vj : Nat → Int64) (vF : Nat → Nat → Int32) (vG : Nat → Nat → Int64) (mn : Nat) (hm : mn ≤ 22) (hlr : Lm (vF 2) 0 (mn + 1)) (hl3 : Lm (vF 3) 0 mn) (sz : Nat) : Met l yX12_isMore wsRX12_isMore ({ frames := 0, cells := 0, slots := 0, locals := 0 }) (va_Pc [.ref h0, .int (nI mn)] (fun U => U.heap.size = sz ∧ va_P (dC, dI) vwCl (WR a k h0 vi vj vF vG) U.heap ∧ va_K (dC, dI) vwCl (tX12 k) U ∧ va_D (fun _ => True) (WR a k h0 vi vj vF vG))) (va_Qi (fun (r : Int32) (u : Unit) => (r = 1 ∧ (lv28 (vF 3) 0 mn ≤ lv28 (vF 2) 0 (mn + 1))) ∨ (r = 0 ∧ (lv28 (vF 2) 0 (mn + 1) < lv28 (vF 3) 0 mn))) (fun (u : Unit) t => va_P (dC, dI) vwCl (WR a k h0 vi vj vF vG) t.heap ∧ va_D (va_A (WR a k h0 vi vj vF vG) sz) (WR a k h0 vi vj vF vG)) (va_A (WR a k h0 vi vj vF vG) sz)) 0 0 (va_A (WR a k h0 vi vj vF vG) sz) := by
  refine Met.ofW (cc := cX12_isMore) (maxL := 3) (ret := (some .boolean)) (by decide) rfl ?_
  intro p e s m args below meth c s₁ B hml hv
  obtain ⟨rfl, hsz, hP, hK, hD0⟩ := hv
  have hx := B.exec
  have hb := B.bytes
  have hr := B.returns
  have hts := atoms_spec (ws := wsRX12_isMore) B.pre
  have hown : s.vm.findClass RX12 = some m.cls := findClass_of_methodNamed B.named
  have hlocks := B.notSynchronized
  subst hsz
  have hD := hD0.self (sz := s.heap.size)
  generalize hAe : va_A (WR a k h0 vi vj vF vG) s.heap.size = A at hD ⊢
  have hA : ∀ q : Nat, s.heap.size ≤ q → A q := fun q h => by rw [← hAe]; exact Or.inr h
  have hS : va_S A s.heap s.heap [] := va_S.rf
  have hl := lv_entry ([.ref h0, .int (nI mn)]) (n := 3) (Nat.le_of_ble_eq_true rfl)
  rw [lg_entry_eq]
  generalize (lg_sl ([.ref h0, .int (nI mn)]) ++ List.replicate (3 - (lg_sl ([.ref h0, .int (nI mn)])).length) Slot.unset).toArray = ls at hl ⊢
  have hl : lv_has ls 3 [(0, .ref h0), (1, .int (nI mn))] := hl
  refine lv_aload_n hx hb dX12_isMore_0 rfl (lv_at hl 0 rfl) ?_
  refine va_get (D := (dC, dI)) (ci := 12) (v := .ref (a 2)) (C := RX12) (T := TX12) (N := 163) (fs := fM (vS a vi vj)) hx hb hts iwsRX12_isMore_in12 hown hK hP 0 rfl rfl 3 (by decide) (hts (.fieldLink RX12 17 "OptimaWorksModel" "rest" "[I") (by decide +kernel)) (fun _ h9 => h9) rfl dX12_isMore_1 ?_
  refine lv_iload_n hx hb dX12_isMore_4 rfl (lv_at hl 1 rfl) ?_
  refine va_iald (cA := k 2) (n := 60) (f := (vF 2)) hx hb hK hP 3 2 (WR_get 2 (by decide)) (TR_get 2 (by decide)) (vp_in_nI (show mn < 60 by omega) (by omega)) dX12_isMore_5 ?_
  refine lv_topi (fun y1 hy1 => ?_)
  obtain rfl : ((vF 2) mn) = y1 := (hy1.trans (by rw [nI_clamp (by omega)])).symm
  refine lv_if_le (tgt := 11) hx hb dX12_isMore_6 (by decide) (fun c_6 => ?_) (fun c_6 => ?_)
  · have t_6 : (((vF 2) mn)).toInt ≤ 0 := toI_le c_6 rfl (by decide)
    refine lv_iload_n hx hb dX12_isMore_11 rfl (lv_at hl 1 rfl) ?_
    refine lv_iconst (v := 1) hx hb dX12_isMore_12 (by decide) ?_
    refine lv_isub hx hb dX12_isMore_13 ?_
    refine lv_istore_n hx hb dX12_isMore_14 rfl hl (by decide) rfl (fun ls (hl : lv_has ls _ ([(2, .int ((nI mn) - 1)), (0, .ref h0), (1, .int (nI mn))])) => ?_)
    have hl : lv_has _ _ ([(2, .int ((nI mn) - 1)), (0, .ref h0), (1, .int (nI mn))]) := lv_sub hl [0, 1, 2] rfl
    refine (fun (loop : ∀ (n9 : Nat) (kq : Int32) (kk1 : Nat) (H : Heap) (locs : List Loc) (ls : Array Slot), ((kq).toInt = (kk1 : Int) - 1) → (kk1 ≤ mn) → (∀ q, kk1 ≤ q → q < mn → vF 2 q = vF 3 q) →  (kk1 < n9) → va_P (dC, dI) vwCl (WR a k h0 vi vj vF vG) H → va_D A (WR a k h0 vi vj vF vG) → va_S A s.heap H locs → lv_has ls 3 [(2, .int kq), (0, .ref h0), (1, .int (nI mn))] → W p l e _ s m _ below meth c H locs 0 0 _ (F0 m 15 ls [])) => loop (mn + 1) ((nI mn) - 1) mn _ _ _ (by exact pk_sub_toInt (a := mn) (b := 1) (by omega) (by omega)) (by omega) (fun q h1 h2 => absurd h1 (by omega)) (by omega) hP hD hS hl) ?_
    intro n9
    induction n9 with
    | zero => intro kq kk1 H locs ls hkq hkn heq hf9; exact False.elim (by omega)
    | succ n9 ih15 =>
      intro kq kk1 H locs ls hkq hkn heq hf15 hP hD hS hl
      refine lv_iload_n hx hb dX12_isMore_15 rfl (lv_at hl 0 rfl) ?_
      refine lv_if_lt (tgt := 61) hx hb dX12_isMore_16 (by decide) (fun c_16 => ?_) (fun c_16 => ?_)
      · have t_16 : (kq).toInt < 0 := toI_lt c_16 rfl (by decide)
        refine lv_iconst (v := 1) hx hb dX12_isMore_61 (by decide) ?_
        refine W.widen (k := 0) (n := 0) (by decide +kernel) (by decide +kernel) ?_
        exact W.zret (v := 1) hx hb hr rfl (fun t9_ ht hW => ⟨⟨1, (), rfl, by (try dsimp only); exact Or.inl ⟨rfl, by simp only [lv28]; rw [lv28_congr (f := vF 3) (g := vF 2) (p := 0) (fun q hq => by rw [Nat.zero_add]; exact (heq q (by omega) hq).symm)]; omega⟩, by rw [ht]; exact hP, hD⟩, hS.F ht⟩) hS.2.2 dX12_isMore_62
      · have t_16 : ¬ (kq).toInt < 0 := toI_nlt c_16 rfl (by decide)
        obtain ⟨kk, h_kk, rfl⟩ := of_toInt (x := kq) (k := 23) (by omega) (by omega)
        have e_kk : (nI kk).toInt = (kk : Int) := nI_toInt (by omega)
        refine lv_aload_n hx hb dX12_isMore_19 rfl (lv_at hl 1 rfl) ?_
        refine va_get (D := (dC, dI)) (ci := 12) (v := .ref (a 2)) (C := RX12) (T := TX12) (N := 163) (fs := fM (vS a vi vj)) hx hb hts iwsRX12_isMore_in12 hown hK hP 0 rfl rfl 3 (by decide) (hts (.fieldLink RX12 17 "OptimaWorksModel" "rest" "[I") (by decide +kernel)) (fun _ h9 => h9) rfl dX12_isMore_20 ?_
        refine lv_iload_n hx hb dX12_isMore_23 rfl (lv_at hl 0 rfl) ?_
        refine va_iald (cA := k 2) (n := 60) (f := (vF 2)) hx hb hK hP 3 2 (WR_get 2 (by decide)) (TR_get 2 (by decide)) (vp_in_nI (show kk < 60 by omega) (by omega)) dX12_isMore_24 ?_
        refine lv_topi (fun y2 hy2 => ?_)
        obtain rfl : ((vF 2) kk) = y2 := (hy2.trans (by rw [nI_clamp (by omega)])).symm
        refine lv_aload_n hx hb dX12_isMore_25 rfl (lv_at hl 1 rfl) ?_
        refine va_get (D := (dC, dI)) (ci := 12) (v := .ref (a 3)) (C := RX12) (T := TX12) (N := 163) (fs := fM (vS a vi vj)) hx hb hts iwsRX12_isMore_in12 hown hK hP 0 rfl rfl 4 (by decide) (hts (.fieldLink RX12 20 "OptimaWorksModel" "less" "[I") (by decide +kernel)) (fun _ h9 => h9) rfl dX12_isMore_26 ?_
        refine lv_iload_n hx hb dX12_isMore_29 rfl (lv_at hl 0 rfl) ?_
        refine va_iald (cA := k 3) (n := 30) (f := (vF 3)) hx hb hK hP 4 3 (WR_get 3 (by decide)) (TR_get 3 (by decide)) (vp_in_nI (show kk < 30 by omega) (by omega)) dX12_isMore_30 ?_
        refine lv_topi (fun y3 hy3 => ?_)
        obtain rfl : ((vF 3) kk) = y3 := (hy3.trans (by rw [nI_clamp (by omega)])).symm
        refine lv_icmp_eq (tgt := 55) hx hb dX12_isMore_31 (by decide) (fun c_31 => ?_) (fun c_31 => ?_)
        · have t_31 : (((vF 2) kk)).toInt = (((vF 3) kk)).toInt := toI_eq c_31 rfl rfl
          refine lv_iinc (v := ((nI kk) + (-1))) hx hb dX12_isMore_55 hl (k := 0) rfl rfl (by decide) rfl (fun ls (hl : lv_has ls _ ([(2, .int ((nI kk) + (-1))), (0, .ref h0), (1, .int (nI mn))])) => ?_)
          refine lv_goto (tgt := 15) hx hb dX12_isMore_58 (by decide) ?_
          have hl : lv_has _ _ ([(2, .int ((nI kk) + (-1))), (0, .ref h0), (1, .int (nI mn))]) := lv_sub hl [0, 1, 2] rfl
          exact ih15 ((nI kk) + (-1)) (kk1 - 1) _ _ _ (by rw [m1T (by omega)]; omega) (by omega) (fun q h1 h2 => by by_cases e9 : q = kk; (rw [e9]; exact c_31); (exact heq q (by omega) h2)) (by omega) hP hD hS hl
        · have t_31 : ¬ (((vF 2) kk)).toInt = (((vF 3) kk)).toInt := toI_neq c_31 rfl rfl
          refine lv_aload_n hx hb dX12_isMore_34 rfl (lv_at hl 1 rfl) ?_
          refine va_get (D := (dC, dI)) (ci := 12) (v := .ref (a 2)) (C := RX12) (T := TX12) (N := 163) (fs := fM (vS a vi vj)) hx hb hts iwsRX12_isMore_in12 hown hK hP 0 rfl rfl 3 (by decide) (hts (.fieldLink RX12 17 "OptimaWorksModel" "rest" "[I") (by decide +kernel)) (fun _ h9 => h9) rfl dX12_isMore_35 ?_
          refine lv_iload_n hx hb dX12_isMore_38 rfl (lv_at hl 0 rfl) ?_
          refine va_iald (cA := k 2) (n := 60) (f := (vF 2)) hx hb hK hP 3 2 (WR_get 2 (by decide)) (TR_get 2 (by decide)) (vp_in_nI (show kk < 60 by omega) (by omega)) dX12_isMore_39 ?_
          refine lv_topi (fun y4 hy4 => ?_)
          obtain rfl : ((vF 2) kk) = y4 := (hy4.trans (by rw [nI_clamp (by omega)])).symm
          refine lv_aload_n hx hb dX12_isMore_40 rfl (lv_at hl 1 rfl) ?_
          refine va_get (D := (dC, dI)) (ci := 12) (v := .ref (a 3)) (C := RX12) (T := TX12) (N := 163) (fs := fM (vS a vi vj)) hx hb hts iwsRX12_isMore_in12 hown hK hP 0 rfl rfl 4 (by decide) (hts (.fieldLink RX12 20 "OptimaWorksModel" "less" "[I") (by decide +kernel)) (fun _ h9 => h9) rfl dX12_isMore_41 ?_
          refine lv_iload_n hx hb dX12_isMore_44 rfl (lv_at hl 0 rfl) ?_
          refine va_iald (cA := k 3) (n := 30) (f := (vF 3)) hx hb hK hP 4 3 (WR_get 3 (by decide)) (TR_get 3 (by decide)) (vp_in_nI (show kk < 30 by omega) (by omega)) dX12_isMore_45 ?_
          refine lv_topi (fun y5 hy5 => ?_)
          obtain rfl : ((vF 3) kk) = y5 := (hy5.trans (by rw [nI_clamp (by omega)])).symm
          have l1 := limb0 hlr (q := kk) (by omega)
          have l2 := limb0 hl3 (q := kk) (by omega)
          refine lv_icmp_le (tgt := 53) hx hb dX12_isMore_46 (by decide) (fun c_46 => ?_) (fun c_46 => ?_)
          · have t_46 : (((vF 2) kk)).toInt ≤ (((vF 3) kk)).toInt := toI_le c_46 rfl rfl
            refine lv_iconst (v := 0) hx hb dX12_isMore_53 (by decide) ?_
            refine W.widen (k := 0) (n := 0) (by decide +kernel) (by decide +kernel) ?_
            exact W.zret (v := 0) hx hb hr rfl (fun t9_ ht hW => ⟨⟨0, (), rfl, by (try dsimp only); (have et : vF 2 mn = 0 := by obtain ⟨d9, hd9, e9⟩ := limb0N hlr (q := mn) (by omega); rw [e9, nI_toInt (by omega)] at t_6; rw [e9, show d9 = 0 by omega]; exact nI_0); exact Or.inr ⟨rfl, by rw [lv28_skip0 et]; exact lv28_less mn (k := kk) (by omega) (hlr.mono (by omega)) (fun q h1 h2 => by rw [Nat.zero_add]; exact heq q (by omega) h2) (by rw [Nat.zero_add]; omega)⟩, by rw [ht]; exact hP, hD⟩, hS.F ht⟩) hS.2.2 dX12_isMore_54
          · have t_46 : ¬ (((vF 2) kk)).toInt ≤ (((vF 3) kk)).toInt := toI_nle c_46 rfl rfl
            refine lv_iconst (v := 1) hx hb dX12_isMore_49 (by decide) ?_
            refine lv_goto (tgt := 54) hx hb dX12_isMore_50 (by decide) ?_
            refine W.widen (k := 0) (n := 0) (by decide +kernel) (by decide +kernel) ?_
            exact W.zret (v := 1) hx hb hr rfl (fun t9_ ht hW => ⟨⟨1, (), rfl, by (try dsimp only); (have et : vF 2 mn = 0 := by obtain ⟨d9, hd9, e9⟩ := limb0N hlr (q := mn) (by omega); rw [e9, nI_toInt (by omega)] at t_6; rw [e9, show d9 = 0 by omega]; exact nI_0); exact Or.inl ⟨rfl, by rw [lv28_skip0 et]; exact Nat.le_of_lt (lv28_less mn (k := kk) (by omega) hl3 (fun q h1 h2 => by rw [Nat.zero_add]; exact (heq q (by omega) h2).symm) (by rw [Nat.zero_add]; omega))⟩, by rw [ht]; exact hP, hD⟩, hS.F ht⟩) hS.2.2 dX12_isMore_54
  · have t_6 : ¬ (((vF 2) mn)).toInt ≤ 0 := toI_nle c_6 rfl (by decide)
    refine lv_iconst (v := 1) hx hb dX12_isMore_9 (by decide) ?_
    refine W.widen (k := 0) (n := 0) (by decide +kernel) (by decide +kernel) ?_
    exact W.zret (v := 1) hx hb hr rfl (fun t9_ ht hW => ⟨⟨1, (), rfl, by (try dsimp only); exact Or.inl ⟨rfl, by obtain ⟨d9, hd9, e9⟩ := limb0N hlr (q := mn) (by omega); rw [e9, nI_toInt (by omega)] at t_6; rw [lv28_one0 e9 (by omega)]; exact Nat.le_of_lt (lv28_few0 hl3 (by omega))⟩, by rw [ht]; exact hP, hD⟩, hS.F ht⟩) hS.2.2 dX12_isMore_10
end
